/-! ===== the subsets of a set, one behind the other ===== -/
theorem half_and {a b : Nat} : (a &&& b) / 2 = (a / 2) &&& (b / 2) := by
  apply Nat.eq_of_testBit_eq
  intro i
  rw [Nat.testBit_and, Nat.testBit_div_two, Nat.testBit_div_two, Nat.testBit_div_two, Nat.testBit_and]
theorem half_xor {a b : Nat} : (a ^^^ b) / 2 = (a / 2) ^^^ (b / 2) := by
  apply Nat.eq_of_testBit_eq
  intro i
  rw [Nat.testBit_xor, Nat.testBit_div_two, Nat.testBit_div_two, Nat.testBit_div_two, Nat.testBit_xor]
theorem low_b (a : Nat) : a % 2 = if a.testBit 0 then 1 else 0 := by
  rw [Nat.testBit_zero]
  rcases Nat.mod_two_eq_zero_or_one a with h | h <;> rw [h] <;> rfl
theorem low_and {a b : Nat} : (a &&& b) % 2 = if a % 2 = 1 ∧ b % 2 = 1 then 1 else 0 := by
  rw [low_b (a &&& b), Nat.testBit_and, low_b a, low_b b]
  cases a.testBit 0 <;> cases b.testBit 0 <;> rfl
theorem low_xor {a b : Nat} : (a ^^^ b) % 2 = (a % 2 + b % 2) % 2 := by
  rw [low_b (a ^^^ b), Nat.testBit_xor, low_b a, low_b b]
  cases a.testBit 0 <;> cases b.testBit 0 <;> rfl
theorem sub_half {r S : Nat} (h : r &&& S = r) : (r / 2) &&& (S / 2) = r / 2 ∧ (r % 2 = 1 → S % 2 = 1) := by
  refine ⟨by rw [← half_and, h], fun h1 => ?_⟩
  have h2 := low_and (a := r) (b := S)
  rw [h] at h2
  split at h2 <;> omega
theorem sub_le {r S : Nat} (h : r &&& S = r) : r ≤ S := by rw [← h]; exact Nat.and_le_right
theorem xor_add : ∀ (n S r : Nat), S < 2 ^ n → r &&& S = r → (S ^^^ r) + r = S
  | 0, S, r, h, hs => by
    have h1 : S = 0 := by simpa using h
    subst h1
    have := sub_le hs
    have h2 : r = 0 := by omega
    subst h2
    rfl
  | n + 1, S, r, h, hs => by
    obtain ⟨h1, h2⟩ := sub_half hs
    have ih := xor_add n (S / 2) (r / 2) (by rw [Nat.pow_succ] at h; omega) h1
    have e1 := half_xor (a := S) (b := r)
    have e2 := low_xor (a := S) (b := r)
    rw [← e1] at ih
    omega
theorem sub_xor {S r : Nat} (h : r &&& S = r) : S - r = S ^^^ r := by
  have := xor_add S S r Nat.lt_two_pow_self h
  omega
theorem compl_sub {S r : Nat} (h : r &&& S = r) : (S - r) &&& S = S - r := by
  rw [sub_xor h]
  apply Nat.eq_of_testBit_eq
  intro i
  have h1 := congrArg (fun v : Nat => v.testBit i) h
  simp only [Nat.testBit_and] at h1
  rw [Nat.testBit_and, Nat.testBit_xor]
  cases hr : r.testBit i <;> cases hs : S.testBit i <;> simp_all
/-- among the subsets below c the greatest is S with c - 1 -/
theorem sub_top : ∀ (n S c e : Nat), S < 2 ^ n → c &&& S = c → e &&& S = e → e < c → e ≤ S &&& (c - 1)
  | 0, S, c, e, h, hc, he, hl => by
    have h1 : S = 0 := by simpa using h
    subst h1
    have := sub_le hc
    omega
  | n + 1, S, c, e, h, hc, he, hl => by
    obtain ⟨c1, c2⟩ := sub_half hc
    obtain ⟨e1, e2⟩ := sub_half he
    have hS : S / 2 < 2 ^ n := by rw [Nat.pow_succ] at h; omega
    have a1 := half_and (a := S) (b := c - 1)
    have a2 := low_and (a := S) (b := c - 1)
    rcases Nat.mod_two_eq_zero_or_one c with hm | hm
    · have ih := sub_top n (S / 2) (c / 2) (e / 2) hS c1 e1 (by omega)
      rw [show (c - 1) / 2 = c / 2 - 1 by omega] at a1
      rw [← a1] at ih
      have hq : (c - 1) % 2 = 1 := by omega
      rw [hq] at a2
      split at a2 <;> omega
    · rw [show (c - 1) / 2 = c / 2 by omega, Nat.and_comm (S / 2) (c / 2), c1] at a1
      omega
/-- the subset behind p, or 0 behind the last -/
def nxt (S p : Nat) : Nat := if p = S then 0 else S - (S &&& (S - p - 1))
theorem nxt_ok {S p : Nat} (h : p &&& S = p) (hne : p ≠ S) : nxt S p &&& S = nxt S p ∧ p < nxt S p ∧ ∀ r, r &&& S = r → p < r → nxt S p ≤ r := by
  have hle := sub_le h
  unfold nxt
  rw [if_neg hne]
  have hd : (S &&& (S - p - 1)) &&& S = S &&& (S - p - 1) := by
    rw [Nat.and_comm, ← Nat.and_assoc, Nat.and_self]
  have hd2 : S &&& (S - p - 1) ≤ S - p - 1 := Nat.and_le_right
  refine ⟨compl_sub hd, by omega, fun r hr hpr => ?_⟩
  have hrl := sub_le hr
  have := sub_top S S (S - p) (S - r) Nat.lt_two_pow_self (compl_sub h) (compl_sub hr) (by omega)
  omega
theorem sub_ind {S : Nat} {G : Nat → Prop} (h : ∀ x, x &&& S = x → (x ≠ S → G (nxt S x)) → G x) : ∀ x, x &&& S = x → G x := by
  intro x hx
  induction hd : S - x using Nat.strongRecOn generalizing x with
  | _ d ih =>
    refine h x hx (fun hne => ?_)
    obtain ⟨h1, h2, -⟩ := nxt_ok hx hne
    have hle := sub_le hx
    have hle2 := sub_le h1
    exact ih (S - nxt S x) (by omega) (nxt S x) h1 rfl
theorem neg_bits {d : Nat} (h : d < 2147483648) : Int32.ofInt (-(d : Int) - 1) = nI d ^^^ (-1) := by
  have e : nI d ^^^ (-1) = ~~~ (nI d) := by
    apply Int32.toBitVec_inj.1
    rw [Int32.toBitVec_xor, Int32.toBitVec_not]
    exact BitVec.xor_allOnes
  rw [e, Int32.not_eq_neg_add, ← nI_z, Int32.ofInt_sub, Int32.ofInt_neg]
  rfl
theorem next_z {S p : Nat} (hS : S < 2147483648) (h : p &&& S = p) : zand ((p : Int) - (S : Int)) (S : Int) = ((nxt S p : Nat) : Int) := by
  have hle := sub_le h
  unfold nxt
  split
  next hq =>
    subst hq
    have e := zand_n (a := 0) (b := p) (by decide)
    rw [Nat.zero_and] at e
    rw [Int.sub_self]
    exact e
  next hq =>
    obtain ⟨d, hd⟩ : ∃ d, d = S - p - 1 := ⟨_, rfl⟩
    rw [← hd, show (p : Int) - (S : Int) = -(d : Int) - 1 by omega]
    have hsub : (S &&& d) &&& S = S &&& d := by rw [Nat.and_comm, ← Nat.and_assoc, Nat.and_self]
    rw [sub_xor hsub]
    unfold zand
    rw [neg_bits (by omega), nI_z]
    have e : (nI d ^^^ (-1)) &&& nI S = nI (S ^^^ (S &&& d)) := by
      apply Int32.toBitVec_inj.1
      rw [Int32.toBitVec_and, Int32.toBitVec_xor]
      show (BitVec.ofNat 32 d ^^^ BitVec.allOnes 32) &&& BitVec.ofNat 32 S = BitVec.ofNat 32 (S ^^^ (S &&& d))
      apply BitVec.eq_of_getLsbD_eq
      intro i hi
      simp only [BitVec.getLsbD_and, BitVec.getLsbD_xor, BitVec.getLsbD_ofNat, BitVec.getLsbD_allOnes, Nat.testBit_xor, Nat.testBit_and, hi, decide_true, Bool.true_and, Bool.xor_true]
      cases d.testBit i <;> cases S.testBit i <;> rfl
    rw [e]
    have hl : S ^^^ (S &&& d) ≤ S := by rw [← sub_xor hsub]; omega
    exact nI_toInt (by omega)
