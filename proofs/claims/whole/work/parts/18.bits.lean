/-! ===== bits, as numbers ===== -/
theorem nI_z {a : Nat} : Int32.ofInt (a : Int) = nI a := by rw [Int32.ofInt_eq_ofNat]; rfl
theorem bits_and (a b : Nat) : nI a &&& nI b = nI (a &&& b) := by
  apply Int32.toBitVec_inj.1
  show BitVec.ofNat 32 a &&& BitVec.ofNat 32 b = BitVec.ofNat 32 (a &&& b)
  apply BitVec.eq_of_getLsbD_eq
  intro i hi
  simp [hi]
theorem bits_or (a b : Nat) : nI a ||| nI b = nI (a ||| b) := by
  apply Int32.toBitVec_inj.1
  show BitVec.ofNat 32 a ||| BitVec.ofNat 32 b = BitVec.ofNat 32 (a ||| b)
  apply BitVec.eq_of_getLsbD_eq
  intro i hi
  simp [hi]
theorem zand_n {a b : Nat} (ha : a < 2147483648) : zand (a : Int) (b : Int) = ((a &&& b : Nat) : Int) := by
  unfold zand
  rw [nI_z, nI_z, bits_and]
  exact nI_toInt (Nat.lt_of_le_of_lt Nat.and_le_left ha)
theorem zor_n {a b : Nat} (ha : a < 2147483648) (hb : b < 2147483648) : zor (a : Int) (b : Int) = ((a ||| b : Nat) : Int) := by
  unfold zor
  rw [nI_z, nI_z, bits_or]
  exact nI_toInt (Nat.or_lt_two_pow (n := 31) ha hb)
theorem shl_c : ∀ n, n < 32 → ((nI n &&& 31).toBitVec.smod 32).toNat = n := by decide +kernel
theorem zshl_n {a k : Nat} (hk : k < 32) (h : a * 2 ^ k < 2147483648) : zshl (a : Int) (k : Int) = ((a * 2 ^ k : Nat) : Int) := by
  unfold zshl
  rw [nI_z, nI_z, pk_shlN (nI k &&& 31) k (shl_c k hk) (by omega)]
  exact nI_toInt h
theorem zshr_n {a k : Nat} (hk : k < 32) (h : a < 2147483648) : zshr (a : Int) (k : Int) = ((a / 2 ^ k : Nat) : Int) := by
  unfold zshr
  rw [nI_z, nI_z, pk_shrN h (nI k &&& 31) k (shl_c k hk)]
  exact nI_toInt (Nat.lt_of_le_of_lt (Nat.div_le_self _ _) h)
theorem one_shl {k : Nat} (hk : k < 31) : zshl (1 : Int) (k : Int) = ((2 ^ k : Nat) : Int) := by
  have h := zshl_n (a := 1) (k := k) (by omega) (by rw [Nat.one_mul]; exact Nat.lt_of_lt_of_le (Nat.pow_lt_pow_right (by decide) hk) (Nat.le_refl _))
  rw [Nat.one_mul] at h
  exact h
/-- one bit of a set, as the code asks for it -/
theorem bit_n {s k : Nat} (hs : s < 2147483648) (hk : k < 32) : zand (zshr (s : Int) (k : Int)) 1 = if s.testBit k then 1 else 0 := by
  rw [zshr_n hk hs]
  have h := zand_n (a := s / 2 ^ k) (b := 1) (Nat.lt_of_le_of_lt (Nat.div_le_self _ _) hs)
  have e : zand ((s / 2 ^ k : Nat) : Int) 1 = ((s / 2 ^ k &&& 1 : Nat) : Int) := h
  rw [e, Nat.and_one_is_mod]
  have ht : s.testBit k = decide (s / 2 ^ k % 2 = 1) := Nat.testBit_eq_decide_div_mod_eq
  rw [ht]
  by_cases hq : s / 2 ^ k % 2 = 1
  · simp [hq]
  · have : s / 2 ^ k % 2 = 0 := by omega
    simp [this]
/-- nothing of s lies outside of a -/
theorem outside_n {s a : Nat} (hs : s < 2147483648) (ha : a < 2147483648) : zand (s : Int) (zxor (a : Int) (-1)) = 0 ↔ s &&& a = s := by
  unfold zand zxor
  rw [i32_of, nI_z, nI_z, show Int32.ofInt (-1) = -1 from rfl]
  have h0 : (0 : Int) = (0 : Int32).toInt := rfl
  rw [h0, Int32.toInt_inj, ← Int32.toBitVec_inj]
  have e : (nI s &&& (nI a ^^^ (-1))).toBitVec = BitVec.ofNat 32 s &&& (BitVec.ofNat 32 a ^^^ BitVec.allOnes 32) := by
    rw [Int32.toBitVec_and, Int32.toBitVec_xor]; rfl
  rw [e]
  constructor
  · intro h
    apply Nat.eq_of_testBit_eq
    intro i
    by_cases hi : i < 32
    · have h1 : (BitVec.ofNat 32 s &&& (BitVec.ofNat 32 a ^^^ BitVec.allOnes 32)).getLsbD i = (0#32).getLsbD i := congrArg (fun v : BitVec 32 => v.getLsbD i) h
      simp only [BitVec.getLsbD_and, BitVec.getLsbD_xor, BitVec.getLsbD_ofNat, BitVec.getLsbD_allOnes, Nat.zero_testBit, Bool.and_false, hi, decide_true, Bool.true_and, Bool.xor_true] at h1
      rw [Nat.testBit_and]
      cases hb : s.testBit i with
      | false => rfl
      | true =>
        rw [hb] at h1
        cases ha2 : a.testBit i with
        | false => rw [ha2] at h1; cases h1
        | true => rfl
    · have : s.testBit i = false := Nat.testBit_lt_two_pow (Nat.lt_of_lt_of_le hs (Nat.le_trans (by decide : 2147483648 ≤ 2 ^ 31) (Nat.pow_le_pow_right (by decide) (by omega))))
      rw [Nat.testBit_and, this]; rfl
  · intro h
    apply BitVec.eq_of_getLsbD_eq
    intro i hi
    have h1 := congrArg (fun v : Nat => v.testBit i) h
    simp only [Nat.testBit_and] at h1
    show (BitVec.ofNat 32 s &&& (BitVec.ofNat 32 a ^^^ BitVec.allOnes 32)).getLsbD i = (0#32).getLsbD i
    simp only [BitVec.getLsbD_and, BitVec.getLsbD_xor, BitVec.getLsbD_ofNat, BitVec.getLsbD_allOnes, Nat.zero_testBit, Bool.and_false, hi, decide_true, Bool.true_and, Bool.xor_true]
    cases hb : s.testBit i with
    | false => rfl
    | true =>
      rw [hb] at h1
      cases ha2 : a.testBit i with
      | false => rw [ha2] at h1; cases h1
      | true => rfl
-- ===== sets of the first n
/-- the set of those below n whose owner is p -/
def own (ow : Nat → Int) (p : Int) : Nat → Nat
  | 0 => 0
  | k + 1 => if ow k = p then own ow p k ||| 2 ^ k else own ow p k
theorem own_lt (ow : Nat → Int) (p : Int) : ∀ n, own ow p n < 2 ^ n
  | 0 => by simp [own]
  | k + 1 => by
    have h := own_lt ow p k
    have h2 : (2 : Nat) ^ k < 2 ^ (k + 1) := Nat.pow_lt_pow_right (by decide) (by omega)
    unfold own
    split
    · exact Nat.or_lt_two_pow (Nat.lt_trans h h2) h2
    · omega
theorem own_bit (ow : Nat → Int) (p : Int) : ∀ (n j : Nat), (own ow p n).testBit j = (decide (j < n) && decide (ow j = p))
  | 0, j => by simp [own]
  | k + 1, j => by
    have h := own_bit ow p k j
    unfold own
    by_cases hj : j = k
    · subst hj
      split
      next hq => rw [Nat.testBit_or, h]; simp [hq]
      next hq => rw [h]; simp [hq]
    · have e : (decide (j < k + 1)) = decide (j < k) := by
        rw [decide_eq_decide]; omega
      split
      · rw [Nat.testBit_or, h, Nat.testBit_two_pow_of_ne (Ne.symm hj), e, Bool.or_false]
      · rw [h, e]
theorem own_congr {ow ow' : Nat → Int} {p : Int} : ∀ {n : Nat}, (∀ t, t < n → ow t = ow' t) → own ow p n = own ow' p n
  | 0, _ => rfl
  | k + 1, h => by
    unfold own
    rw [own_congr (fun t ht => h t (by omega)), h k (by omega)]
/-- the sum of a set's worths -/
def setW (w : Nat → Int) (s : Nat) : Nat → Int
  | 0 => 0
  | k + 1 => setW w s k + (if s.testBit k then w k else 0)
theorem setW_congr {w w' : Nat → Int} {s : Nat} : ∀ {n : Nat}, (∀ t, t < n → w t = w' t) → setW w s n = setW w' s n
  | 0, _ => rfl
  | k + 1, h => by
    unfold setW
    rw [setW_congr (fun t ht => h t (by omega)), h k (by omega)]
theorem setW_bound {w : Nat → Int} {s : Nat} {B : Int} : ∀ {n : Nat}, (∀ t, t < n → 0 ≤ w t ∧ w t ≤ B) → 0 ≤ B → 0 ≤ setW w s n ∧ setW w s n ≤ B * n
  | 0, _, _ => by simp [setW]
  | k + 1, h, hB => by
    have h1 := setW_bound (s := s) (n := k) (fun t ht => h t (by omega)) hB
    have h2 := h k (by omega)
    have e : B * ((k + 1 : Nat) : Int) = B * (k : Int) + B := by rw [Int.natCast_succ, Int.mul_add, Int.mul_one]
    rw [e]
    unfold setW
    split <;> omega
theorem up_loop {n : Nat} {G : Nat → Prop} (h0 : G n) (hs : ∀ k, k < n → G (k + 1) → G k) : ∀ k, k ≤ n → G k := by
  intro k hk
  induction h : n - k generalizing k with
  | zero => rw [show k = n by omega]; exact h0
  | succ d ih => exact hs k (by omega) (ih (k + 1) (by omega) (by omega))
-- ===== what a call answers, and leaves
def retI (v : Int) (M0 : Mem) : Option AV → Mem → Prop := fun r M1 => r = some (vi v) ∧ M1 = M0
def retL (v : Int) (M0 : Mem) : Option AV → Mem → Prop := fun r M1 => r = some (vl v) ∧ M1 = M0
def ret0 (M0 : Mem) : Option AV → Mem → Prop := fun r M1 => r = none ∧ M1 = M0
theorem on {v : Int} {M0 : Mem} {G : Int → Mem → Prop} (h : G v M0) : ∀ (z : Int) (M1 : Mem), retI v M0 (some (vi z)) M1 → G z M1 := by
  rintro z M1 ⟨h1, rfl⟩
  cases h1
  exact h
theorem onL {v : Int} {M0 : Mem} {G : Int → Mem → Prop} (h : G v M0) : ∀ (z : Int) (M1 : Mem), retL v M0 (some (vl z)) M1 → G z M1 := by
  rintro z M1 ⟨h1, rfl⟩
  cases h1
  exact h
theorem on0 {M0 : Mem} {G : Mem → Prop} (h : G M0) : ∀ (M1 : Mem), ret0 M0 none M1 → G M1 := by
  rintro M1 ⟨-, rfl⟩
  exact h
theorem ret_eq {v v' : Int} {M0 M1 : Mem} (h : v = v') : retI v' M0 (some (vi v)) M0 := ⟨by rw [h], rfl⟩
theorem cast1 (k : Nat) : ((k : Int) + (1 : Int)) = ((k + 1 : Nat) : Int) := by omega
