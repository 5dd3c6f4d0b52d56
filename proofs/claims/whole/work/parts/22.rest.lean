/-! ===== Bargains, Ring, Slot ===== -/
theorem oB_lt {w : Nat} (h : w < 3) : oB w < 100 := by unfold oB; omega
theorem oT_ge {t : Nat} : 100 ≤ oT t := by unfold oT; omega
theorem oC_ge {t : Nat} : 100 ≤ oC t := by unfold oC; omega
theorem copT_o {M : Mem} {t u o j : Nat} (h1 : o ≠ oT t) (h2 : o ≠ oC t) : copT M t u o j = M o j := by
  unfold copT
  rw [cpyM_ne _ h2, up2_o h1]
theorem copT_T {M : Mem} {t u : Nat} : copT M t u (oT t) 1 = M (oT u) 1 := by
  unfold copT
  rw [cpyM_ne _ oTC, up2_eq]
theorem copT_C {M : Mem} {t u j : Nat} (h : j < 150) : copT M t u (oC t) j = M (oC u) j := by
  unfold copT cpyM
  rw [if_pos ⟨rfl, by omega, by omega⟩, up2_o oCT]
  congr 1
  omega
section RS
variable {X : Scr} {M : Mem}
theorem remember_n {w t b : Nat} (hw : w < 3) (ht : t < 27) (hb : M (oB w) 1 = (b : Int)) (hb8 : b < 8) : Call X mX0_remember [vr (oB w), vr (oT t)] M (ret0 (up2 (copT M (9 * w + 1 + b) t) (oB w) 1 (b + 1))) := by
  refine kX0_remember_0 (fun h => by omega) (fun h => ?_)
  refine kX0_remember_7 (fun h => by omega) (fun h => ?_)
  have e : (M (oB w) 1).toNat = b := by omega
  have e2 : copT M (9 * w + 1 + b) t (oB w) 1 = (b : Int) := by
    have h1 := oB_lt hw
    have h2 := oT_ge (t := 9 * w + 1 + b)
    have h3 := oC_ge (t := 9 * w + 1 + b)
    rw [copT_o (by omega) (by omega)]
    exact hb
  refine kX0_remember_19 (by rw [e]; exact copyFrom_n (by omega) ht) (on0 ?_)
  refine kX0_remember_44 (kX0_remember_54 ⟨rfl, ?_⟩) (h1 := by rw [e2]; omega)
  rw [e2]
theorem btake_n {w t b n : Nat} (hw : w < 3) (ht : t < 27) (hb : M (oB w) 1 = ((b + 1 : Nat) : Int)) (hb8 : b < 8) (htu : t ≠ 9 * w + 1 + b) (hn : n ≤ 10) (hM : M (oT (9 * w + 1 + b)) 1 = (n : Int)) : Call X mX0_takeBack [vr (oB w), vr (oT t)] M (ret0 (tbM (up2 M (oB w) 1 b) t (9 * w + 1 + b) n)) := by
  refine kX0_takeBack_0 (fun h => by omega) (fun h => ?_)
  refine kX0_takeBack_7 (fun h => by omega) (fun h => ?_)
  have e : M (oB w) 1 - 1 = (b : Int) := by omega
  refine kX0_takeBack_19 (Q := ret0 (tbM (up2 M (oB w) 1 b) t (9 * w + 1 + b) n)) ?_ (on0 (kX0_takeBack_42 ⟨rfl, rfl⟩)) (h2 := by rw [up2_eq]; omega) (h3 := by rw [up2_eq]; omega)
  rw [e, up2_eq, show ((b : Int)).toNat = b by omega]
  have h1 := oB_lt hw
  have h2 := oT_ge (t := 9 * w + 1 + b)
  exact takeBack_n ht (by omega) htu hn (by rw [up2_o (by omega)]; exact hM)
/-- the first k of v's bargains, also in w -/
def bcp (M : Mem) (w v : Nat) : Nat → Mem
  | 0 => M
  | k + 1 => copT (bcp M w v k) (9 * w + 1 + k) (9 * v + 1 + k)
theorem bcp_B {w v o j : Nat} (h : o < 100) : ∀ k, bcp M w v k o j = M o j
  | 0 => rfl
  | k + 1 => by
    have h2 := oT_ge (t := 9 * w + 1 + k)
    have h3 := oC_ge (t := 9 * w + 1 + k)
    show copT (bcp M w v k) (9 * w + 1 + k) (9 * v + 1 + k) o j = M o j
    rw [copT_o (by omega) (by omega), bcp_B h k]
theorem bcop_n {w v b : Nat} (hw : w < 3) (hv : v < 3) (hb : M (oB v) 1 = (b : Int)) (hb8 : b ≤ 8) : Call X mX0_copyFrom [vr (oB w), vr (oB v)] M (ret0 (bcp (up2 M (oB w) 1 b) w v b)) := by
  refine kX0_copyFrom_0 ?_
  rw [hb]
  have hB : ∀ k, bcp (up2 M (oB w) 1 b) w v k (oB w) 1 = (b : Int) := fun k => by
    rw [bcp_B (oB_lt hw) k, up2_eq]
  refine up_loop (n := b) (G := fun k => Runs X mX0_copyFrom 10 [(0, vr (oB w)), (1, vr (oB v)), (2, vi (k : Int))] [] (bcp (up2 M (oB w) 1 b) w v k) (ret0 (bcp (up2 M (oB w) 1 b) w v b))) ?_ ?_ 0 (Nat.zero_le _)
  · exact kX0_copyFrom_10 (fun h => kX0_copyFrom_66 ⟨rfl, rfl⟩) (fun h => by rw [hB] at h; omega)
  · intro k hk ih
    refine kX0_copyFrom_10 (fun h => by rw [hB] at h; omega) (fun h => ?_)
    refine kX0_copyFrom_18 (fun h => by omega) (fun h => ?_)
    refine kX0_copyFrom_27 (fun h => by omega) (fun h => ?_)
    refine kX0_copyFrom_36 (by rw [show ((k : Int)).toNat = k by omega]; exact copyFrom_n (by omega) (by omega)) (on0 ?_)
    refine kX0_copyFrom_60 ?_
    rw [cast1]
    exact ih
-- ===== Slot
def takM (M : Mem) (s b : Nat) : Mem := up2 (rcopM (bcp (up2 (copT M (9 * (s + 1)) 0) (oB (s + 1)) 1 b) (s + 1) 0 b) (s + 1) 0) (oS s) 3 1
theorem takeIn_n {s b : Nat} (hs : s < 2) (hb : M (oB 0) 1 = (b : Int)) (hb8 : b ≤ 8) : Call X mX5_takeIn [vr (oS s), vr (oT 0), vr (oB 0), vr (oR 0)] M (ret0 (takM M s b)) := by
  refine kX5_takeIn_0 (copyFrom_n (by omega) (by omega)) (on0 ?_)
  refine kX5_takeIn_8 (bcop_n (b := b) (by omega) (by omega) ?_ hb8) (on0 ?_)
  · rw [copT_o (by have := oT_ge (t := 9 * (s + 1)); unfold oB; omega) (by have := oC_ge (t := 9 * (s + 1)); unfold oB; omega)]
    exact hb
  · refine kX5_takeIn_16 (rcop_n (by omega) (by omega)) (on0 ?_)
    exact kX5_takeIn_24 ⟨rfl, rfl⟩
def givM (M : Mem) (s b : Nat) : Mem := rcopM (bcp (up2 (copT M 0 (9 * (s + 1))) (oB 0) 1 b) 0 (s + 1) b) 0 (s + 1)
theorem giveOut_n {s b : Nat} (hs : s < 2) (hb : M (oB (s + 1)) 1 = (b : Int)) (hb8 : b ≤ 8) : Call X mX5_giveOut [vr (oS s), vr (oT 0), vr (oB 0), vr (oR 0)] M (ret0 (givM M s b)) := by
  refine kX5_giveOut_0 (copyFrom_n (by omega) (by omega)) (on0 ?_)
  refine kX5_giveOut_8 (bcop_n (b := b) (by omega) (by omega) ?_ hb8) (on0 ?_)
  · rw [copT_o (by have := oT_ge (t := 0); unfold oB; omega) (by have := oC_ge (t := 0); unfold oB; omega)]
    exact hb
  · refine kX5_giveOut_16 (rcop_n (by omega) (by omega)) (on0 ?_)
    exact kX5_giveOut_24 ⟨rfl, rfl⟩
-- ===== Ring
theorem rclear_n : Call X mX4_clear [vr 34] M (ret0 (up2 (up2 (up2 (up2 M 34 0 0) 34 1 0) 34 2 0) 34 3 1)) := kX4_clear_0 ⟨rfl, rfl⟩
/-- the i-th of a ring's monies, out of its code -/
def dg (code many i : Nat) : Nat := code / 4 ^ (many - 1 - i) % 4
theorem dg_lt {code many i : Nat} : dg code many i < 4 := Nat.mod_lt _ (by decide)
theorem moneyAt_n {code many i : Nat} (hc : code < 2147483648) (hm : many ≤ 4) (hi : i < many) : Call X mX4_moneyAt [vi (code : Int), vi (many : Int), vi (i : Int)] M (retI (dg code many i : Nat) M) := by
  refine kX4_moneyAt_0 ⟨?_, rfl⟩
  rw [show (2 : Int) * ((many : Int) - 1 - (i : Int)) = ((2 * (many - 1 - i) : Nat) : Int) by omega, zshr_n (by omega) hc]
  have h := zand_n (a := code / 2 ^ (2 * (many - 1 - i))) (b := 3) (Nat.lt_of_le_of_lt (Nat.div_le_self _ _) hc)
  have e : zand ((code / 2 ^ (2 * (many - 1 - i)) : Nat) : Int) 3 = ((code / 2 ^ (2 * (many - 1 - i)) &&& 3 : Nat) : Int) := h
  rw [e]
  have e3 : code / 2 ^ (2 * (many - 1 - i)) &&& 3 = code / 2 ^ (2 * (many - 1 - i)) % 4 := Nat.and_two_pow_sub_one_eq_mod _ 2
  rw [e3, Nat.pow_mul]
  rfl
/-- each money once, the least first -/
def isR (code many : Nat) : Prop := ∀ i, i < many → 1 ≤ i → dg code many 0 ≤ dg code many i ∧ ∀ e, e < i → dg code many e ≠ dg code many i
/-- the monies ahead of the i-th, as bits -/
def seenF (code many : Nat) : Nat → Nat
  | 0 => 0
  | k + 1 => seenF code many k ||| 2 ^ dg code many k
theorem seen_lt {code many : Nat} : ∀ k, seenF code many k < 2 ^ 4
  | 0 => by simp [seenF]
  | k + 1 => Nat.or_lt_two_pow (seen_lt k) (Nat.pow_lt_pow_right (by decide) dg_lt)
theorem seen_bit {code many x : Nat} : ∀ k, (seenF code many k).testBit x = true ↔ ∃ e, e < k ∧ dg code many e = x
  | 0 => by simp [seenF]
  | k + 1 => by
    unfold seenF
    rw [Nat.testBit_or, Bool.or_eq_true, seen_bit k, Nat.testBit_two_pow, decide_eq_true_eq]
    constructor
    · rintro (⟨e, h1, h2⟩ | h)
      · exact ⟨e, by omega, h2⟩
      · exact ⟨k, by omega, h⟩
    · rintro ⟨e, h1, h2⟩
      by_cases h : e = k
      · exact Or.inr (by rw [← h]; exact h2)
      · exact Or.inl ⟨e, by omega, h2⟩
theorem isRing_n {code many : Nat} (hc : code < 2147483648) (hm : many ≤ 4) (h1 : 1 ≤ many) : Call X mX4_isRing [vi (code : Int), vi (many : Int)] M (fun r M1 => M1 = M ∧ ((r = some (vi 1) ∧ isR code many) ∨ (r = some (vi 0) ∧ ¬ isR code many))) := by
  refine kX4_isRing_0 (moneyAt_n (i := 0) hc hm (by omega)) (on ?_)
  refine kX4_isRing_6 ?_
  rw [one_shl (Nat.lt_trans dg_lt (by decide))]
  have e1 : seenF code many 1 = 2 ^ dg code many 0 := by simp [seenF]
  rw [← e1]
  have go : ∀ k, k ≤ many → (1 ≤ k → (∀ i, i < k → 1 ≤ i → dg code many 0 ≤ dg code many i ∧ ∀ e, e < i → dg code many e ≠ dg code many i) → Runs X mX4_isRing 14 [(0, vi (code : Int)), (1, vi (many : Int)), (2, vi (dg code many 0 : Nat)), (3, vi (seenF code many k : Nat)), (4, vi (k : Int))] [] M (fun r M1 => M1 = M ∧ ((r = some (vi 1) ∧ isR code many) ∨ (r = some (vi 0) ∧ ¬ isR code many)))) := by
    refine up_loop (n := many) ?_ ?_
    · intro _ hI
      exact kX4_isRing_14 (fun h => kX4_isRing_60 ⟨rfl, Or.inl ⟨rfl, hI⟩⟩) (fun h => by omega)
    · intro k hk ih h1k hI
      have hs := seen_lt (code := code) (many := many) k
      refine kX4_isRing_14 (fun h => by omega) (fun h => ?_)
      refine kX4_isRing_20 (moneyAt_n hc hm hk) (on ?_)
      have hdl := dg_lt (code := code) (many := many) (i := k)
      refine kX4_isRing_27 (fun h2 => ?_) (fun h2 => ?_)
      · refine kX4_isRing_45 ⟨rfl, Or.inr ⟨rfl, fun hR => ?_⟩⟩
        have := (hR k hk h1k).1
        omega
      · refine kX4_isRing_35 (fun h3 => ?_) (fun h3 => ?_)
        · rw [bit_n (by omega) (by omega)] at h3
          refine kX4_isRing_47 ?_
          rw [one_shl (by omega), zor_n (by omega) (by have : (2 : Nat) ^ dg code many k ≤ 2 ^ 4 := Nat.pow_le_pow_right (by decide) (by omega); omega), cast1]
          refine ih (by omega) (fun i hi h1i => ?_)
          by_cases hik : i = k
          · subst hik
            refine ⟨by omega, fun e he hq => h3 ?_⟩
            rw [if_pos ((seen_bit i).mpr ⟨e, he, hq⟩)]
          · exact hI i (by omega) h1i
        · rw [bit_n (by omega) (by omega)] at h3
          refine kX4_isRing_45 ⟨rfl, Or.inr ⟨rfl, fun hR => ?_⟩⟩
          have hb : (seenF code many k).testBit (dg code many k) = true := by
            cases hq : (seenF code many k).testBit (dg code many k) with
            | true => rfl
            | false => rw [hq] at h3; simp at h3
          obtain ⟨e, he, hq⟩ := (seen_bit k).mp hb
          exact (hR k hk h1k).2 e he hq
  exact go 1 h1 (Nat.le_refl 1) (fun i hi h1i => by omega)
/-- the places of the rates that a ring uses -/
def rpl (code many i : Nat) : Nat := 4 * dg code many i + dg code many (if i + 1 < many then i + 1 else 0)
def prodF (f : Nat → Int) : Nat → Int
  | 0 => 1
  | k + 1 => prodF f k * f k
theorem prodF_bound {f : Nat → Int} {n : Nat} (hn : n ≤ 4) (h : ∀ i, i < n → 1 ≤ f i ∧ f i ≤ 99) : 1 ≤ prodF f n ∧ prodF f n ≤ 99 ^ n := by
  induction n with
  | zero => simp [prodF]
  | succ k ih =>
    obtain ⟨h1, h2⟩ := ih (by omega) (fun i hi => h i (by omega))
    have h3 := h k (by omega)
    unfold prodF
    constructor
    · have := Int.mul_le_mul h1 h3.1 (by decide) (by omega)
      omega
    · have := Int.mul_le_mul h2 h3.2 (by omega) (by omega)
      rw [Int.pow_succ]
      exact this
theorem prodF_b4 {f : Nat → Int} {n : Nat} (hn : n ≤ 4) (h : ∀ i, i < n → 1 ≤ f i ∧ f i ≤ 99) : 1 ≤ prodF f n ∧ prodF f n ≤ 96059601 := by
  obtain ⟨h1, h2⟩ := prodF_bound hn h
  refine ⟨h1, Int.le_trans h2 ?_⟩
  rcases (show n = 0 ∨ n = 1 ∨ n = 2 ∨ n = 3 ∨ n = 4 by omega) with rfl | rfl | rfl | rfl | rfl <;> decide
theorem prodF_congr {f g : Nat → Int} : ∀ {n : Nat}, (∀ t, t < n → f t = g t) → prodF f n = prodF g n
  | 0, _ => rfl
  | k + 1, h => by
    unfold prodF
    rw [prodF_congr (fun t ht => h t (by omega)), h k (by omega)]
/-- what is offered to Ring -/
def roffM (M : Mem) (code many : Nat) (a b : Int) : Mem := if M 34 2 * b < a * M 34 3 then up2 (up2 (up2 (up2 M 34 0 code) 34 1 many) 34 2 a) 34 3 b else M
theorem mul_inL {a b : Int} (ha : 0 ≤ a ∧ a ≤ 96059601) (hb : 0 ≤ b ∧ b ≤ 96059601) : 0 ≤ a * b ∧ a * b ≤ 9223372036854775807 := by
  refine ⟨Int.mul_nonneg ha.1 hb.1, ?_⟩
  have := Int.mul_le_mul ha.2 hb.2 hb.1 (by decide)
  omega
theorem roffer_n {w code many : Nat} (hw : w < 3) (hc : code < 2147483648) (hm : many ≤ 4) (hr : ∀ k, k < 16 → (1 ≤ M (oG w) k ∧ M (oG w) k ≤ 99) ∧ 1 ≤ M (oN w) k ∧ M (oN w) k ≤ 99) (hb : (0 ≤ M 34 2 ∧ M 34 2 ≤ 96059601) ∧ 0 ≤ M 34 3 ∧ M 34 3 ≤ 96059601) :
    Call X mX4_offer [vr 34, vr (oR w), vi (code : Int), vi (many : Int)] M (ret0 (roffM M code many (prodF (fun i => M (oG w) (rpl code many i)) many) (prodF (fun i => M (oN w) (rpl code many i)) many))) := by
  have hpl : ∀ i, rpl code many i < 16 := fun i => by
    have h1 := dg_lt (code := code) (many := many) (i := i)
    have h2 := dg_lt (code := code) (many := many) (i := (if i + 1 < many then i + 1 else 0))
    unfold rpl
    omega
  have hG := fun n (hn : n ≤ many) => prodF_b4 (f := fun i => M (oG w) (rpl code many i)) (n := n) (by omega) (fun i _ => (hr _ (hpl i)).1)
  have hN := fun n (hn : n ≤ many) => prodF_b4 (f := fun i => M (oN w) (rpl code many i)) (n := n) (by omega) (fun i _ => (hr _ (hpl i)).2)
  refine kX4_offer_0 ?_
  refine up_loop (n := many) (G := fun k => Runs X mX4_offer 9 [(0, vr 34), (1, vr (oR w)), (2, vi (code : Int)), (3, vi (many : Int)), (4, vl (prodF (fun i => M (oG w) (rpl code many i)) k)), (6, vl (prodF (fun i => M (oN w) (rpl code many i)) k)), (8, vi (k : Int))] [] M (ret0 (roffM M code many (prodF (fun i => M (oG w) (rpl code many i)) many) (prodF (fun i => M (oN w) (rpl code many i)) many)))) ?_ ?_ 0 (Nat.zero_le _)
  · refine kX4_offer_9 (fun h => ?_) (fun h => by omega)
    have hg := hG many (Nat.le_refl _)
    have hn := hN many (Nat.le_refl _)
    have m1 := mul_inL (a := prodF (fun i => M (oG w) (rpl code many i)) many) (b := M 34 3) ⟨by omega, hg.2⟩ hb.2
    have m2 := mul_inL (a := M 34 2) (b := prodF (fun i => M (oN w) (rpl code many i)) many) hb.1 ⟨by omega, hn.2⟩
    refine kX4_offer_81 (fun h2 => ?_) (fun h2 => ?_)
    · refine kX4_offer_121 ⟨rfl, ?_⟩
      unfold roffM
      rw [if_neg (by omega)]
    · refine kX4_offer_99 (kX4_offer_121 ⟨rfl, ?_⟩)
      unfold roffM
      rw [if_pos h2]
  · intro k hk ih
    have hg := hG k (by omega)
    have hn := hN k (by omega)
    have hg1 := hG (k + 1) (by omega)
    have hn1 := hN (k + 1) (by omega)
    have hdk := dg_lt (code := code) (many := many) (i := k)
    have fin : ∀ j : Nat, j = (if k + 1 < many then k + 1 else 0) → Runs X mX4_offer 42 [(0, vr 34), (1, vr (oR w)), (2, vi (code : Int)), (3, vi (many : Int)), (4, vl (prodF (fun i => M (oG w) (rpl code many i)) k)), (6, vl (prodF (fun i => M (oN w) (rpl code many i)) k)), (8, vi (k : Int)), (9, vi (dg code many k : Nat))] [vi (j : Int), vi (many : Int), vi (code : Int)] M (ret0 (roffM M code many (prodF (fun i => M (oG w) (rpl code many i)) many) (prodF (fun i => M (oN w) (rpl code many i)) many))) := by
      intro j hj
      refine kX4_offer_42 (moneyAt_n hc hm (by rw [hj]; split <;> omega)) (on ?_)
      have hdj := dg_lt (code := code) (many := many) (i := j)
      have ep : rpl code many k = 4 * dg code many k + dg code many j := by unfold rpl; rw [← hj]
      refine kX4_offer_45 (gotFor_n hw (by omega) (by omega)) (on ?_)
      have eG : prodF (fun i => M (oG w) (rpl code many i)) (k + 1) = prodF (fun i => M (oG w) (rpl code many i)) k * M (oG w) (4 * dg code many k + dg code many j) := by rw [← ep]; rfl
      have eN : prodF (fun i => M (oN w) (rpl code many i)) (k + 1) = prodF (fun i => M (oN w) (rpl code many i)) k * M (oN w) (4 * dg code many k + dg code many j) := by rw [← ep]; rfl
      refine kX4_offer_57 (givenFor_n hw (by omega) (by omega)) (on ?_) (h1 := by rw [← eG]; omega)
      refine kX4_offer_71 ?_ (h1 := by rw [← eN]; omega)
      rw [cast1, ← eG, ← eN]
      exact ih
    refine kX4_offer_9 (fun h => by omega) (fun h => ?_)
    refine kX4_offer_15 (moneyAt_n hc hm hk) (on ?_)
    refine kX4_offer_22 (fun h2 => ?_) (fun h2 => ?_)
    · exact kX4_offer_41 (fin 0 (by rw [if_neg (by omega)]))
    · refine kX4_offer_34 ?_
      rw [cast1]
      exact fin (k + 1) (by rw [if_pos (by omega)])
end RS
