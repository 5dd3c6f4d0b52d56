/-! ===== TeethForCoins: what is behind its methods ===== -/
theorem mulb {a b : Int} {A B : Nat} (ha : 0 ≤ a ∧ a ≤ A) (hb : 0 ≤ b ∧ b ≤ B) : 0 ≤ a * b ∧ a * b ≤ A * B :=
  ⟨Int.mul_nonneg ha.1 hb.1, Int.mul_le_mul ha.2 hb.2 hb.1 (by omega)⟩
/-- what a tooth is worth: loss, rate, size, left or not, wear -/
def wv (l r s lf w : Int) : Int := if 10 * s - l * w < 0 then 0 else if lf = 1 then r * (10 * s - l * w) else 10 * s - l * w
theorem wv_in {l r s lf w : Int} (hl : 0 ≤ l ∧ l ≤ 9) (hr : 1 ≤ r ∧ r ≤ 9) (hs : 1 ≤ s ∧ s ≤ 9) (hw : 0 ≤ w ∧ w ≤ 99) : 0 ≤ wv l r s lf w ∧ wv l r s lf w ≤ 810 := by
  have h1 := mulb (A := 9) (B := 99) (by omega) (by omega : 0 ≤ w ∧ w ≤ ((99 : Nat) : Int)) (a := l)
  unfold wv
  split
  · omega
  · split
    · have h2 := mulb (a := r) (b := 10 * s - l * w) (A := 9) (B := 90) (by omega) (by omega)
      omega
    · omega
/-- the class's teeth: how many, and that all is in its bounds -/
def XT (M : Mem) (n : Nat) : Prop := n ≤ 10 ∧ M (oT 0) 1 = (n : Int) ∧ (0 ≤ M 0 6 ∧ M 0 6 ≤ 9) ∧ (1 ≤ M 0 7 ∧ M 0 7 ≤ 9) ∧
  ∀ t, t < n → (1 ≤ M (oC 0) (15 * t) ∧ M (oC 0) (15 * t) ≤ 9) ∧ (0 ≤ M (oC 0) (15 * t + 1) ∧ M (oC 0) (15 * t + 1) ≤ 1) ∧ (0 ≤ M (oC 0) (15 * t + 2) ∧ M (oC 0) (15 * t + 2) ≤ 99) ∧ (0 ≤ M (oC 0) (15 * t + 3) ∧ M (oC 0) (15 * t + 3) ≤ 3) ∧ (0 ≤ M (oC 0) (15 * t + 4) ∧ M (oC 0) (15 * t + 4) ≤ 1) ∧ (0 ≤ M (oC 0) (15 * t + 5) ∧ M (oC 0) (15 * t + 5) ≤ 99) ∧ (1 ≤ M (oC 0) (15 * t + 6) ∧ M (oC 0) (15 * t + 6) ≤ 8)
def xwb (M : Mem) (t : Nat) (w : Int) : Int := wv (M 0 6) (M 0 7) (M (oC 0) (15 * t)) (M (oC 0) (15 * t + 1)) w
def xw (M : Mem) (t : Nat) : Int := xwb M t (M (oC 0) (15 * t + 2))
def xo (M : Mem) (t : Nat) : Int := M (oC 0) (15 * t + 3)
theorem xwb_in {M : Mem} {n t : Nat} {w : Int} (h : XT M n) (ht : t < n) (hw : 0 ≤ w ∧ w ≤ 99) : 0 ≤ xwb M t w ∧ xwb M t w ≤ 810 := wv_in h.2.2.1 h.2.2.2.1 (h.2.2.2.2 t ht).1 hw
theorem xw_in {M : Mem} {n t : Nat} (h : XT M n) (ht : t < n) : 0 ≤ xw M t ∧ xw M t ≤ 810 := xwb_in h ht (h.2.2.2.2 t ht).2.2.1
theorem XT_eq {M M1 : Mem} {n : Nat} (h : XT M n) (h0 : M1 0 = M 0) (h1 : M1 (oT 0) = M (oT 0)) (h2 : M1 (oC 0) = M (oC 0)) : XT M1 n := by
  unfold XT at h ⊢
  rw [h0, h1, h2]
  exact h
theorem xw_eq {M M1 : Mem} (h0 : M1 0 = M 0) (h2 : M1 (oC 0) = M (oC 0)) : xw M1 = xw M := by
  funext t
  unfold xw xwb
  rw [h0, h2]
section XM
variable {X : Scr} {M : Mem}
theorem isTooth_n {n : Nat} {i : Int} (hM : M (oT 0) 1 = (n : Int)) : Call X mX8_isTooth [vr 0, vi i] M (retI (b2i (decide (0 ≤ i ∧ i < n))) M) := by
  refine kX8_isTooth_0 (fun h => ?_) (fun h => ?_)
  · refine kX8_isTooth_19 (kX8_isTooth_20 ?_)
    rw [b2i_f (by simp; omega)]; exact ⟨rfl, rfl⟩
  · refine kX8_isTooth_4 (fun h2 => ?_) (fun h2 => ?_)
    · refine kX8_isTooth_19 (kX8_isTooth_20 ?_)
      rw [b2i_f (by simp; omega)]; exact ⟨rfl, rfl⟩
    · refine kX8_isTooth_15 (kX8_isTooth_20 ?_)
      rw [b2i_t (by simp; omega)]; exact ⟨rfl, rfl⟩
theorem isGood_n {i : Int} : Call X mX8_isGood [vr 0, vi i] M (retI (b2i (decide (0 ≤ i ∧ i < M 3 2))) M) := by
  refine kX8_isGood_0 (fun h => ?_) (fun h => ?_)
  · refine kX8_isGood_19 (kX8_isGood_20 ?_)
    rw [b2i_f (by simp; omega)]; exact ⟨rfl, rfl⟩
  · refine kX8_isGood_4 (fun h2 => ?_) (fun h2 => ?_)
    · refine kX8_isGood_19 (kX8_isGood_20 ?_)
      rw [b2i_f (by simp; omega)]; exact ⟨rfl, rfl⟩
    · refine kX8_isGood_15 (kX8_isGood_20 ?_)
      rw [b2i_t (by simp; omega)]; exact ⟨rfl, rfl⟩
theorem isSlot_n {i : Int} : Call X mX8_isSlot [vr 0, vi i] M (retI (b2i (decide (0 ≤ i ∧ i < 2))) M) := by
  refine kX8_isSlot_0 (fun h => ?_) (fun h => ?_)
  · refine kX8_isSlot_26 (kX8_isSlot_27 ?_)
    rw [b2i_f (by simp; omega)]; exact ⟨rfl, rfl⟩
  · refine kX8_isSlot_4 (fun h2 => ?_) (fun h2 => ?_)
    · refine kX8_isSlot_26 (kX8_isSlot_27 ?_)
      rw [b2i_f (by simp; omega)]; exact ⟨rfl, rfl⟩
    · refine kX8_isSlot_13 (kX8_isSlot_27 ?_)
      rw [b2i_t (by simp; omega)]; exact ⟨rfl, rfl⟩
theorem isPerson_n {i : Int} : Call X mX8_isPerson [vi i] M (retI (b2i (decide (0 ≤ i ∧ i < 4))) M) := by
  refine kX8_isPerson_0 (fun h => ?_) (fun h => ?_)
  · refine kX8_isPerson_13 (kX8_isPerson_14 ?_)
    rw [b2i_f (by simp; omega)]; exact ⟨rfl, rfl⟩
  · refine kX8_isPerson_4 (fun h2 => ?_) (fun h2 => ?_)
    · refine kX8_isPerson_13 (kX8_isPerson_14 ?_)
      rw [b2i_f (by simp; omega)]; exact ⟨rfl, rfl⟩
    · refine kX8_isPerson_9 (kX8_isPerson_14 ?_)
      rw [b2i_t (by simp; omega)]; exact ⟨rfl, rfl⟩
theorem isMoney_n {i : Int} : Call X mX8_isMoney [vi i] M (retI (b2i (decide (0 ≤ i ∧ i < 4))) M) := by
  refine kX8_isMoney_0 (fun h => ?_) (fun h => ?_)
  · refine kX8_isMoney_13 (kX8_isMoney_14 ?_)
    rw [b2i_f (by simp; omega)]; exact ⟨rfl, rfl⟩
  · refine kX8_isMoney_4 (fun h2 => ?_) (fun h2 => ?_)
    · refine kX8_isMoney_13 (kX8_isMoney_14 ?_)
      rw [b2i_f (by simp; omega)]; exact ⟨rfl, rfl⟩
    · refine kX8_isMoney_9 (kX8_isMoney_14 ?_)
      rw [b2i_t (by simp; omega)]; exact ⟨rfl, rfl⟩
theorem isPrice_n {i : Int} : Call X mX8_isPrice [vi i] M (retI (b2i (decide (0 ≤ i ∧ i ≤ 999))) M) := by
  refine kX8_isPrice_0 (fun h => ?_) (fun h => ?_)
  · refine kX8_isPrice_15 (kX8_isPrice_16 ?_)
    rw [b2i_f (by simp; omega)]; exact ⟨rfl, rfl⟩
  · refine kX8_isPrice_4 (fun h2 => ?_) (fun h2 => ?_)
    · refine kX8_isPrice_15 (kX8_isPrice_16 ?_)
      rw [b2i_f (by simp; omega)]; exact ⟨rfl, rfl⟩
    · refine kX8_isPrice_11 (kX8_isPrice_16 ?_)
      rw [b2i_t (by simp; omega)]; exact ⟨rfl, rfl⟩
theorem isTenths_n {i : Int} : Call X mX8_isTenths [vi i] M (retI (b2i (decide (0 ≤ i ∧ i ≤ 10))) M) := by
  refine kX8_isTenths_0 (fun h => ?_) (fun h => ?_)
  · refine kX8_isTenths_14 (kX8_isTenths_15 ?_)
    rw [b2i_f (by simp; omega)]; exact ⟨rfl, rfl⟩
  · refine kX8_isTenths_4 (fun h2 => ?_) (fun h2 => ?_)
    · refine kX8_isTenths_14 (kX8_isTenths_15 ?_)
      rw [b2i_f (by simp; omega)]; exact ⟨rfl, rfl⟩
    · refine kX8_isTenths_10 (kX8_isTenths_15 ?_)
      rw [b2i_t (by simp; omega)]; exact ⟨rfl, rfl⟩
theorem b2i_d0 {p : Prop} [h : Decidable p] : b2i (decide p) = 0 ↔ ¬ p := by rw [b2i_0, decide_eq_false_iff_not]
theorem b2i_d1 {p : Prop} [h : Decidable p] : b2i (decide p) ≠ 0 ↔ p := by rw [b2i_1, decide_eq_true_iff]
/-- a payment refused, or 0 -/
def noPayV (p q s : Int) : Int := if ¬ (0 ≤ p ∧ p < 4) ∨ ¬ (0 ≤ q ∧ q < 4) then -1 else if p = q ∨ ¬ (0 ≤ s ∧ s ≤ 999) then -2 else 0
theorem noPayV_0 {p q s : Int} : noPayV p q s = 0 ↔ (0 ≤ p ∧ p < 4) ∧ (0 ≤ q ∧ q < 4) ∧ p ≠ q ∧ 0 ≤ s ∧ s ≤ 999 := by
  unfold noPayV
  split
  · omega
  · split <;> omega
theorem payRef_n {p q s : Int} : Call X mX8_paymentRefusal [vi p, vi q, vi s] M (retI (noPayV p q s) M) := by
  have r14 : (¬ (0 ≤ p ∧ p < 4) ∨ ¬ (0 ≤ q ∧ q < 4)) → Runs X mX8_paymentRefusal 14 [] [] M (retI (noPayV p q s) M) := fun h => by
    refine kX8_paymentRefusal_14 ?_
    rw [show noPayV p q s = -1 by unfold noPayV; rw [if_pos h]]; exact ⟨rfl, rfl⟩
  refine kX8_paymentRefusal_0 isPerson_n (on ?_)
  refine kX8_paymentRefusal_4 (fun h => r14 (Or.inl (b2i_d0.mp h))) (fun h => ?_)
  have hp := b2i_d1.mp h
  refine kX8_paymentRefusal_7 isPerson_n (on ?_)
  refine kX8_paymentRefusal_11 (fun h2 => ?_) (fun h2 => r14 (Or.inr (b2i_d0.mp h2)))
  have hq := b2i_d1.mp h2
  have r28 : (p = q ∨ ¬ (0 ≤ s ∧ s ≤ 999)) → Runs X mX8_paymentRefusal 28 [] [] M (retI (noPayV p q s) M) := fun h => by
    refine kX8_paymentRefusal_28 (kX8_paymentRefusal_34 ?_)
    rw [show noPayV p q s = -2 by unfold noPayV; rw [if_neg (by omega), if_pos h]]; exact ⟨rfl, rfl⟩
  refine kX8_paymentRefusal_16 (fun h3 => r28 (Or.inl h3)) (fun h3 => ?_)
  refine kX8_paymentRefusal_21 isPrice_n (on ?_)
  refine kX8_paymentRefusal_25 (fun h4 => ?_) (fun h4 => r28 (Or.inr (b2i_d0.mp h4)))
  have hs := b2i_d1.mp h4
  refine kX8_paymentRefusal_33 (kX8_paymentRefusal_34 ?_)
  rw [show noPayV p q s = 0 from noPayV_0.mpr ⟨hp, hq, h3, hs⟩]; exact ⟨rfl, rfl⟩
-- ===== worth
theorem worthWorn_n {n k : Nat} {w : Int} (hX : XT M n) (hk : k < n) (hw : 0 ≤ w ∧ w ≤ 99) : Call X mX8_worthWorn [vr 0, vi (k : Int), vi w] M (retI (xwb M k w) M) := by
  have h10 := hX.1
  have hc := hX.2.2.2.2 k hk
  have hl := hX.2.2.1
  have hr := hX.2.2.2.1
  have hm := mulb (a := M 0 6) (b := w) (A := 9) (B := 99) (by omega) (by omega)
  have hb := xwb_in hX hk hw
  refine kX8_worthWorn_0 (get_n (c := 0) (by omega) (by omega) (by omega)) (on ?_)
  rw [Nat.add_zero]
  refine kX8_worthWorn_12 (get_n (c := 1) (by omega) (by omega) (by omega)) (on ?_)
  refine kX8_worthWorn_33 (fun h => ?_) (fun h => ?_)
  · refine kX8_worthWorn_46 (kX8_worthWorn_47 ⟨?_, rfl⟩)
    unfold xwb wv
    rw [if_neg h]
    split
    · rw [Int.max_eq_left (by omega)]
    · rw [Int.max_eq_right (by omega)]
  · have e : xwb M k w = M 0 7 * max 0 (10 * M (oC 0) (15 * k) - M 0 6 * w) := by
      unfold xwb wv
      rw [if_pos h]
      split
      · rw [Int.max_eq_left (by omega), Int.mul_zero]
      · rw [Int.max_eq_right (by omega)]
    rw [e] at hb ⊢
    exact kX8_worthWorn_37 (kX8_worthWorn_47 ⟨rfl, rfl⟩)
theorem worthOf_n {n k : Nat} (hX : XT M n) (hk : k < n) : Call X mX8_worthOf [vr 0, vi (k : Int)] M (retI (xw M k) M) := by
  have h10 := hX.1
  refine kX8_worthOf_0 (get_n (c := 2) (by omega) (by omega) (by omega)) (on ?_)
  refine kX8_worthOf_11 (worthWorn_n hX hk (hX.2.2.2.2 k hk).2.2.1) (on ?_)
  exact kX8_worthOf_14 ⟨rfl, rfl⟩
theorem bit_ne {s k : Nat} (hs : s < 2147483648) (hk : k < 32) : zand (zshr (s : Int) (k : Int)) 1 ≠ 1 ↔ s.testBit k = false := by
  rw [bit_n hs hk]
  cases s.testBit k <;> simp
theorem bit_eq {s k : Nat} (hs : s < 2147483648) (hk : k < 32) : zand (zshr (s : Int) (k : Int)) 1 = 1 ↔ s.testBit k = true := by
  rw [bit_n hs hk]
  cases s.testBit k <;> simp
theorem worthOfSet_n {n s : Nat} (hX : XT M n) (hs : s < 2147483648) : Call X mX8_worthOfSet [vr 0, vi (s : Int)] M (retI (setW (xw M) s n) M) := by
  have h10 := hX.1
  have hn := hX.2.1
  refine kX8_worthOfSet_0 ?_
  refine up_loop (n := n) (G := fun k => Runs X mX8_worthOfSet 4 [(0, vr 0), (1, vi (s : Int)), (2, vi (setW (xw M) s k)), (3, vi (k : Int))] [] M (retI (setW (xw M) s n) M)) ?_ ?_ 0 (Nat.zero_le _)
  · exact kX8_worthOfSet_4 (fun h => kX8_worthOfSet_38 ⟨rfl, rfl⟩) (fun h => by omega)
  · intro k hk ih
    have hb := setW_bound (w := xw M) (s := s) (B := 810) (n := k) (fun t ht => xw_in hX (by omega)) (by decide)
    have hwk := xw_in hX hk
    have e : setW (xw M) s (k + 1) = setW (xw M) s k + (if s.testBit k = true then xw M k else 0) := rfl
    refine kX8_worthOfSet_4 (fun h => by omega) (fun h => ?_)
    refine kX8_worthOfSet_15 (fun h2 => ?_) (fun h2 => ?_)
    · have hb2 := (bit_ne hs (by omega)).mp h2
      rw [e, if_neg (by rw [hb2]; decide), Int.add_zero, ← cast1] at ih
      exact kX8_worthOfSet_32 ih
    · have hb2 := (bit_eq hs (by omega)).mp h2
      rw [e, if_pos hb2, ← cast1] at ih
      refine kX8_worthOfSet_24 (worthOf_n hX hk) (on ?_)
      exact kX8_worthOfSet_30 (kX8_worthOfSet_32 ih)
theorem p2_le {n : Nat} (h : n ≤ 10) : 2 ^ n ≤ 1024 := Nat.pow_le_pow_right (n := 2) (by decide) h
theorem setsOf_n {n : Nat} (hn : M (oT 0) 1 = (n : Int)) (h10 : n ≤ 10) : Call X mX8_setsOfTeeth [vr 0] M (retI ((2 ^ n : Nat) : Int) M) := by
  refine kX8_setsOfTeeth_0 ⟨?_, rfl⟩
  rw [hn, one_shl (by omega)]
  have := p2_le h10
  congr 2
  omega
-- ===== the balances of all sets
/-- a tooth's worth, against the others if it is of the change -/
def sgn (w : Nat → Int) (c : Nat) (t : Nat) : Int := if c.testBit t then -w t else w t
theorem setW_hi {w : Nat → Int} {k j : Nat} (hj : j < 2 ^ k) : setW w (2 ^ k + j) (k + 1) = setW w j k + w k := by
  have h1 : ∀ m, m ≤ k → setW w (2 ^ k + j) m = setW w j m := by
    intro m hm
    induction m with
    | zero => rfl
    | succ m ih =>
      unfold setW
      rw [ih (by omega), Nat.testBit_two_pow_add_gt (by omega)]
  show setW w (2 ^ k + j) k + (if (2 ^ k + j).testBit k = true then w k else 0) = _
  rw [h1 k (Nat.le_refl _), Nat.testBit_two_pow_add_eq, Nat.testBit_lt_two_pow hj]
  simp
theorem setW_lo {w : Nat → Int} {k j : Nat} (hj : j < 2 ^ k) : setW w j (k + 1) = setW w j k := by
  show setW w j k + (if j.testBit k = true then w k else 0) = _
  rw [Nat.testBit_lt_two_pow hj]
  simp
theorem setW_0 {w : Nat → Int} : ∀ {n : Nat}, setW w 0 n = 0
  | 0 => rfl
  | k + 1 => by
    unfold setW
    rw [setW_0, Nat.zero_testBit]
    rfl
theorem setW_abs {w : Nat → Int} {s : Nat} {B : Int} : ∀ {n : Nat}, (∀ t, t < n → -B ≤ w t ∧ w t ≤ B) → 0 ≤ B → -(B * n) ≤ setW w s n ∧ setW w s n ≤ B * n
  | 0, _, _ => by simp [setW]
  | k + 1, h, hB => by
    have h1 := setW_abs (s := s) (n := k) (fun t ht => h t (by omega)) hB
    have h2 := h k (by omega)
    have e : B * ((k + 1 : Nat) : Int) = B * (k : Int) + B := by rw [Int.natCast_succ, Int.mul_add, Int.mul_one]
    rw [e]
    unfold setW
    split <;> omega
theorem sgn_in {w : Nat → Int} {c t : Nat} {B : Int} (h : 0 ≤ w t ∧ w t ≤ B) : -B ≤ sgn w c t ∧ sgn w c t ≤ B := by
  unfold sgn
  split <;> omega
theorem and_p2 {c k : Nat} : c &&& 2 ^ k = 0 ↔ c.testBit k = false := by
  constructor
  · intro h
    have h1 := congrArg (fun v : Nat => v.testBit k) h
    simpa using h1
  · intro h
    apply Nat.eq_of_testBit_eq
    intro i
    rw [Nat.testBit_and, Nat.testBit_two_pow, Nat.zero_testBit]
    by_cases hi : k = i
    · subst hi
      rw [h]; rfl
    · simp [hi]
/-- what weighSets leaves: only the balances are written -/
def wsPost (M : Mem) (c n : Nat) (M1 : Mem) : Prop := (∀ o, o ≠ 35 → M1 o = M o) ∧ ∀ j, j < 2 ^ n → M1 35 j = setW (sgn (xw M) c) j n
theorem weigh_n {n c : Nat} (hX : XT M n) (h0 : M 35 0 = 0) (hc : c < 2147483648) : Call X mX8_weighSets [vr 0, vi (c : Int)] M (fun r M1 => r = none ∧ wsPost M c n M1) := by
  have h10 := hX.1
  refine kX8_weighSets_0 ?_
  have hsg : ∀ t, t < n → -810 ≤ sgn (xw M) c t ∧ sgn (xw M) c t ≤ 810 := fun t ht => sgn_in (xw_in hX ht)
  have go : ∀ k, k ≤ n → ∀ M1 : Mem, (∀ o, o ≠ 35 → M1 o = M o) → (∀ j, j < 2 ^ k → M1 35 j = setW (sgn (xw M) c) j k) → Runs X mX8_weighSets 2 [(0, vr 0), (1, vi (c : Int)), (2, vi (k : Int))] [] M1 (fun r M1 => r = none ∧ wsPost M c n M1) := by
    refine up_loop (n := n) ?_ ?_
    · intro M1 h1 h2
      have hn : M1 (oT 0) 1 = (n : Int) := by rw [h1 _ (by unfold oT; decide)]; exact hX.2.1
      exact kX8_weighSets_2 (fun h => kX8_weighSets_91 ⟨rfl, h1, h2⟩) (fun h => by omega)
    · intro k hk ih M1 h1 h2
      have hn : M1 (oT 0) 1 = (n : Int) := by rw [h1 _ (by unfold oT; decide)]; exact hX.2.1
      have hX1 : XT M1 n := XT_eq hX (h1 _ (by decide)) (h1 _ (by unfold oT; decide)) (h1 _ (by unfold oC; decide))
      have hw1 : xw M1 = xw M := xw_eq (h1 _ (by decide)) (h1 _ (by unfold oC; decide))
      have hpk : 2 ^ k ≤ 512 := Nat.pow_le_pow_right (n := 2) (j := 9) (by decide) (by omega)
      refine kX8_weighSets_2 (fun h => by omega) (fun h => ?_)
      -- the inner loop, with the tooth's balance known
      have inner : ∀ z : Int, z = sgn (xw M) c k → Runs X mX8_weighSets 37 [(0, vr 0), (1, vi (c : Int)), (2, vi (k : Int)), (3, vi ((2 ^ k : Nat) : Int))] [vi z] M1 (fun r M1 => r = none ∧ wsPost M c n M1) := by
        intro z hz
        subst hz
        refine kX8_weighSets_37 ?_
        have go2 : ∀ j, j ≤ 2 ^ k → ∀ M2 : Mem, (∀ o, o ≠ 35 → M2 o = M o) → (∀ i, i < 2 ^ k → M2 35 i = setW (sgn (xw M) c) i k) → (∀ i, i < j → M2 35 (2 ^ k + i) = setW (sgn (xw M) c) (2 ^ k + i) (k + 1)) → Runs X mX8_weighSets 42 [(0, vr 0), (1, vi (c : Int)), (2, vi (k : Int)), (3, vi ((2 ^ k : Nat) : Int)), (4, vi (sgn (xw M) c k)), (5, vi (j : Int))] [] M2 (fun r M1 => r = none ∧ wsPost M c n M1) := by
          refine up_loop (n := 2 ^ k) ?_ ?_
          · intro M2 g1 g2 g3
            refine kX8_weighSets_42 (fun h => ?_) (fun h => by omega)
            refine kX8_weighSets_85 ?_
            rw [cast1]
            refine ih M2 g1 (fun j hj => ?_)
            rcases Nat.lt_or_ge j (2 ^ k) with hl | hl
            · rw [g2 j hl, setW_lo hl]
            · have hp : 2 ^ (k + 1) = 2 ^ k + 2 ^ k := by rw [Nat.pow_succ]; omega
              have e := g3 (j - 2 ^ k) (by omega)
              rw [show 2 ^ k + (j - 2 ^ k) = j by omega] at e
              exact e
          · intro j hj ih2 M2 g1 g2 g3
            have hb := setW_abs (w := sgn (xw M) c) (s := j) (B := 810) (n := k) (fun t ht => hsg t (by omega)) (by decide)
            have hz1 := hsg k hk
            have ej := g2 j hj
            refine kX8_weighSets_42 (fun h => by omega) (fun h => ?_)
            refine kX8_weighSets_48 (fun h => by omega) (fun h => ?_)
            have e1 : ((2 ^ k : Nat) : Int) + (j : Int) = ((2 ^ k + j : Nat) : Int) := by omega
            refine kX8_weighSets_60 ?_ (h4 := by rw [show ((j : Int)).toNat = j by omega, ej]; omega)
            rw [cast1, show ((j : Int)).toNat = j by omega, e1, show (((2 ^ k + j : Nat) : Int)).toNat = 2 ^ k + j by omega, ej]
            refine ih2 _ (fun o ho => ?_) (fun i hi => ?_) (fun i hi => ?_)
            · funext q
              rw [up2_o ho, g1 o ho]
            · rw [up2_j (by omega)]
              exact g2 i hi
            · by_cases hij : i = j
              · subst hij
                rw [up2_eq, setW_hi hj]
              · rw [up2_j (by omega)]
                exact g3 i (by omega)
        exact go2 0 (Nat.zero_le _) M1 h1 h2 (fun i hi => by omega)
      have ez : zand (c : Int) (zshl 1 (k : Int)) = ((c &&& 2 ^ k : Nat) : Int) := by rw [one_shl (by omega), zand_n hc]
      refine kX8_weighSets_13 (fun h2 => ?_) (fun h2 => ?_)
      · rw [ez] at h2
        rw [one_shl (by omega)]
        refine kX8_weighSets_31 (worthOf_n hX1 hk) (on ?_)
        have hwk := xw_in hX1 hk
        refine kX8_weighSets_36 (inner _ ?_)
        have hbt : c.testBit k = true := by
          cases hq : c.testBit k with
          | true => rfl
          | false => exact absurd (by rw [and_p2.mpr hq]; rfl) h2
        unfold sgn
        rw [hbt, hw1]
        rfl
      · rw [ez] at h2
        rw [one_shl (by omega)]
        refine kX8_weighSets_23 (worthOf_n hX1 hk) (on ?_)
        refine kX8_weighSets_28 (inner _ ?_)
        have hbt : c.testBit k = false := and_p2.mp (by omega)
        unfold sgn
        rw [hbt, hw1]
        rfl
  exact go 0 (Nat.zero_le _) M (fun o _ => rfl) (fun j hj => by rw [show j = 0 by simpa using hj]; exact h0)
end XM
