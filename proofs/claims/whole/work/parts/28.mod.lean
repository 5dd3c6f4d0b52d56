/-! ===== the model: what is behind its methods ===== -/
/-- the model's teeth: how many, and that all is in its bounds -/
def MT (M : Mem) (n : Nat) : Prop := n ≤ 10 ∧ M 200 6 = (n : Int) ∧ (0 ≤ M 200 4 ∧ M 200 4 ≤ 9) ∧ (1 ≤ M 200 5 ∧ M 200 5 ≤ 9) ∧
  ∀ t, t < n → (1 ≤ M 307 t ∧ M 307 t ≤ 9) ∧ (0 ≤ M 308 t ∧ M 308 t ≤ 1) ∧ (0 ≤ M 309 t ∧ M 309 t ≤ 99) ∧ (0 ≤ M 310 t ∧ M 310 t ≤ 3) ∧ (0 ≤ M 311 t ∧ M 311 t ≤ 1) ∧ (0 ≤ M 312 t ∧ M 312 t ≤ 99) ∧ (1 ≤ M 313 t ∧ M 313 t ≤ 8)
def mwb (M : Mem) (t : Nat) (w : Int) : Int := wv (M 200 4) (M 200 5) (M 307 t) (M 308 t) w
def mw (M : Mem) (t : Nat) : Int := mwb M t (M 309 t)
theorem mwb_in {M : Mem} {n t : Nat} {w : Int} (h : MT M n) (ht : t < n) (hw : 0 ≤ w ∧ w ≤ 99) : 0 ≤ mwb M t w ∧ mwb M t w ≤ 810 := wv_in h.2.2.1 h.2.2.2.1 (h.2.2.2.2 t ht).1 hw
theorem mw_in {M : Mem} {n t : Nat} (h : MT M n) (ht : t < n) : 0 ≤ mw M t ∧ mw M t ≤ 810 := mwb_in h ht (h.2.2.2.2 t ht).2.2.1
section MM
variable {X : Scr} {M : Mem}
theorem in_n {v a b : Int} : Call X mX9_in [vl v, vl a, vl b] M (retI (b2i (decide (a ≤ v ∧ v ≤ b))) M) := by
  refine kX9_in_0 (fun h => ?_) (fun h => ?_)
  · refine kX9_in_17 (kX9_in_18 ?_)
    rw [b2i_f (by simp; omega)]; exact ⟨rfl, rfl⟩
  · refine kX9_in_6 (fun h2 => ?_) (fun h2 => ?_)
    · refine kX9_in_17 (kX9_in_18 ?_)
      rw [b2i_f (by simp; omega)]; exact ⟨rfl, rfl⟩
    · refine kX9_in_13 (kX9_in_18 ?_)
      rw [b2i_t (by simp; omega)]; exact ⟨rfl, rfl⟩
theorem has_n {s k : Nat} (hs : s < 2147483648) (hk : k < 32) : Call X mX9_has [vi (s : Int), vi (k : Int)] M (retI (b2i (s.testBit k)) M) := by
  refine kX9_has_0 (fun h => ?_) (fun h => ?_)
  · refine kX9_has_13 (kX9_has_14 ?_)
    rw [(bit_ne hs hk).mp h]; exact ⟨rfl, rfl⟩
  · refine kX9_has_9 (kX9_has_14 ?_)
    rw [(bit_eq hs hk).mp h]; exact ⟨rfl, rfl⟩
theorem popN_le {s : Nat} : ∀ n, popN s n ≤ n
  | 0 => Nat.le_refl _
  | k + 1 => by
    have := popN_le (s := s) k
    unfold popN
    split <;> omega
theorem many_n {s : Nat} (hs : s < 2147483648) : Call X mX9_many [vi (s : Int)] M (retI (popN s 10 : Nat) M) := by
  refine kX9_many_0 ?_
  refine up_loop (n := 10) (G := fun k => Runs X mX9_many 4 [(0, vi (s : Int)), (1, vi ((popN s k : Nat) : Int)), (2, vi (k : Int))] [] M (retI (popN s 10 : Nat) M)) ?_ ?_ 0 (Nat.zero_le _)
  · exact kX9_many_4 (fun h => kX9_many_24 ⟨rfl, rfl⟩) (fun h => by omega)
  · intro k hk ih
    have hle := popN_le (s := s) k
    have hb := bit_n (s := s) (k := k) hs (by omega)
    have hb1 : 0 ≤ zand (zshr (s : Int) (k : Int)) 1 ∧ zand (zshr (s : Int) (k : Int)) 1 ≤ 1 := by rw [hb]; split <;> decide
    have e : ((popN s (k + 1) : Nat) : Int) = (popN s k : Int) + zand (zshr (s : Int) (k : Int)) 1 := by
      rw [hb]
      show ((popN s k + (if s.testBit k then 1 else 0) : Nat) : Int) = _
      split <;> simp
    rw [e, ← cast1] at ih
    exact kX9_many_4 (fun h => by omega) (fun h => kX9_many_10 ih)
theorem noTooth_n {n : Nat} {i : Int} (hM : M 200 6 = (n : Int)) (hn : n ≤ 10) : Call X mX9_noTooth [vr 200, vi i] M (retI (b2i (decide (¬ (0 ≤ i ∧ i < n)))) M) := by
  refine kX9_noTooth_0 in_n (on ?_)
  refine kX9_noTooth_13 (fun h => ?_) (fun h => ?_)
  · have h2 := b2i_d1.mp h
    refine kX9_noTooth_20 (kX9_noTooth_21 ?_)
    rw [b2i_f (by simp; omega)]; exact ⟨rfl, rfl⟩
  · have h2 := b2i_d0.mp h
    refine kX9_noTooth_16 (kX9_noTooth_21 ?_)
    rw [b2i_t (by simp; omega)]; exact ⟨rfl, rfl⟩
theorem noOne_n {i : Int} : Call X mX9_noOne [vi i] M (retI (b2i (decide (¬ (0 ≤ i ∧ i < 4)))) M) := by
  refine kX9_noOne_0 in_n (on ?_)
  refine kX9_noOne_9 (fun h => ?_) (fun h => ?_)
  · have h2 := b2i_d1.mp h
    refine kX9_noOne_16 (kX9_noOne_17 ?_)
    rw [b2i_f (by simp; omega)]; exact ⟨rfl, rfl⟩
  · have h2 := b2i_d0.mp h
    refine kX9_noOne_12 (kX9_noOne_17 ?_)
    rw [b2i_t (by simp; omega)]; exact ⟨rfl, rfl⟩
theorem noTenths_n {i : Int} : Call X mX9_noTenths [vi i] M (retI (b2i (decide (¬ (0 ≤ i ∧ i ≤ 10)))) M) := by
  refine kX9_noTenths_0 in_n (on ?_)
  refine kX9_noTenths_9 (fun h => ?_) (fun h => ?_)
  · have h2 := b2i_d1.mp h
    refine kX9_noTenths_16 (kX9_noTenths_17 ?_)
    rw [b2i_f (by simp; omega)]; exact ⟨rfl, rfl⟩
  · have h2 := b2i_d0.mp h
    refine kX9_noTenths_12 (kX9_noTenths_17 ?_)
    rw [b2i_t (by simp; omega)]; exact ⟨rfl, rfl⟩
theorem noPay_n {p q s : Int} : Call X mX9_noPay [vi p, vi q, vi s] M (retI (noPayV p q s) M) := by
  have r14 : (¬ (0 ≤ p ∧ p < 4) ∨ ¬ (0 ≤ q ∧ q < 4)) → Runs X mX9_noPay 14 [] [] M (retI (noPayV p q s) M) := fun h => by
    refine kX9_noPay_14 (kX9_noPay_41 ?_)
    rw [show noPayV p q s = -1 by unfold noPayV; rw [if_pos h]]; exact ⟨rfl, rfl⟩
  refine kX9_noPay_0 noOne_n (on ?_)
  refine kX9_noPay_4 (fun h => r14 (Or.inl (b2i_d1.mp h))) (fun h => ?_)
  have hp := b2i_d0.mp h
  refine kX9_noPay_7 noOne_n (on ?_)
  refine kX9_noPay_11 (fun h2 => ?_) (fun h2 => r14 (Or.inr (b2i_d1.mp h2)))
  have hq := b2i_d0.mp h2
  have r35 : (p = q ∨ ¬ (0 ≤ s ∧ s ≤ 999)) → Runs X mX9_noPay 35 [] [] M (retI (noPayV p q s) M) := fun h => by
    refine kX9_noPay_35 (kX9_noPay_41 ?_)
    rw [show noPayV p q s = -2 by unfold noPayV; rw [if_neg (by omega), if_pos h]]; exact ⟨rfl, rfl⟩
  refine kX9_noPay_18 (fun h3 => r35 (Or.inl h3)) (fun h3 => ?_)
  refine kX9_noPay_23 in_n (on ?_)
  refine kX9_noPay_32 (fun h4 => ?_) (fun h4 => r35 (Or.inr (b2i_d0.mp h4)))
  have hs := b2i_d1.mp h4
  refine kX9_noPay_40 (kX9_noPay_41 ?_)
  rw [show noPayV p q s = 0 from noPayV_0.mpr ⟨by omega, by omega, h3, hs⟩]; exact ⟨rfl, rfl⟩
-- ===== worth
theorem worthBy_n {n k : Nat} {w : Int} (hX : MT M n) (hk : k < n) (hw : 0 ≤ w ∧ w ≤ 99) : Call X mX9_worthBy [vr 200, vi (k : Int), vi w] M (retI (mwb M k w) M) := by
  have h10 := hX.1
  have hc := hX.2.2.2.2 k hk
  have hl := hX.2.2.1
  have hr := hX.2.2.2.1
  have hm := mulb (a := M 200 4) (b := w) (A := 9) (B := 99) (by omega) (by omega)
  have hb := mwb_in hX hk hw
  have ek : M 307 ((k : Int)).toNat = M 307 k := by rw [show ((k : Int)).toNat = k by omega]
  unfold mwb wv at hb ⊢
  refine kX9_worthBy_0 (fun h => ?_) (fun h => ?_)
  · rw [show ((k : Int)).toNat = k by omega] at h ⊢
    rw [if_neg (by omega)] at hb ⊢
    refine kX9_worthBy_25 (fun h2 => ?_) (fun h2 => ?_)
    · rw [show ((k : Int)).toNat = k by omega] at h2
      rw [if_neg (by omega)]
      exact kX9_worthBy_43 (kX9_worthBy_44 ⟨rfl, rfl⟩)
    · rw [show ((k : Int)).toNat = k by omega] at h2
      rw [if_pos (by omega)] at hb ⊢
      exact kX9_worthBy_34 (kX9_worthBy_44 ⟨rfl, rfl⟩)
  · rw [show ((k : Int)).toNat = k by omega] at h
    rw [if_pos h]
    exact kX9_worthBy_21 (kX9_worthBy_44 ⟨rfl, rfl⟩)
theorem worth_n {n k : Nat} (hX : MT M n) (hk : k < n) : Call X mX9_worth [vr 200, vi (k : Int)] M (retI (mw M k) M) := by
  have h10 := hX.1
  refine kX9_worth_0 (worthBy_n hX hk (hX.2.2.2.2 k hk).2.2.1) (on ?_)
  exact kX9_worth_11 ⟨rfl, rfl⟩
theorem setOf_n {n : Nat} {p : Int} (h10 : n ≤ 10) (hM : M 200 6 = (n : Int)) : Call X mX9_setOf [vr 200, vi p] M (retI (own (M 310) p n : Nat) M) := by
  refine kX9_setOf_0 ?_
  refine up_loop (n := n) (G := fun k => Runs X mX9_setOf 4 [(0, vr 200), (1, vi p), (2, vi ((own (M 310) p k : Nat) : Int)), (3, vi (k : Int))] [] M (retI (own (M 310) p n : Nat) M)) ?_ ?_ 0 (Nat.zero_le _)
  · exact kX9_setOf_4 (fun h => kX9_setOf_38 ⟨rfl, rfl⟩) (fun h => by omega)
  · intro k hk ih
    have hlt := own_lt (M 310) p k
    have hp : (2 : Nat) ^ k ≤ 2 ^ 10 := Nat.pow_le_pow_right (by decide) (by omega)
    refine kX9_setOf_4 (fun h => by omega) (fun h => ?_)
    refine kX9_setOf_12 (fun h2 => ?_) (fun h2 => ?_)
    · rw [show ((k : Int)).toNat = k by omega] at h2
      refine kX9_setOf_29 (kX9_setOf_30 ?_)
      rw [cast1]
      have e : own (M 310) p (k + 1) = own (M 310) p k := by
        show (if _ then _ else _) = _
        rw [if_neg h2]
      have e0 := zor_n (a := own (M 310) p k) (b := 0) (by omega) (by omega)
      rw [Nat.or_zero] at e0
      rw [e] at ih
      rw [show (0 : Int) = ((0 : Nat) : Int) from rfl, e0]
      exact ih
    · rw [show ((k : Int)).toNat = k by omega] at h2
      refine kX9_setOf_23 (kX9_setOf_30 ?_)
      rw [cast1, one_shl (by omega), zor_n (by omega) (by omega)]
      have e : own (M 310) p (k + 1) = own (M 310) p k ||| 2 ^ k := by
        show (if _ then _ else _) = _
        rw [if_pos h2]
      rw [e] at ih
      exact ih
theorem mworthOf_n {n s : Nat} (hX : MT M n) (hs : s < 2147483648) : Call X mX9_worthOf [vr 200, vi (s : Int)] M (retI (setW (mw M) s n) M) := by
  have h10 := hX.1
  have hn := hX.2.1
  refine kX9_worthOf_0 ?_
  refine up_loop (n := n) (G := fun k => Runs X mX9_worthOf 4 [(0, vr 200), (1, vi (s : Int)), (2, vi (setW (mw M) s k)), (3, vi (k : Int))] [] M (retI (setW (mw M) s n) M)) ?_ ?_ 0 (Nat.zero_le _)
  · exact kX9_worthOf_4 (fun h => kX9_worthOf_38 ⟨rfl, rfl⟩) (fun h => by omega)
  · intro k hk ih
    have hb := setW_bound (w := mw M) (s := s) (B := 810) (n := k) (fun t ht => mw_in hX (by omega)) (by decide)
    have hwk := mw_in hX hk
    have e : setW (mw M) s (k + 1) = setW (mw M) s k + (if s.testBit k = true then mw M k else 0) := rfl
    refine kX9_worthOf_4 (fun h => by omega) (fun h => ?_)
    refine kX9_worthOf_12 (has_n hs (by omega)) (on ?_)
    refine kX9_worthOf_18 (fun h2 => ?_) (fun h2 => ?_)
    · rw [e, if_neg (by rw [b2i_0.mp h2]; decide), ← cast1] at ih
      exact kX9_worthOf_29 (kX9_worthOf_30 ih)
    · rw [e, if_pos (b2i_1.mp h2), ← cast1] at ih
      refine kX9_worthOf_21 (worth_n hX hk) (on ?_)
      exact kX9_worthOf_26 (kX9_worthOf_30 ih)
theorem goHandle_n {k : Nat} (hk : k < 10) (hr : 0 ≤ M 309 k ∧ M 309 k ≤ 99) : Call X mX9_goHandle [vr 200, vi (k : Int)] M (ret0 (up2 M 309 k (min 99 (M 309 k + 1)))) := by
  refine kX9_goHandle_0 (fun h => ?_) (fun h => ?_)
  · rw [show ((k : Int)).toNat = k by omega] at h ⊢
    refine kX9_goHandle_22 (kX9_goHandle_23 ⟨rfl, ?_⟩)
    rw [show min 99 (M 309 k + 1) = M 309 k + 0 by omega]
    rfl
  · rw [show ((k : Int)).toNat = k by omega] at h ⊢
    refine kX9_goHandle_18 (kX9_goHandle_23 ⟨rfl, ?_⟩)
    rw [show min 99 (M 309 k + 1) = M 309 k + 1 by omega]
    rfl
theorem next_n {S p : Nat} (hS : S < 2147483648) (h : p &&& S = p) : Call X mX9_next [vi (p : Int), vi (S : Int)] M (retI ((nxt S p : Nat) : Int) M) := by
  have hle := sub_le h
  refine kX9_next_0 ⟨?_, rfl⟩
  rw [next_z hS h]
theorem mfakes_n {n : Nat} (hX : MT M n) : Call X mX9_fakes [vr 200] M (retI (sumF (M 311) n) M) := by
  have hn := hX.1
  have hM := hX.2.1
  refine kX9_fakes_0 ?_
  refine up_loop (n := n) (G := fun k => Runs X mX9_fakes 4 [(0, vr 200), (1, vi (sumF (M 311) k)), (2, vi (k : Int))] [] M (retI (sumF (M 311) n) M)) ?_ ?_ 0 (Nat.zero_le _)
  · exact kX9_fakes_4 (fun h => kX9_fakes_35 ⟨rfl, rfl⟩) (fun h => by omega)
  · intro k hk ih
    have hb := sumF_bound (f := M 311) (B := 1) (n := k) (fun j hj => (hX.2.2.2.2 j (by omega)).2.2.2.2.1)
    have hb2 := (hX.2.2.2.2 k hk).2.2.2.2.1
    refine kX9_fakes_4 (fun h => by omega) (fun h => ?_)
    have e : sumF (M 311) (k + 1) = sumF (M 311) k + M 311 k := rfl
    refine kX9_fakes_12 (fun h2 => ?_) (fun h2 => ?_)
    · rw [show ((k : Int)).toNat = k by omega] at h2
      rw [e, h2, ← cast1] at ih
      exact kX9_fakes_26 (kX9_fakes_27 ih)
    · rw [show ((k : Int)).toNat = k by omega] at h2
      rw [e, show M 311 k = 1 by omega, ← cast1] at ih
      exact kX9_fakes_22 (kX9_fakes_27 ih)
def stoF (M : Mem) : Nat → Nat
  | 0 => 0
  | k + 1 => if M 312 k < M 309 k then stoF M k ||| 2 ^ k else stoF M k
theorem stoF_lt {M : Mem} : ∀ n, stoF M n < 2 ^ n
  | 0 => by simp [stoF]
  | k + 1 => by
    have h := stoF_lt (M := M) k
    have h2 : (2 : Nat) ^ k < 2 ^ (k + 1) := Nat.pow_lt_pow_right (by decide) (by omega)
    unfold stoF
    split
    · exact Nat.or_lt_two_pow (Nat.lt_trans h h2) h2
    · omega
theorem stolenSet_n {n : Nat} (h10 : n ≤ 10) (hM : M 200 6 = (n : Int)) : Call X mX9_stolenSet [vr 200] M (retI (stoF M n : Nat) M) := by
  refine kX9_stolenSet_0 ?_
  refine up_loop (n := n) (G := fun k => Runs X mX9_stolenSet 4 [(0, vr 200), (1, vi ((stoF M k : Nat) : Int)), (2, vi (k : Int))] [] M (retI (stoF M n : Nat) M)) ?_ ?_ 0 (Nat.zero_le _)
  · exact kX9_stolenSet_4 (fun h => kX9_stolenSet_43 ⟨rfl, rfl⟩) (fun h => by omega)
  · intro k hk ih
    have hlt := stoF_lt (M := M) k
    have hp : (2 : Nat) ^ k ≤ 2 ^ 10 := Nat.pow_le_pow_right (by decide) (by omega)
    refine kX9_stolenSet_4 (fun h => by omega) (fun h => ?_)
    refine kX9_stolenSet_12 (fun h2 => ?_) (fun h2 => ?_)
    · rw [show ((k : Int)).toNat = k by omega] at h2
      refine kX9_stolenSet_34 (kX9_stolenSet_35 ?_)
      rw [cast1]
      have e : stoF M (k + 1) = stoF M k := by
        show (if _ then _ else _) = _
        rw [if_neg (by omega)]
      have e0 := zor_n (a := stoF M k) (b := 0) (by omega) (by omega)
      rw [Nat.or_zero] at e0
      rw [e] at ih
      rw [show (0 : Int) = ((0 : Nat) : Int) from rfl, e0]
      exact ih
    · rw [show ((k : Int)).toNat = k by omega] at h2
      refine kX9_stolenSet_28 (kX9_stolenSet_35 ?_)
      rw [cast1, one_shl (by omega), zor_n (by omega) (by omega)]
      have e : stoF M (k + 1) = stoF M k ||| 2 ^ k := by
        show (if _ then _ else _) = _
        rw [if_pos (by omega)]
      rw [e] at ih
      exact ih
-- ===== fractions, powers
theorem told_n {a b : Nat} {u : Int} (h0 : 0 < b) : Call X mX9_told [vl (a : Int), vl (b : Int), vi u] M (retL (fracV a b u) M) := by
  refine kX9_told_0 ?_
  obtain ⟨g, hg⟩ : ∃ g, g = Nat.gcd a b := ⟨_, rfl⟩
  have hpos : 0 < g := by rw [hg]; exact Nat.gcd_pos_of_pos_right _ h0
  have go : ∀ (d c : Nat), Nat.gcd c d = g → Runs X mX9_told 6 [(0, vl (a : Int)), (2, vl (b : Int)), (4, vi u), (5, vl (c : Int)), (7, vl (d : Int))] [] M (retL (fracV a b u) M) := by
    intro d
    induction d using Nat.strongRecOn with
    | _ d ih =>
      intro c hc
      refine kX9_told_6 (fun h => ?_) (fun h => ?_)
      · have hd : d = 0 := by omega
        subst hd
        rw [Nat.gcd_zero_right] at hc
        subst hc
        refine kX9_told_31 (fun h2 => ?_) (fun h2 => ?_)
        · refine kX9_told_43 (kX9_told_47 ⟨?_, rfl⟩)
          unfold fracV
          rw [if_pos h2, ← hg]
        · refine kX9_told_36 (kX9_told_47 ⟨?_, rfl⟩)
          unfold fracV
          rw [if_neg h2, ← hg]
      · refine kX9_told_13 ?_
        rw [← Int.natCast_emod]
        refine ih (c % d) (Nat.mod_lt _ (by omega)) d ?_
        rw [← hc, Nat.gcd_comm c d, Nat.gcd_rec d c, Nat.gcd_comm]
  exact go b a hg.symm
theorem mpower_n {b : Int} {t : Nat} (hb : 0 ≤ b ∧ b ≤ 10) (ht : t ≤ 10) : Call X mX9_power [vl b, vi (t : Int)] M (retL (b ^ t) M) := by
  refine kX9_power_0 ?_
  have go := up_loop (n := t) (G := fun k => Runs X mX9_power 5 [(0, vl b), (2, vi (t : Int)), (3, vl (b ^ k)), (5, vi (k : Int))] [] M (retL (b ^ t) M)) ?_ ?_ 0 (Nat.zero_le _)
  · rw [Int.pow_zero] at go
    exact go
  · exact kX9_power_5 (fun h => kX9_power_21 ⟨rfl, rfl⟩) (fun h => by omega)
  · intro k hk ih
    have h1 := pow_in hb (t := k + 1) (by omega)
    rw [Int.pow_succ] at h1
    rw [Int.pow_succ, ← cast1] at ih
    exact kX9_power_5 (fun h => by omega) (fun h => kX9_power_11 ih)
-- ===== teeth that come
theorem draw_n {x : Int} : Call X mX9_draw [vl x] M (retL (drw x) M) := kX9_draw_0 ⟨rfl, rfl⟩
def comeM (M : Mem) (t : Nat) : Mem := up2 (up2 (up2 M 312 t (M 309 t)) 313 t 1) 314 (8 * t) (M 310 t)
theorem come_n {t : Nat} (ht : t < 10) : Call X mX9_come [vr 200, vi (t : Int)] M (ret0 (comeM M t)) := by
  refine kX9_come_0 ⟨rfl, ?_⟩
  rw [show ((t : Int)).toNat = t by omega, show (8 * (t : Int)).toNat = 8 * t by omega, up2_o (by decide), up2_o (by decide)]
  rfl
def maddM (M : Mem) (t : Nat) (s l p : Int) : Mem := up2 (comeM (up2 (up2 (up2 (up2 (up2 M 307 t s) 308 t l) 309 t 0) 310 t p) 311 t 0) t) 200 6 (t + 1)
theorem madd_n {n : Nat} {p x : Int} (hn : n < 10) (hM : M 200 6 = (n : Int)) : Call X mX9_add [vr 200, vi p, vl x] M (ret0 (maddM M n (dsz x) (dlf x) p)) := by
  have hq := qushr_33 x
  have hm : inI (qushr x 33 % 9) := by unfold inI; omega
  have hq0 : ((M 200 6)).toNat = n := by omega
  have h52 : ∀ l : Int, l = dlf x → Runs X mX9_add 52 [(0, vr 200), (1, vi p)] [vi l, vi (n : Int), vr 308] (up2 M 307 n (dsz x)) (ret0 (maddM M n (dsz x) (dlf x) p)) := by
    intro l hl
    have hl01 : 0 ≤ l ∧ l ≤ 1 := by rw [hl]; unfold dlf; split <;> decide
    have e1 : (up2 (up2 M 307 n (dsz x)) 308 ((n : Int)).toNat l) 200 6 = (n : Int) := by rw [up2_o (by decide), up2_o (by decide), hM]
    have e2 : ∀ z, (up2 (up2 (up2 M 307 n (dsz x)) 308 ((n : Int)).toNat l) 309 ((n : Int)).toNat z) 200 6 = (n : Int) := fun z => by rw [up2_o (by decide), e1]
    have e3 : ∀ z y, (up2 (up2 (up2 (up2 M 307 n (dsz x)) 308 ((n : Int)).toNat l) 309 ((n : Int)).toNat z) 310 ((n : Int)).toNat y) 200 6 = (n : Int) := fun z y => by rw [up2_o (by decide), e2]
    have e4 : ∀ z y v, (up2 (up2 (up2 (up2 (up2 M 307 n (dsz x)) 308 ((n : Int)).toNat l) 309 ((n : Int)).toNat z) 310 ((n : Int)).toNat y) 311 ((n : Int)).toNat v) 200 6 = (n : Int) := fun z y v => by rw [up2_o (by decide), e3]
    refine kX9_add_52 (h4 := by rw [e1]; omega) (h5 := by rw [e1]; omega) (h6 := by rw [e1, e2]; omega) (h7 := by rw [e1, e2]; omega) (h8 := by rw [e1, e2, e3]; omega) (h9 := by rw [e1, e2, e3]; omega) (by rw [e1, e2, e3, e4]; exact come_n hn) (on0 ?_)
    rw [show ((n : Int)).toNat = n by omega] at e4 ⊢
    have e5 : (comeM (up2 (up2 (up2 (up2 (up2 M 307 n (dsz x)) 308 n l) 309 n 0) 310 n p) 311 n 0) n) 200 6 = (n : Int) := by
      unfold comeM
      rw [up2_o (by decide), up2_o (by decide), up2_o (by decide), e4]
    refine kX9_add_91 (h1 := by rw [e5]; omega) ⟨rfl, ?_⟩
    rw [e5, hl]
    rfl
  have e0 : (up2 M 307 ((M 200 6)).toNat (l2i (qushr x 33 % 9) + 1)) = up2 M 307 n (dsz x) := by rw [hq0, l2i_n hm]; rfl
  have e6 : (up2 M 307 n (dsz x)) 200 6 = (n : Int) := by rw [up2_o (by decide), hM]
  refine kX9_add_0 (fun h => ?_) (fun h => ?_) (h3 := by rw [l2i_n hm]; omega)
  · rw [e0, e6]
    exact kX9_add_51 (h52 0 (by unfold dlf; rw [if_neg h]))
  · rw [e0, e6]
    exact kX9_add_47 (h52 1 (by unfold dlf; rw [if_pos h]))
end MM
