/-! ===== the sums that can be paid ===== -/
def eC (w : Nat → Int) (m c n : Nat) (v : Int) (lim : Nat) : Prop := ∃ s : Nat, s < lim ∧ s &&& (m ||| c) = s ∧ setW (sgn w c) s n = v
def eP (w : Nat → Int) (m c n : Nat) (v : Int) (Xl Yl : Nat) : Prop := ∃ x y : Nat, x &&& m = x ∧ y &&& c = y ∧ (x < Xl ∨ (x = Xl ∧ y < Yl)) ∧ setW w x n - setW w y n = v
theorem eC_eP {w : Nat → Int} {m c n : Nat} {v : Int} (hm : m < 2 ^ n) (hc : c < 2 ^ n) (hd : ∀ t, ¬ (m.testBit t = true ∧ c.testBit t = true)) : eC w m c n v (2 ^ n) ↔ eP w m c n v (m + 1) 0 := by
  have h := CF_PF (w := w) (price := v) hm hc hd
  constructor
  · rintro ⟨s, h1, h2, h3⟩
    obtain ⟨x, y, q1, q2, q3, q4, -⟩ := (h _ _ _).mp ⟨s, h1, h2, h3, rfl, rfl, rfl⟩
    exact ⟨x, y, q1, q2, q3, q4⟩
  · rintro ⟨x, y, q1, q2, q3, q4⟩
    obtain ⟨s, h1, h2, h3, -⟩ := (h _ _ _).mpr ⟨x, y, q1, q2, q3, q4, rfl, rfl, rfl⟩
    exact ⟨s, h1, h2, h3⟩
theorem eC_S {w : Nat → Int} {m c n i : Nat} {v : Int} : eC w m c n v (i + 1) ↔ eC w m c n v i ∨ (i &&& (m ||| c) = i ∧ setW (sgn w c) i n = v) := by
  constructor
  · rintro ⟨s, h1, h2, h3⟩
    by_cases hq : s = i
    · subst hq
      exact Or.inr ⟨h2, h3⟩
    · exact Or.inl ⟨s, by omega, h2, h3⟩
  · rintro (⟨s, h1, h2⟩ | h)
    · exact ⟨s, by omega, h2⟩
    · exact ⟨i, by omega, h⟩
theorem eP_S {w : Nat → Int} {m c n Xl Yl : Nat} {v : Int} (hx : Xl &&& m = Xl) (hy : Yl &&& c = Yl) : eP w m c n v Xl (Yl + 1) ↔ eP w m c n v Xl Yl ∨ setW w Xl n - setW w Yl n = v := by
  constructor
  · rintro ⟨x, y, h1, h2, h3, h4⟩
    by_cases hq : x < Xl ∨ (x = Xl ∧ y < Yl)
    · exact Or.inl ⟨x, y, h1, h2, hq, h4⟩
    · have e1 : x = Xl := by omega
      have e2 : y = Yl := by omega
      subst e1
      subst e2
      exact Or.inr h4
  · rintro (⟨x, y, h1, h2, h3, h4⟩ | h)
    · exact ⟨x, y, h1, h2, by omega, h4⟩
    · exact ⟨Xl, Yl, hx, hy, Or.inr ⟨rfl, by omega⟩, h⟩
theorem eP_eq {w : Nat → Int} {m c n Xl Yl Xl' Yl' : Nat} {v : Int} (h : ∀ x y : Nat, x &&& m = x → y &&& c = y → ((x < Xl' ∨ (x = Xl' ∧ y < Yl')) ↔ (x < Xl ∨ (x = Xl ∧ y < Yl)))) : eP w m c n v Xl' Yl' ↔ eP w m c n v Xl Yl := by
  constructor
  · rintro ⟨x, y, h1, h2, h3, h4⟩
    exact ⟨x, y, h1, h2, (h x y h1 h2).mp h3, h4⟩
  · rintro ⟨x, y, h1, h2, h3, h4⟩
    exact ⟨x, y, h1, h2, (h x y h1 h2).mpr h3, h4⟩
/-- the marks say just this -/
def marks (A : Nat → Int) (nn : Nat) (D : Int → Prop) : Prop := ∀ v : Nat, 1 ≤ v → v ≤ nn → (A v = 0 ∨ A v = 1) ∧ (A v = 1 ↔ D v)
theorem marks_eq {A : Nat → Int} {nn : Nat} {D D' : Int → Prop} (h : marks A nn D) (hD : ∀ v, D' v ↔ D v) : marks A nn D' := fun v h1 h2 => ⟨(h v h1 h2).1, (h v h1 h2).2.trans (hD v).symm⟩
theorem marks_sum {A B : Nat → Int} {nn : Nat} {D : Int → Prop} (h : marks A nn D) (h2 : marks B nn D) : sumF (fun j => A (j + 1)) nn = sumF (fun j => B (j + 1)) nn := by
  refine sumF_congr (fun t ht => ?_)
  obtain ⟨a1, a2⟩ := h (t + 1) (by omega) (by omega)
  obtain ⟨b1, b2⟩ := h2 (t + 1) (by omega) (by omega)
  have e := a2.trans b2.symm
  omega
theorem sumF_up {A : Nat → Int} {v : Nat} {z : Int} : ∀ nn : Nat, 1 ≤ v → sumF (fun j => (if j + 1 = v then z else A (j + 1))) nn = sumF (fun j => A (j + 1)) nn + (if v ≤ nn then z - A v else 0)
  | 0, h => by
    rw [if_neg (by omega)]
    rfl
  | k + 1, h => by
    have ih := sumF_up (A := A) (v := v) (z := z) k h
    show sumF _ k + (if k + 1 = v then z else A (k + 1)) = sumF (fun j => A (j + 1)) k + A (k + 1) + _
    rw [ih]
    by_cases hq : k + 1 = v
    · subst hq
      rw [if_pos rfl, if_neg (by omega), if_pos (by omega)]
      omega
    · rw [if_neg hq]
      by_cases h2 : v ≤ k
      · rw [if_pos h2, if_pos (by omega)]
        omega
      · rw [if_neg h2, if_neg (by omega)]
        omega
theorem sumF_0 : ∀ n : Nat, sumF (fun _ => (0 : Int)) n = 0
  | 0 => rfl
  | k + 1 => by
    show sumF _ k + 0 = 0
    rw [sumF_0 k]
    rfl
section AU
variable {X : Scr} {M : Mem}
theorem xsums_n {n b g L nn : Nat} {p q : Int} (hR : RRp M n b g L) (hpq : p ≠ q) (h1 : 1 ≤ nn) (h2 : nn ≤ 999) :
    Runs X mX8_sums 36 [(0, vr 0), (1, vi p), (2, vi q), (3, vi (nn : Int))] [] M (fun r M1 => quiet M M1 ∧ r = some (vi (sumF (fun j => M1 36 (j + 1)) nn)) ∧ marks (M1 36) nn (fun v => eP (mw M) (own (M 310) p n) (own (M 310) q n) n v (own (M 310) p n + 1) 0)) := by
  have hX := RR_XT hR
  have h10 := hX.1
  have hp2 := p2_le h10
  have h0 : M 35 0 = 0 := hR.2.2.2.2.2.2.2.2.2.1
  obtain ⟨mine, hmi⟩ : ∃ m, m = own (M 310) p n := ⟨_, rfl⟩
  obtain ⟨theirs, hth⟩ : ∃ m, m = own (M 310) q n := ⟨_, rfl⟩
  have hdj : ∀ t, ¬ (mine.testBit t = true ∧ theirs.testBit t = true) := by rw [hmi, hth]; exact own_disj hpq
  have lmi : mine < 2 ^ n := by rw [hmi]; exact own_lt _ _ _
  have lth : theirs < 2 ^ n := by rw [hth]; exact own_lt _ _ _
  have lor : mine ||| theirs < 2 ^ n := Nat.or_lt_two_pow lmi lth
  refine kX8_sums_36 (ownedBy_n (n := n) (by omega) h10 hX.2.1) (on ?_)
  refine kX8_sums_44 (ownedBy_n (n := n) (by omega) h10 hX.2.1) (on ?_)
  rw [RR_own hR, RR_own hR, ← hmi, ← hth]
  refine kX8_sums_54 (weigh_n (c := theirs) hX h0 (by omega)) ?_
  rintro M1 ⟨-, g1, g2⟩
  rw [zor_n (by omega) (by omega)]
  refine kX8_sums_67 (fill_n (p := 36) (n := 1000) rfl (by decide)) (on0 ?_)
  obtain ⟨MF, hMF⟩ : ∃ MF, MF = fillM M1 36 1000 0 := ⟨_, rfl⟩
  rw [← hMF]
  have f36 : ∀ j, j < 1000 → MF 36 j = 0 := fun j hj => by rw [hMF]; unfold fillM; rw [if_pos ⟨rfl, hj⟩]
  have fo : ∀ o, o ≠ 36 → MF o = M1 o := by
    intro o ho
    funext j
    rw [hMF]
    unfold fillM
    rw [if_neg (fun z => ho z.1)]
  refine kX8_sums_75 ?_
  have wc : ∀ s, setW (sgn (xw M) theirs) s n = setW (sgn (mw M) theirs) s n := fun s => setW_congr (fun t ht => by unfold sgn; rw [(RR_w hR t ht).1])
  have go : ∀ i, i ≤ 2 ^ n → ∀ M2 : Mem, (∀ o, o ≠ 36 → M2 o = M1 o) → marks (M2 36) nn (fun v => eC (mw M) mine theirs n v i) → Runs X mX8_sums 81 [(0, vr 0), (3, vi (nn : Int)), (5, vi (zxor ((mine ||| theirs : Nat) : Int) (-1))), (6, vi (sumF (fun j => M2 36 (j + 1)) nn)), (7, vi (i : Int))] [] M2 (fun r M1 => quiet M M1 ∧ r = some (vi (sumF (fun j => M1 36 (j + 1)) nn)) ∧ marks (M1 36) nn (fun v => eP (mw M) mine theirs n v (mine + 1) 0)) := by
    have hn2 : ∀ M2 : Mem, (∀ o, o ≠ 36 → M2 o = M1 o) → M2 (oT 0) 1 = (n : Int) := fun M2 hk => by
      rw [hk _ (by unfold oT; decide), g1 _ (by unfold oT; decide)]; exact hX.2.1
    refine up_loop (n := 2 ^ n) ?_ ?_
    · intro M2 hk hmk
      refine kX8_sums_81 (setsOf_n (hn2 M2 hk) h10) (on ?_)
      refine kX8_sums_87 (fun q => kX8_sums_157 ⟨?_, rfl, ?_⟩) (fun q => by omega)
      · intro o j hu
        by_cases ho : o = 35
        · subst ho
          have : j = 0 := by
            by_cases hj : j = 0
            · exact hj
            · exact absurd (show unw 35 j by unfold unw; omega) hu
          subst this
          rw [hk 35 (by decide), g2 0 (Nat.two_pow_pos n), setW_0, h0]
        · have h36 : o ≠ 36 := fun z => hu (by unfold unw; omega)
          rw [hk o h36, g1 o ho]
      · exact marks_eq hmk (fun v => (eC_eP lmi lth hdj).symm)
    · intro i hi ih M2 hk hmk
      refine kX8_sums_81 (setsOf_n (hn2 M2 hk) h10) (on ?_)
      refine kX8_sums_87 (fun q => by omega) (fun q => ?_)
      have eb : M2 35 ((i : Int)).toNat = setW (sgn (mw M) theirs) i n := by
        rw [hk _ (by decide), show ((i : Int)).toNat = i by omega, g2 i hi, wc]
      have sb : ∀ k, k ≤ nn → 0 ≤ sumF (fun j => M2 36 (j + 1)) k ∧ sumF (fun j => M2 36 (j + 1)) k ≤ 1 * (k : Int) := fun k hk2 => sumF_bound (fun t ht => by
        obtain ⟨z1, -⟩ := hmk (t + 1) (by omega) (by omega)
        omega)
      have sbn := sb nn (Nat.le_refl _)
      -- nothing new
      have same : (¬ (i &&& (mine ||| theirs) = i ∧ 1 ≤ setW (sgn (mw M) theirs) i n ∧ setW (sgn (mw M) theirs) i n ≤ nn)) → Runs X mX8_sums 151 [(0, vr 0), (3, vi (nn : Int)), (5, vi (zxor ((mine ||| theirs : Nat) : Int) (-1))), (6, vi (sumF (fun j => M2 36 (j + 1)) nn)), (7, vi (i : Int))] [] M2 (fun r M1 => quiet M M1 ∧ r = some (vi (sumF (fun j => M1 36 (j + 1)) nn)) ∧ marks (M1 36) nn (fun v => eP (mw M) mine theirs n v (mine + 1) 0)) := by
        intro hno
        refine kX8_sums_151 ?_
        rw [cast1]
        refine ih M2 hk (fun v v1 v2 => ⟨(hmk v v1 v2).1, (hmk v v1 v2).2.trans ?_⟩)
        show eC (mw M) mine theirs n (v : Int) i ↔ eC (mw M) mine theirs n (v : Int) (i + 1)
        rw [eC_S]
        constructor
        · exact Or.inl
        · rintro (z | ⟨z1, z2⟩)
          · exact z
          · exact absurd ⟨z1, by omega, by omega⟩ hno
      refine kX8_sums_90 (fun q2 => same (fun z => q2 ((outside_n (by omega) (by omega)).mpr z.1))) (fun q2 => ?_)
      have hsub := (outside_n (by omega) (by omega)).mp q2
      rw [eb]
      refine kX8_sums_107 (fun q3 => same (fun z => by omega)) (fun q3 => ?_)
      refine kX8_sums_113 (fun q4 => same (fun z => by omega)) (fun q4 => ?_)
      refine kX8_sums_119 (fun q5 => by omega) (fun q5 => ?_)
      obtain ⟨v, hv⟩ : ∃ v : Nat, setW (sgn (mw M) theirs) i n = (v : Int) := ⟨(setW (sgn (mw M) theirs) i n).toNat, by omega⟩
      rw [hv] at q3 q4 q5 ⊢
      have ev : ((v : Int)).toNat = v := by omega
      obtain ⟨z1, z2⟩ := hmk v (by omega) (by omega)
      refine kX8_sums_129 (h3 := by rw [ev]; omega) (h4 := by rw [ev]; omega) ?_
      rw [ev]
      refine kX8_sums_151 ?_
      rw [cast1]
      have es : sumF (fun j => M2 36 (j + 1)) nn + (1 - M2 36 v) = sumF (fun j => (up2 M2 36 v 1) 36 (j + 1)) nn := by
        have e1 := sumF_up (A := M2 36) (v := v) (z := 1) nn (by omega)
        rw [if_pos (by omega)] at e1
        rw [← e1]
        refine sumF_congr (fun t ht => ?_)
        by_cases hq : t + 1 = v
        · rw [if_pos hq, hq, up2_eq]
        · rw [if_neg hq, up2_j hq]
      rw [es]
      refine ih _ (fun o ho => ?_) (fun k k1 k2 => ?_)
      · funext j
        rw [up2_o ho, hk o ho]
      · show (_ ∨ _) ∧ (_ ↔ eC (mw M) mine theirs n (k : Int) (i + 1))
        rw [eC_S, hv]
        by_cases hq : k = v
        · subst hq
          rw [up2_eq]
          exact ⟨Or.inr rfl, fun _ => Or.inr ⟨hsub, rfl⟩, fun _ => rfl⟩
        · rw [up2_j hq]
          refine ⟨(hmk k k1 k2).1, (hmk k k1 k2).2.trans ⟨Or.inl, ?_⟩⟩
          rintro (z | ⟨-, z⟩)
          · exact z
          · omega
  have g0 := go 0 (Nat.zero_le _) MF fo (fun v v1 v2 => ⟨Or.inl (f36 v (by omega)), fun z => by rw [f36 v (by omega)] at z; exact absurd z (by decide), fun ⟨s, s1, _⟩ => by omega⟩)
  have es0 : sumF (fun j => MF 36 (j + 1)) nn = 0 := by
    have : sumF (fun j => MF 36 (j + 1)) nn = sumF (fun _ => 0) nn := sumF_congr (fun t ht => f36 _ (by omega))
    rw [this]
    exact sumF_0 nn
  rw [es0] at g0
  exact g0
theorem MT_o {M1 : Mem} {n : Nat} (h : MT M n) (h2 : ∀ o, o ≠ 347 → M1 o = M o) : MT M1 n := by
  unfold MT at h ⊢
  rw [h2 200 (by decide), h2 307 (by decide), h2 308 (by decide), h2 309 (by decide), h2 310 (by decide), h2 311 (by decide), h2 312 (by decide), h2 313 (by decide)]
  exact h
theorem mw_o {M1 : Mem} (h2 : ∀ o, o ≠ 347 → M1 o = M o) : mw M1 = mw M := by
  funext t
  unfold mw mwb
  rw [h2 200 (by decide), h2 307 (by decide), h2 308 (by decide), h2 309 (by decide)]
theorem msums_n {n nn : Nat} {p q : Int} (hN : MT M n) (h1 : 1 ≤ nn) (h2 : nn ≤ 999) :
    Runs X mX9_sums 36 [(0, vr 200), (1, vi p), (2, vi q), (3, vi (nn : Int))] [] M (fun r M1 => (∀ o, o ≠ 347 → M1 o = M o) ∧ r = some (vi (sumF (fun j => M1 347 (j + 1)) nn)) ∧ marks (M1 347) nn (fun v => eP (mw M) (own (M 310) p n) (own (M 310) q n) n v (own (M 310) p n + 1) 0)) := by
  have h10 := hN.1
  have hp2 := p2_le h10
  obtain ⟨mine, hmi⟩ : ∃ m, m = own (M 310) p n := ⟨_, rfl⟩
  obtain ⟨his, hth⟩ : ∃ m, m = own (M 310) q n := ⟨_, rfl⟩
  have lmi : mine < 2 ^ n := by rw [hmi]; exact own_lt _ _ _
  have lth : his < 2 ^ n := by rw [hth]; exact own_lt _ _ _
  rw [← hmi, ← hth]
  obtain ⟨P, hP⟩ : ∃ P : Option AV → Mem → Prop, P = fun r M1 => (∀ o, o ≠ 347 → M1 o = M o) ∧ r = some (vi (sumF (fun j => M1 347 (j + 1)) nn)) ∧ marks (M1 347) nn (fun v => eP (mw M) mine his n v (mine + 1) 0) := ⟨_, rfl⟩
  rw [← hP]
  have hw : ∀ s, 0 ≤ setW (mw M) s n ∧ setW (mw M) s n ≤ 8100 := fun s => by
    have := setW_bound (w := mw M) (s := s) (B := 810) (n := n) (fun t ht => mw_in hN ht) (by decide)
    omega
  -- at last: how many marks
  have last : ∀ M2 : Mem, (∀ o, o ≠ 347 → M2 o = M o) → marks (M2 347) nn (fun v => eP (mw M) mine his n v (mine + 1) 0) → Runs X mX9_sums 180 [(0, vr 200), (3, vi (nn : Int))] [] M2 P := by
    intro M2 hk hm
    refine kX9_sums_180 ?_
    have sb : ∀ k, k ≤ nn → 0 ≤ sumF (fun j => M2 347 (j + 1)) k ∧ sumF (fun j => M2 347 (j + 1)) k ≤ 1 * (k : Int) := fun k hk2 => sumF_bound (fun t ht => by
      obtain ⟨z1, -⟩ := hm (t + 1) (by omega) (by omega)
      omega)
    have go := up_loop (n := nn) (G := fun k => Runs X mX9_sums 186 [(0, vr 200), (3, vi (nn : Int)), (9, vi (sumF (fun j => M2 347 (j + 1)) k)), (10, vi ((k : Int) + 1))] [] M2 P) ?_ ?_ 0 (Nat.zero_le _)
    · exact go
    · refine kX9_sums_186 (fun q => kX9_sums_218 ?_) (fun q => by omega)
      rw [hP]
      exact ⟨hk, rfl, hm⟩
    · intro k hk2 ih
      have sbk := sb k (by omega)
      obtain ⟨z1, -⟩ := hm (k + 1) (by omega) (by omega)
      have ek : ((k : Int) + 1).toNat = k + 1 := by omega
      have es : sumF (fun j => M2 347 (j + 1)) (k + 1) = sumF (fun j => M2 347 (j + 1)) k + M2 347 (k + 1) := rfl
      refine kX9_sums_186 (fun q => by omega) (fun q => ?_)
      refine kX9_sums_192 (fun q2 => kX9_sums_208 (kX9_sums_209 ?_)) (fun q2 => kX9_sums_204 (kX9_sums_209 ?_))
      · rw [ek] at q2
        rw [es, q2] at ih
        exact ih
      · rw [ek] at q2
        rw [es, show M2 347 (k + 1) = 1 by omega] at ih
        exact ih
  -- the pairs
  have pairs : ∀ M2 : Mem, (∀ o, o ≠ 347 → M2 o = M o) → (∀ v : Nat, v < 1000 → M2 347 v = 0) → Runs X mX9_sums 61 [(0, vr 200), (1, vi p), (2, vi q), (3, vi (nn : Int))] [] M2 P := by
    intro M2 hk hz
    refine kX9_sums_61 (setOf_n h10 (by rw [hk 200 (by decide)]; exact hN.2.1)) (on ?_)
    refine kX9_sums_66 (setOf_n h10 (by rw [hk 200 (by decide)]; exact hN.2.1)) (on ?_)
    rw [hk 310 (by decide), ← hmi, ← hth]
    refine kX9_sums_73 ?_
    have outer : ∀ x, x &&& mine = x → ∀ M2 : Mem, (∀ o, o ≠ 347 → M2 o = M o) → marks (M2 347) nn (fun v => eP (mw M) mine his n v x 0) → Runs X mX9_sums 81 [(0, vr 200), (3, vi (nn : Int)), (5, vi (mine : Int)), (6, vi (his : Int)), (7, vi (x : Int)), (8, vi 1)] [] M2 P := by
      refine sub_ind (S := mine) ?_
      intro x hx ih M2 hk hL
      have hxle := sub_le hx
      have hwx := hw x
      refine kX9_sums_81 (fun h => by omega) (fun h => kX9_sums_86 ?_)
      have out : ∀ M3 : Mem, (∀ o, o ≠ 347 → M3 o = M o) → marks (M3 347) nn (fun v => eP (mw M) mine his n v (x + 1) 0) → Runs X mX9_sums 156 [(0, vr 200), (3, vi (nn : Int)), (5, vi (mine : Int)), (6, vi (his : Int)), (7, vi (x : Int))] [] M3 P := by
        intro M3 hk3 hL3
        refine kX9_sums_156 (next_n (by omega) hx) (on ?_)
        by_cases hxe : x = mine
        · rw [(nxt_0 hx).mpr hxe]
          refine kX9_sums_163 (fun h2 => ?_) (fun h2 => absurd rfl h2)
          refine kX9_sums_174 (kX9_sums_175 (kX9_sums_81 (fun h3 => ?_) (fun h3 => absurd rfl h3)))
          rw [hxe] at hL3
          exact last M3 hk3 hL3
        · obtain ⟨n1, n2, n3⟩ := nxt_ok hx hxe
          refine kX9_sums_163 (fun h2 => by omega) (fun h2 => ?_)
          refine kX9_sums_170 (kX9_sums_175 ?_)
          refine ih hxe M3 hk3 (marks_eq hL3 (fun v => eP_eq (fun x1 y1 g1 g2 => ?_)))
          have := n3 x1 g1
          omega
      have inner : ∀ y, y &&& his = y → ∀ M3 : Mem, (∀ o, o ≠ 347 → M3 o = M o) → marks (M3 347) nn (fun v => eP (mw M) mine his n v x y) → Runs X mX9_sums 92 [(0, vr 200), (3, vi (nn : Int)), (5, vi (mine : Int)), (6, vi (his : Int)), (7, vi (x : Int)), (9, vi (y : Int)), (10, vi 1)] [] M3 P := by
        refine sub_ind (S := his) ?_
        intro y hy ih2 M3 hk3 hL3
        have hyle := sub_le hy
        have hwy := hw y
        refine kX9_sums_92 (fun h2 => by omega) (fun h2 => ?_)
        refine kX9_sums_97 (mworthOf_n (s := x) (MT_o hN hk3) (by omega)) (on ?_)
        refine kX9_sums_103 (mworthOf_n (s := y) (MT_o hN hk3) (by omega)) (on ?_)
        rw [mw_o hk3]
        refine kX9_sums_109 in_n (on ?_)
        have step : ∀ M4 : Mem, (∀ o, o ≠ 347 → M4 o = M o) → marks (M4 347) nn (fun v => eP (mw M) mine his n v x (y + 1)) → Runs X mX9_sums 132 [(0, vr 200), (3, vi (nn : Int)), (5, vi (mine : Int)), (6, vi (his : Int)), (7, vi (x : Int)), (9, vi (y : Int))] [] M4 P := by
          intro M4 hk4 hL4
          refine kX9_sums_132 (next_n (by omega) hy) (on ?_)
          by_cases hye : y = his
          · rw [(nxt_0 hy).mpr hye]
            refine kX9_sums_139 (fun h2 => ?_) (fun h2 => absurd rfl h2)
            refine kX9_sums_150 (kX9_sums_151 (kX9_sums_92 (fun h3 => ?_) (fun h3 => absurd rfl h3)))
            refine out M4 hk4 (marks_eq hL4 (fun v => eP_eq (fun x1 y1 g1 g2 => ?_)))
            have := sub_le g2
            omega
          · obtain ⟨n1, n2, n3⟩ := nxt_ok hy hye
            refine kX9_sums_139 (fun h2 => by omega) (fun h2 => ?_)
            refine kX9_sums_146 (kX9_sums_151 ?_)
            refine ih2 hye M4 hk4 (marks_eq hL4 (fun v => eP_eq (fun x1 y1 g1 g2 => ?_)))
            have := n3 y1 g2
            omega
        refine kX9_sums_121 (fun h3 => ?_) (fun h3 => ?_)
        · have h4 := b2i_d0.mp h3
          refine step M3 hk3 (fun v v1 v2 => ⟨(hL3 v v1 v2).1, (hL3 v v1 v2).2.trans ?_⟩)
          show eP (mw M) mine his n (v : Int) x y ↔ eP (mw M) mine his n (v : Int) x (y + 1)
          rw [eP_S hx hy]
          constructor
          · exact Or.inl
          · rintro (z | z)
            · exact z
            · exact absurd (show 1 ≤ setW (mw M) x n - setW (mw M) y n ∧ setW (mw M) x n - setW (mw M) y n ≤ (nn : Int) by omega) h4
        · have h4 := b2i_d1.mp h3
          obtain ⟨v, hv⟩ : ∃ v : Nat, setW (mw M) x n - setW (mw M) y n = (v : Int) := ⟨(setW (mw M) x n - setW (mw M) y n).toNat, by omega⟩
          rw [hv] at h4 ⊢
          have ev : ((v : Int)).toNat = v := by omega
          refine kX9_sums_124 ?_
          rw [ev]
          refine step _ (fun o ho => ?_) (fun k k1 k2 => ?_)
          · funext j
            rw [up2_o ho, hk3 o ho]
          · show (_ ∨ _) ∧ (_ ↔ eP (mw M) mine his n (k : Int) x (y + 1))
            rw [eP_S hx hy, hv]
            by_cases hq : k = v
            · subst hq
              rw [up2_eq]
              exact ⟨Or.inr rfl, fun _ => Or.inr rfl, fun _ => rfl⟩
            · rw [up2_j hq]
              refine ⟨(hL3 k k1 k2).1, (hL3 k k1 k2).2.trans ⟨Or.inl, ?_⟩⟩
              rintro (z | z)
              · exact z
              · omega
      exact inner 0 (Nat.zero_and _) M2 hk hL
    refine outer 0 (Nat.zero_and _) M2 hk (fun v v1 v2 => ⟨Or.inl (hz v (by omega)), fun z => by rw [hz v (by omega)] at z; exact absurd z (by decide), ?_⟩)
    rintro ⟨x1, y1, g1, g2, g3, g4⟩
    omega
  -- all marks away
  refine kX9_sums_36 ?_
  have go : ∀ k, k ≤ 1000 → ∀ M2 : Mem, (∀ o, o ≠ 347 → M2 o = M o) → (∀ v : Nat, v < k → M2 347 v = 0) → Runs X mX9_sums 39 [(0, vr 200), (1, vi p), (2, vi q), (3, vi (nn : Int)), (5, vi (k : Int))] [] M2 P := by
    refine up_loop (n := 1000) ?_ ?_
    · intro M2 hk hz
      exact kX9_sums_39 (fun h => pairs M2 hk hz) (fun h => by omega)
    · intro k hk2 ih M2 hk hz
      refine kX9_sums_39 (fun h => by omega) (fun h => kX9_sums_47 ?_)
      rw [cast1, show ((k : Int)).toNat = k by omega]
      refine ih _ (fun o ho => ?_) (all_S.mpr ⟨fun v hv => ?_, ?_⟩)
      · funext j
        rw [up2_o ho, hk o ho]
      · rw [up2_j (by omega)]; exact hz v hv
      · rw [up2_eq]
  exact go 0 (Nat.zero_le _) M (fun o _ => rfl) (fun v hv => by omega)
theorem ag_sums {p q s : Int} (h : RR M) : Agree X mX8_sums mX9_sums [vr 0, vi p, vi q, vi s] [vr 200, vi p, vi q, vi s] M := by
  obtain ⟨n, b, g, L, hR⟩ := id h
  by_cases hn : noPayV p q 0 = 0
  · obtain ⟨p1, p2, p3, p4⟩ := noPayV_0.mp hn
    by_cases hs : 1 ≤ s ∧ s ≤ 999
    · obtain ⟨nn, rfl⟩ : ∃ nn : Nat, s = (nn : Int) := ⟨s.toNat, by omega⟩
      refine ⟨fun r M1 => quiet M M1 ∧ r = some (vi (sumF (fun j => M1 36 (j + 1)) nn)) ∧ marks (M1 36) nn (fun v => eP (mw M) (own (M 310) p n) (own (M 310) q n) n v (own (M 310) p n + 1) 0), ?_, ?_⟩
      · refine kX8_sums_0 isPerson_n (on ?_)
        refine kX8_sums_4 (fun z => absurd p1 (b2i_d0.mp z)) (fun _ => ?_)
        refine kX8_sums_7 isPerson_n (on ?_)
        refine kX8_sums_11 (fun _ => ?_) (fun z => absurd p2 (b2i_d0.mp z))
        refine kX8_sums_16 (fun z => absurd z p3) (fun _ => kX8_sums_21 (fun z => by omega) (fun _ => kX8_sums_26 (fun _ => ?_) (fun z => by omega)))
        exact xsums_n hR p3 (by omega) (by omega)
      · rintro r M1 ⟨hq, rfl, hmk⟩
        have hR1 := RR_quiet hR hq
        have hq0 := quiet_trans hq (q0 (M := M1))
        have hR2 := RR_quiet hR1 (q0 (M := M1))
        have hN := RR_MT hR2
        have e : ∀ o, (306 < o ∧ o < 315) → (up2 M1 200 0 0) o = M o := fun o ho => quiet_o hq0 (fun j => by unfold unw; omega)
        have ew : mw (up2 M1 200 0 0) = mw M := by
          funext t
          unfold mw mwb
          rw [hq0 200 4 (by unfold unw; omega), hq0 200 5 (by unfold unw; omega), e 307 (by omega), e 308 (by omega), e 309 (by omega)]
        refine kX9_sums_0 noPay_n (on ?_)
        refine kX9_sums_11 (fun _ => ?_) (fun z => absurd hn z)
        refine kX9_sums_21 in_n (on ?_)
        refine kX9_sums_30 (fun _ => ?_) (fun z => absurd hs (b2i_d0.mp z))
        refine (msums_n (p := p) (q := q) hN (by omega) (by omega)).mono ?_
        rw [ew, e 310 (by omega)]
        rintro r M2 ⟨k1, rfl, k3⟩
        refine ⟨by rw [marks_sum hmk k3], n, b, g, L, RR_quiet hR2 (fun o j hu => ?_)⟩
        rw [k1 o (fun z => hu (by unfold unw; omega))]
    · refine Agree.ask0 (r0 := vi (-2)) h ?_ ?_
      · refine kX8_sums_0 isPerson_n (on ?_)
        refine kX8_sums_4 (fun z => absurd p1 (b2i_d0.mp z)) (fun _ => ?_)
        refine kX8_sums_7 isPerson_n (on ?_)
        refine kX8_sums_11 (fun _ => ?_) (fun z => absurd p2 (b2i_d0.mp z))
        exact kX8_sums_16 (fun z => absurd z p3) (fun _ => kX8_sums_21 (fun z => kX8_sums_33 ⟨rfl, rfl⟩) (fun _ => kX8_sums_26 (fun _ => by omega) (fun z => kX8_sums_33 ⟨rfl, rfl⟩)))
      · refine kX9_sums_0 noPay_n (on ?_)
        refine kX9_sums_11 (fun _ => ?_) (fun z => absurd hn z)
        refine kX9_sums_21 in_n (on ?_)
        exact kX9_sums_30 (fun z => absurd (b2i_d1.mp z) hs) (fun z => kX9_sums_33 ⟨rfl, q0⟩)
  · refine Agree.ask0 (r0 := vi (noPayV p q 0)) h ?_ ?_
    · have b14 : ¬ ((0 ≤ p ∧ p < 4) ∧ (0 ≤ q ∧ q < 4)) → Runs X mX8_sums 14 [] [] M (fun r M1 => r = some (vi (noPayV p q 0)) ∧ M1 = M) := fun z => kX8_sums_14 ⟨by unfold noPayV; rw [if_pos (by omega)], rfl⟩
      refine kX8_sums_0 isPerson_n (on ?_)
      refine kX8_sums_4 (fun z => b14 (fun y => absurd y.1 (b2i_d0.mp z))) (fun z1 => ?_)
      refine kX8_sums_7 isPerson_n (on ?_)
      refine kX8_sums_11 (fun z2 => ?_) (fun z => b14 (fun y => absurd y.2 (b2i_d0.mp z)))
      have y1 := b2i_d1.mp z1
      have y2 := b2i_d1.mp z2
      have b33 : p = q → Runs X mX8_sums 33 [] [] M (fun r M1 => r = some (vi (noPayV p q 0)) ∧ M1 = M) := fun z => kX8_sums_33 ⟨by unfold noPayV; rw [if_neg (by omega), if_pos (Or.inl z)], rfl⟩
      exact kX8_sums_16 (fun z => b33 z) (fun z => absurd (noPayV_0.mpr ⟨y1, y2, z, by decide, by decide⟩) hn)
    · refine kX9_sums_0 noPay_n (on ?_)
      exact kX9_sums_11 (fun z => absurd z hn) (fun _ => kX9_sums_18 ⟨rfl, q0⟩)
end AU
