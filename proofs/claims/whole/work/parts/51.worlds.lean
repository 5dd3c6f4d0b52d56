/-! ===== one world kept in another ===== -/
def inW (w o : Nat) : Prop := (100 + 18 * w ≤ o ∧ o < 118 + 18 * w) ∨ o = 20 + 2 * w ∨ o = 11 + 3 * w ∨ o = 12 + 3 * w
def Wc (M M2 : Mem) (w v b : Nat) : Prop := M2 (oT (9 * w)) 1 = M (oT (9 * v)) 1 ∧ (∀ j, j < 150 → M2 (oC (9 * w)) j = M (oC (9 * v)) j) ∧ M2 (oB w) 1 = (b : Int) ∧ (∀ k, k < b → M2 (oT (9 * w + 1 + k)) 1 = M (oT (9 * v + 1 + k)) 1 ∧ ∀ j, j < 150 → M2 (oC (9 * w + 1 + k)) j = M (oC (9 * v + 1 + k)) j) ∧ ∀ j, j < 16 → M2 (oG w) j = M (oG v) j ∧ M2 (oN w) j = M (oN v) j
theorem bcp_o {M : Mem} {w v o : Nat} : ∀ k, k ≤ 8 → (o < 102 + 18 * w ∨ 118 + 18 * w ≤ o) → bcp M w v k o = M o
  | 0, _, _ => rfl
  | k + 1, h, ho => by
    have ih := bcp_o (M := M) (v := v) k (by omega) ho
    funext j
    show copT (bcp M w v k) (9 * w + 1 + k) (9 * v + 1 + k) o j = M o j
    rw [copT_o (by unfold oT; omega) (by unfold oC; omega), ih]
theorem bcp_f {M : Mem} {w v : Nat} (hwv : w ≠ v) : ∀ k, k ≤ 8 → ∀ i, i < k → bcp M w v k (oT (9 * w + 1 + i)) 1 = M (oT (9 * v + 1 + i)) 1 ∧ ∀ j, j < 150 → bcp M w v k (oC (9 * w + 1 + i)) j = M (oC (9 * v + 1 + i)) j
  | 0, _, i, hi => absurd hi (Nat.not_lt_zero i)
  | k + 1, h, i, hi => by
    have e : bcp M w v (k + 1) = copT (bcp M w v k) (9 * w + 1 + k) (9 * v + 1 + k) := rfl
    rw [e]
    by_cases hk : i = k
    · subst hk
      refine ⟨?_, fun j hj => ?_⟩
      · rw [copT_T, bcp_o i (by omega) (by unfold oT; omega)]
      · rw [copT_C hj, bcp_o i (by omega) (by unfold oC; omega)]
    · obtain ⟨i1, i2⟩ := bcp_f (M := M) hwv k (by omega) i (by omega)
      refine ⟨?_, fun j hj => ?_⟩
      · rw [copT_o (by unfold oT; omega) (by unfold oT oC; omega)]; exact i1
      · rw [copT_o (by unfold oT oC; omega) (by unfold oC; omega)]; exact i2 j hj
theorem rcop_o {M : Mem} {w v o : Nat} (h : o ≠ oG w) (h2 : o ≠ oN w) : rcopM M w v o = M o := by
  funext j
  unfold rcopM
  rw [cpyM_ne _ h2, cpyM_ne _ h]
theorem rcop_G {M : Mem} {w v j : Nat} (hj : j < 16) : rcopM M w v (oG w) j = M (oG v) j := by
  unfold rcopM
  rw [cpyM_ne _ (by unfold oG oN; omega)]
  unfold cpyM
  rw [if_pos ⟨rfl, by omega, by omega⟩]
  congr 1
  omega
theorem rcop_N {M : Mem} {w v j : Nat} (hj : j < 16) : rcopM M w v (oN w) j = M (oN v) j := by
  unfold rcopM cpyM
  rw [if_pos ⟨rfl, by omega, by omega⟩, if_neg (by unfold oG oN; omega)]
  congr 1
  omega
theorem cpW {M : Mem} {w v b : Nat} (hw : w < 3) (hv : v < 3) (hwv : w ≠ v) (hb : b ≤ 8) : (∀ o, ¬ inW w o → rcopM (bcp (up2 (copT M (9 * w) (9 * v)) (oB w) 1 b) w v b) w v o = M o) ∧ Wc M (rcopM (bcp (up2 (copT M (9 * w) (9 * v)) (oB w) 1 b) w v b) w v) w v b := by
  obtain ⟨M0, hM0⟩ : ∃ M0, M0 = up2 (copT M (9 * w) (9 * v)) (oB w) 1 (b : Int) := ⟨_, rfl⟩
  rw [← hM0]
  have m0 : ∀ o, o ≠ oT (9 * w) → o ≠ oC (9 * w) → o ≠ oB w → M0 o = M o := by
    intro o o1 o2 o3
    funext j
    rw [hM0, up2_o o3, copT_o o1 o2]
  refine ⟨fun o ho => ?_, ?_, fun j hj => ?_, ?_, fun k hk => ⟨?_, fun j hj => ?_⟩, fun j hj => ⟨?_, ?_⟩⟩
  · unfold inW at ho
    rw [rcop_o (by unfold oG; omega) (by unfold oN; omega), bcp_o b hb (by omega), m0 o (by unfold oT; omega) (by unfold oC; omega) (by unfold oB; omega)]
  · rw [rcop_o (by unfold oG oT; omega) (by unfold oN oT; omega), bcp_o b hb (by unfold oT; omega), hM0, up2_o (by unfold oT oB; omega), copT_T]
  · rw [rcop_o (by unfold oG oC; omega) (by unfold oN oC; omega), bcp_o b hb (by unfold oC; omega), hM0, up2_o (by unfold oC oB; omega), copT_C hj]
  · rw [rcop_o (by unfold oG oB; omega) (by unfold oN oB; omega), bcp_o b hb (by unfold oB; omega), hM0, up2_eq]
  · rw [rcop_o (by unfold oG oT; omega) (by unfold oN oT; omega), (bcp_f hwv b hb k hk).1, m0 _ (by unfold oT; omega) (by unfold oT oC; omega) (by unfold oT oB; omega)]
  · rw [rcop_o (by unfold oG oC; omega) (by unfold oN oC; omega), (bcp_f hwv b hb k hk).2 j hj, m0 _ (by unfold oT oC; omega) (by unfold oC; omega) (by unfold oC oB; omega)]
  · rw [rcop_G hj, bcp_o b hb (by unfold oG; omega), m0 _ (by unfold oT oG; omega) (by unfold oC oG; omega) (by unfold oG oB; omega)]
  · rw [rcop_N hj, bcp_o b hb (by unfold oN; omega), m0 _ (by unfold oT oN; omega) (by unfold oC oN; omega) (by unfold oN oB; omega)]
theorem Wc_same {M M2 : Mem} {v b : Nat} (hv : v < 3) (h : ∀ o, inW v o → M2 o = M o) (hb : M (oB v) 1 = (b : Int)) (hb8 : b ≤ 8) : Wc M M2 v v b := by
  refine ⟨?_, fun j hj => ?_, ?_, fun k hk => ⟨?_, fun j hj => ?_⟩, fun j hj => ⟨?_, ?_⟩⟩
  · rw [h _ (by unfold inW oT; omega)]
  · rw [h _ (by unfold inW oC; omega)]
  · rw [h _ (by unfold inW oB; omega)]; exact hb
  · rw [h _ (by unfold inW oT; omega)]
  · rw [h _ (by unfold inW oC; omega)]
  · rw [h _ (by unfold inW oG; omega)]
  · rw [h _ (by unfold inW oN; omega)]
/-- a world of the class and what the model has of it -/
def WR (M : Mem) (v n b : Nat) (sz lf wr ow fk tr tc sh A : Nat → Int) (o : Nat) (u u2 : Nat → Int) : Prop := (n ≤ 10 ∧ M (oT (9 * v)) 1 = (n : Int)) ∧ PR (M (oC (9 * v))) sz lf wr ow fk tr tc n ∧ SR (M (oC (9 * v))) sh n ∧ (b ≤ 8 ∧ M (oB v) 1 = (b : Int)) ∧ BkR M v A o b n lf fk ∧ RtR (M (oG v)) (M (oN v)) u u2
theorem WR_cp {M M2 : Mem} {v w n b o o2 : Nat} {sz lf wr ow fk tr tc sh A u u2 sz' lf' wr' ow' fk' tr' tc' sh' A' u' u2' : Nat → Int} (h : WR M v n b sz lf wr ow fk tr tc sh A o u u2) (hc : Wc M M2 w v b) (hs : ∀ t, t < n → (sz' t = sz t ∧ lf' t = lf t ∧ wr' t = wr t ∧ ow' t = ow t ∧ fk' t = fk t ∧ tr' t = tr t) ∧ sh' t = sh t) (ht : ∀ j, j < 8 * n → tc' j = tc j) (hA : ∀ j, j < 968 → A' (o2 + j) = A (o + j)) (hu : ∀ j, j < 16 → u' j = u j ∧ u2' j = u2 j) : WR M2 w n b sz' lf' wr' ow' fk' tr' tc' sh' A' o2 u' u2' := by
  obtain ⟨⟨a1, a2⟩, a3, a4, ⟨a5, a6⟩, a7, a8⟩ := h
  obtain ⟨c1, c2, c3, c4, c5⟩ := hc
  have hA2 : ∀ d x y, d < 968 → x = o2 + d → y = o + d → A' x = A y := by
    intro d x y h hx hy
    subst hx; subst hy
    exact hA d h
  refine ⟨⟨a1, by rw [c1]; exact a2⟩, ?_, fun t ht => ?_, ⟨a5, c3⟩, fun i hi => ?_, fun k hk => ?_⟩
  · exact PR_eq a3 (Nat.le_refl n) (fun j hj _ => c2 j (by omega)) (fun t ht => (hs t ht).1) ht
  · rw [c2 _ (by omega), (hs t ht).2]
    exact a4 t ht
  · obtain ⟨m, m1, m2, m3, m4⟩ := a7 i hi
    obtain ⟨d1, d2⟩ := c4 i hi
    refine ⟨m, m1, by rw [d1]; exact m2, ?_, ?_⟩
    · rw [hA2 (121 * i) _ _ (by omega) rfl rfl]; exact m3
    · refine PR_eq m4 (Nat.le_refl m) (fun j hj _ => d2 j (by omega)) (fun t ht => ?_) (fun j hj => ?_)
      · obtain ⟨⟨-, v2, -, -, v5, -⟩, -⟩ := hs t (by omega)
        unfold bk
        refine ⟨hA2 (121 * i + 1 + t) _ _ ?_ ?_ ?_, v2, hA2 (121 * i + 11 + t) _ _ ?_ ?_ ?_, hA2 (121 * i + 21 + t) _ _ ?_ ?_ ?_, v5, hA2 (121 * i + 31 + t) _ _ ?_ ?_ ?_⟩ <;> omega
      · unfold bk
        refine hA2 (121 * i + 41 + j) _ _ ?_ ?_ ?_ <;> omega
  · obtain ⟨g1, g2⟩ := c5 k hk
    obtain ⟨h1, h2⟩ := hu k hk
    rw [g1, g2, h1, h2]
    exact a8 k hk
def SLw (M : Mem) (s n b : Nat) : Prop := WR M (s + 1) n b (bk (M 333) (121 * s) 1) (bk (M 334) (30 * s) 10) (bk (M 333) (121 * s) 11) (bk (M 333) (121 * s) 21) (bk (M 334) (30 * s) 20) (bk (M 333) (121 * s) 31) (bk (M 333) (121 * s) 41) (bk (M 334) (30 * s) 0) (M 335) (968 * s) (bk (M 336) (32 * s) 0) (bk (M 336) (32 * s) 16)
theorem SL_W {M : Mem} {s : Nat} : SL M s ↔ ∃ n b, SLw M s n b ∧ M 333 (121 * s) = (n : Int) ∧ M 338 s = (b : Int) := by
  unfold SL SLw WR PRb
  constructor
  · rintro ⟨n, b, ⟨a1, a2, a3⟩, a4, a5, ⟨a6, a7, a8⟩, a9, a10⟩
    exact ⟨n, b, ⟨⟨a1, a2⟩, a4, a5, ⟨a6, a7⟩, a9, a10⟩, a3, a8⟩
  · rintro ⟨n, b, ⟨⟨a1, a2⟩, a4, a5, ⟨a6, a7⟩, a9, a10⟩, a3, a8⟩
    exact ⟨n, b, ⟨a1, a2, a3⟩, a4, a5, ⟨a6, a7, a8⟩, a9, a10⟩
def MWw (M : Mem) (n b : Nat) : Prop := WR M 0 n b (M 307) (M 308) (M 309) (M 310) (M 311) (M 313) (M 314) (M 312) (M 329) 0 (M 331) (M 332)
theorem MW_W {M : Mem} {n b : Nat} : (MWw M n b ∧ M 200 6 = (n : Int) ∧ M 200 30 = (b : Int)) ↔ (RM M n ∧ RB M n b ∧ RtR (M (oG 0)) (M (oN 0)) (M 331) (M 332)) := by
  unfold MWw WR RM RB
  constructor
  · rintro ⟨⟨⟨a1, a2⟩, a4, a5, ⟨a6, a7⟩, a9, a10⟩, a3, a8⟩
    exact ⟨⟨⟨a1, a2, a3⟩, a4, a5⟩, ⟨⟨a6, a7, a8⟩, a9⟩, a10⟩
  · rintro ⟨⟨⟨a1, a2, a3⟩, a4, a5⟩, ⟨⟨a6, a7, a8⟩, a9⟩, a10⟩
    exact ⟨⟨⟨a1, a2⟩, a4, a5, ⟨a6, a7⟩, a9, a10⟩, a3, a8⟩
/-- a slot that nobody has touched -/
theorem SL_other {M M2 : Mem} {s : Nat} (hs : s < 2) (h : SL M s) (hc : ∀ o, inW (s + 1) o → M2 o = M o) (h3 : ∀ j, 121 * s ≤ j → j < 121 * s + 121 → M2 333 j = M 333 j) (h4 : ∀ j, 30 * s ≤ j → j < 30 * s + 30 → M2 334 j = M 334 j) (h5 : ∀ j, 968 * s ≤ j → j < 968 * s + 968 → M2 335 j = M 335 j) (h6 : ∀ j, 32 * s ≤ j → j < 32 * s + 32 → M2 336 j = M 336 j) (h8 : M2 338 s = M 338 s) : SL M2 s := by
  obtain ⟨n, b, hw, e3, e8⟩ := SL_W.mp h
  have hn : n ≤ 10 := hw.1.1
  refine SL_W.mpr ⟨n, b, ?_, by rw [h3 _ (by omega) (by omega)]; exact e3, by rw [h8]; exact e8⟩
  unfold SLw at hw ⊢
  refine WR_cp hw (Wc_same (by omega) hc hw.2.2.2.1.2 hw.2.2.2.1.1) (fun t ht => ?_) (fun j hj => ?_) (fun j hj => ?_) (fun j hj => ?_)
  · unfold bk
    refine ⟨⟨h3 _ ?_ ?_, h4 _ ?_ ?_, h3 _ ?_ ?_, h3 _ ?_ ?_, h4 _ ?_ ?_, h3 _ ?_ ?_⟩, h4 _ ?_ ?_⟩ <;> omega
  · unfold bk
    refine h3 _ ?_ ?_ <;> omega
  · refine h5 _ ?_ ?_ <;> omega
  · unfold bk
    refine ⟨h6 _ ?_ ?_, h6 _ ?_ ?_⟩ <;> omega
