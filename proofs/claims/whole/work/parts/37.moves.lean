/-! ===== calls that change one tooth, the rates, the text's length ===== -/
theorem MT_eq {M M1 : Mem} {n : Nat} (h : MT M n) (h2 : ∀ o, 200 ≤ o → M1 o = M o) : MT M1 n := by
  unfold MT at h ⊢
  rw [h2 200 (by decide), h2 307 (by decide), h2 308 (by decide), h2 309 (by decide), h2 310 (by decide), h2 311 (by decide), h2 312 (by decide), h2 313 (by decide)]
  exact h
theorem cell_up {M : Mem} {C k c t d : Nat} {v : Int} (hc : c < 15) (hd : d < 15) : up2 M C (15 * k + c) v C (15 * t + d) = if t = k ∧ d = c then v else M C (15 * t + d) := by
  by_cases h : t = k ∧ d = c
  · rw [if_pos h, h.1, h.2, up2_eq]
  · rw [if_neg h, up2_j (by omega)]
theorem XT_up {M : Mem} {n k c : Nat} {v : Int} (h : XT M n) (hc : c < 7) (h0 : c = 0 → 1 ≤ v ∧ v ≤ 9) (h1 : c = 1 → 0 ≤ v ∧ v ≤ 1) (h2 : c = 2 → 0 ≤ v ∧ v ≤ 99) (h3 : c = 3 → 0 ≤ v ∧ v ≤ 3) (h4 : c = 4 → 0 ≤ v ∧ v ≤ 1) (h5 : c = 5 → 0 ≤ v ∧ v ≤ 99) (h6 : c = 6 → 1 ≤ v ∧ v ≤ 8) : XT (up2 M (oC 0) (15 * k + c) v) n := by
  obtain ⟨a1, a2, a3, a4, a5⟩ := h
  refine ⟨a1, by rw [up2_o oTC]; exact a2, by rw [up2_o (by unfold oC; decide)]; exact a3, by rw [up2_o (by unfold oC; decide)]; exact a4, fun t ht => ?_⟩
  obtain ⟨b0, b1, b2, b3, b4, b5, b6⟩ := a5 t ht
  have e0 := cell_up (M := M) (C := oC 0) (k := k) (c := c) (t := t) (d := 0) (v := v) (by omega) (by omega)
  rw [Nat.add_zero] at e0
  rw [e0, cell_up (by omega) (by omega), cell_up (by omega) (by omega), cell_up (by omega) (by omega), cell_up (by omega) (by omega), cell_up (by omega) (by omega), cell_up (by omega) (by omega)]
  refine ⟨?_, ?_, ?_, ?_, ?_, ?_, ?_⟩ <;> (split <;> omega)
def PRc (C sz lf wr ow fk tr tc : Nat → Int) (t : Nat) : Prop := (C (15 * t) = sz t ∧ C (15 * t + 1) = lf t ∧ C (15 * t + 2) = wr t ∧ C (15 * t + 3) = ow t ∧ C (15 * t + 4) = fk t ∧ C (15 * t + 6) = tr t) ∧ ((1 ≤ sz t ∧ sz t ≤ 9) ∧ (0 ≤ lf t ∧ lf t ≤ 1) ∧ (0 ≤ wr t ∧ wr t ≤ 99) ∧ (0 ≤ ow t ∧ ow t ≤ 3) ∧ (0 ≤ fk t ∧ fk t ≤ 1) ∧ 1 ≤ tr t ∧ tr t ≤ 8) ∧ ∀ i : Nat, (i : Int) < tr t → C (15 * t + 7 + i) = tc (8 * t + i)
theorem PR_one {C sz lf wr ow fk tr tc C' sz' lf' wr' ow' fk' tr' tc' : Nat → Int} {n n' : Nat} (k : Nat) (h : PR C sz lf wr ow fk tr tc n) (hn : ∀ t, t < n' → t ≠ k → t < n) (hC : ∀ t d, t ≠ k → d < 15 → C' (15 * t + d) = C (15 * t + d)) (hv : ∀ t, t ≠ k → sz' t = sz t ∧ lf' t = lf t ∧ wr' t = wr t ∧ ow' t = ow t ∧ fk' t = fk t ∧ tr' t = tr t) (ht : ∀ t i, t ≠ k → i < 8 → tc' (8 * t + i) = tc (8 * t + i)) (hk : k < n' → PRc C' sz' lf' wr' ow' fk' tr' tc' k) : PR C' sz' lf' wr' ow' fk' tr' tc' n' := by
  intro t hl
  by_cases hq : t = k
  · subst hq
    exact hk hl
  · obtain ⟨a, b, c⟩ := h t (hn t hl hq)
    obtain ⟨v1, v2, v3, v4, v5, v6⟩ := hv t hq
    have c0 := hC t 0 hq (by decide)
    rw [Nat.add_zero] at c0
    rw [v1, v2, v3, v4, v5, v6, c0, hC t 1 hq (by decide), hC t 2 hq (by decide), hC t 3 hq (by decide), hC t 4 hq (by decide), hC t 6 hq (by decide)]
    refine ⟨a, b, fun i hi => ?_⟩
    have c7 := hC t (7 + i) hq (by omega)
    rw [← Nat.add_assoc] at c7
    rw [c7, ht t i hq (by omega)]
    exact c i hi
theorem SR_one {C sh C' sh' : Nat → Int} {n n' : Nat} (k : Nat) (h : SR C sh n) (hn : ∀ t, t < n' → t ≠ k → t < n) (hC : ∀ t, t ≠ k → C' (15 * t + 5) = C (15 * t + 5)) (hv : ∀ t, t ≠ k → sh' t = sh t) (hk : k < n' → C' (15 * k + 5) = sh' k ∧ 0 ≤ sh' k ∧ sh' k ≤ 99) : SR C' sh' n' := by
  intro t hl
  by_cases hq : t = k
  · subst hq
    exact hk hl
  · rw [hC t hq, hv t hq]
    exact h t (hn t hl hq)
section MV
variable {X : Scr} {M : Mem}
theorem up200 {o j : Nat} {v : Int} (h : o < 200) : ∀ q, 200 ≤ q → up2 M o j v q = M q := by
  intro q hq
  funext i
  rw [up2_o (by omega)]
/-- one cell of a tooth has changed, here as there -/
theorem RR_cell {n b g L k c o : Nat} {v : Int} {M2 : Mem} (hR : RRp M n b g L) (hk : k < n) (hc : (c = 0 ∧ o = 307 ∧ 1 ≤ v ∧ v ≤ 9) ∨ (c = 2 ∧ o = 309 ∧ 0 ≤ v ∧ v ≤ 99) ∨ (c = 5 ∧ o = 312 ∧ 0 ≤ v ∧ v ≤ 99)) (hM : quiet (up2 (up2 M (oC 0) (15 * k + c) v) o k v) M2) : RRp M2 n b g L := by
  refine RR_quiet ?_ hM
  have ho : o ≠ oC 0 ∧ o ≠ 200 ∧ (307 ≤ o ∧ o ≤ 314) := by unfold oC; omega
  have hoC : ∀ j, up2 (up2 M (oC 0) (15 * k + c) v) o k v (oC 0) j = up2 M (oC 0) (15 * k + c) v (oC 0) j := fun j => up2_o (Ne.symm ho.1)
  have hne : ∀ q j, q ≠ oC 0 → q ≠ o → up2 (up2 M (oC 0) (15 * k + c) v) o k v q j = M q j := fun q j h1 h2 => by rw [up2_o h2, up2_o h1]
  have hoo : ∀ t, up2 (up2 M (oC 0) (15 * k + c) v) o k v o t = if t = k then v else M o t := by
    intro t
    split
    · rename_i h; rw [h, up2_eq]
    · rename_i h; rw [up2_j h, up2_o ho.1]
  have hmod : ∀ q t, q ≠ oC 0 → t ≠ k → up2 (up2 M (oC 0) (15 * k + c) v) o k v q t = M q t := by
    intro q t h1 h2
    by_cases h3 : q = o
    · subst h3
      rw [hoo, if_neg h2]
    · exact hne q t h1 h3
  have d307 : 307 ≠ oC 0 := by unfold oC; decide
  have d308 : 308 ≠ oC 0 := by unfold oC; decide
  have d309 : 309 ≠ oC 0 := by unfold oC; decide
  have d310 : 310 ≠ oC 0 := by unfold oC; decide
  have d311 : 311 ≠ oC 0 := by unfold oC; decide
  have d312 : 312 ≠ oC 0 := by unfold oC; decide
  have d313 : 313 ≠ oC 0 := by unfold oC; decide
  have d314 : 314 ≠ oC 0 := by unfold oC; decide
  refine RR_main hR (fun q j hu hm => ?_) ⟨?_, ?_, ?_⟩ (Nat.le_refl n) (fun t ht => ⟨hne 308 t d308 (by omega), hne 311 t d311 (by omega)⟩)
  · refine hne q j ?_ ?_
    · unfold mno at hm; unfold oC; omega
    · unfold mno at hm; omega
  · obtain ⟨⟨⟨a1, a2, a3⟩, -⟩, -⟩ := hR
    exact ⟨a1, by rw [hne _ _ oTC (by unfold oT; omega)]; exact a2, by rw [hne _ _ (by unfold oC; decide) (Ne.symm ho.2.1)]; exact a3⟩
  · refine PR_one k hR.1.2.1 (fun t ht _ => ht) (fun t d hq hd => ?_) (fun t hq => ⟨hmod 307 t d307 hq, hmod 308 t d308 hq, hmod 309 t d309 hq, hmod 310 t d310 hq, hmod 311 t d311 hq, hmod 313 t d313 hq⟩) (fun t i hq hi => hne 314 _ d314 (by omega)) (fun hl => ?_)
    · rw [hoC, up2_j (by omega)]
    · obtain ⟨⟨c1, c2, c3, c4, c5, c6⟩, ⟨e1, e2, e3, e4, e5, e6⟩, tr⟩ := hR.1.2.1 k hl
      have x0 : up2 (up2 M (oC 0) (15 * k + c) v) o k v (oC 0) (15 * k) = if c = 0 then v else M (oC 0) (15 * k) := by
        rw [hoC]
        split
        · rename_i h; rw [h, Nat.add_zero, up2_eq]
        · rw [up2_j (by omega)]
      have xd : ∀ d, d < 15 → up2 (up2 M (oC 0) (15 * k + c) v) o k v (oC 0) (15 * k + d) = if d = c then v else M (oC 0) (15 * k + d) := by
        intro d hd
        rw [hoC, cell_up (by omega) hd]
        by_cases h : d = c
        · rw [if_pos ⟨rfl, h⟩, if_pos h]
        · rw [if_neg (fun z => h z.2), if_neg h]
      unfold PRc
      rw [x0, xd 1 (by decide), xd 2 (by decide), xd 3 (by decide), xd 4 (by decide), xd 6 (by decide), hne 308 k d308 (by omega), hne 310 k d310 (by omega), hne 311 k d311 (by omega), hne 313 k d313 (by omega)]
      have y307 : up2 (up2 M (oC 0) (15 * k + c) v) o k v 307 k = if c = 0 then v else M 307 k := by
        by_cases h : o = 307
        · rw [if_pos (by omega), ← h, hoo, if_pos rfl]
        · rw [if_neg (by omega), hne 307 k d307 (Ne.symm h)]
      have y309 : up2 (up2 M (oC 0) (15 * k + c) v) o k v 309 k = if c = 2 then v else M 309 k := by
        by_cases h : o = 309
        · rw [if_pos (by omega), ← h, hoo, if_pos rfl]
        · rw [if_neg (by omega), hne 309 k d309 (Ne.symm h)]
      rw [y307, y309]
      refine ⟨⟨?_, ?_, ?_, ?_, ?_, ?_⟩, ⟨?_, e2, ?_, e4, e5, e6⟩, fun i hi => ?_⟩
      · split
        · rfl
        · exact c1
      · rw [if_neg (by omega)]; exact c2
      · by_cases h : c = 2
        · rw [if_pos (by omega), if_pos h]
        · rw [if_neg (by omega), if_neg h]; exact c3
      · rw [if_neg (by omega)]; exact c4
      · rw [if_neg (by omega)]; exact c5
      · rw [if_neg (by omega)]; exact c6
      · split <;> omega
      · split <;> omega
      · have := xd (7 + i) (by omega)
        rw [← Nat.add_assoc, if_neg (by omega)] at this
        rw [this, hne 314 _ d314 (by omega)]
        exact tr i hi
  · refine SR_one k hR.1.2.2 (fun t ht _ => ht) (fun t hq => ?_) (fun t hq => hmod 312 t d312 hq) (fun hl => ?_)
    · rw [hoC, up2_j (by omega)]
    · obtain ⟨s1, s2⟩ := hR.1.2.2 k hl
      rw [hoC, cell_up (by omega) (by omega)]
      by_cases h : c = 5
      · have : o = 312 := by omega
        subst this
        rw [if_pos ⟨rfl, by omega⟩, hoo, if_pos rfl]
        exact ⟨rfl, by omega⟩
      · rw [if_neg (fun z => by omega), hne 312 k d312 (by omega)]
        exact ⟨s1, s2⟩
theorem ag_should {i w : Int} (h : RR M) : Agree X mX8_should mX9_should [vr 0, vi i, vi w] [vr 200, vi i, vi w] M := by
  obtain ⟨n, b, g, L, hR⟩ := id h
  have a := hR.1.1
  obtain ⟨a1, a2, a3⟩ := a
  have a3' : (up2 M 200 0 0) 200 6 = (n : Int) := by rw [up2_j (by decide)]; exact a3
  by_cases hi : 0 ≤ i ∧ i < n
  · obtain ⟨k, rfl⟩ : ∃ k : Nat, i = (k : Int) := ⟨i.toNat, by omega⟩
    have hk : k < n := by omega
    have ek : ((k : Int)).toNat = k := by omega
    by_cases hw : 0 ≤ w ∧ w ≤ 99
    · refine ⟨fun r M1 => r = some (vi (M 312 k)) ∧ M1 = up2 M (oC 0) (15 * k + 5) w, ?_, ?_⟩
      · refine kX8_should_0 (isTooth_n a2) (on ?_)
        refine kX8_should_5 (fun _ => ?_) (fun q => absurd hi (b2i_d0.mp q))
        refine kX8_should_10 (fun q => by omega) (fun q => kX8_should_14 (fun q => ?_) (fun q => by omega))
        refine kX8_should_23 (get_n (c := 5) (by omega) (by omega) (by omega)) (on ?_)
        refine kX8_should_32 (set_n (c := 5) (by omega) (by omega) (by omega)) (on0 ?_)
        refine kX8_should_43 ⟨?_, rfl⟩
        rw [(hR.1.2.2 k hk).1]
      · rintro r M1 ⟨rfl, rfl⟩
        have e6 : (up2 (up2 M (oC 0) (15 * k + 5) w) 200 0 0) 200 6 = (n : Int) := by rw [up2_j (by decide), up2_o (by unfold oC; decide)]; exact a3
        refine kX9_should_0 (noTooth_n e6 a1) (on ?_)
        refine kX9_should_10 (fun _ => ?_) (fun q => absurd hi (b2i_d1.mp q))
        refine kX9_should_15 in_n (on ?_)
        refine kX9_should_24 (fun _ => ?_) (fun q => absurd hw (b2i_d0.mp q))
        refine kX9_should_30 ⟨?_, n, b, g, L, RR_cell hR hk (Or.inr (Or.inr ⟨rfl, rfl, hw⟩)) ?_⟩
        · rw [ek, up2_o (by decide), up2_o (by unfold oC; decide)]
        · rw [ek]
          intro o j hu
          by_cases ho : o = 312
          · subst ho
            by_cases hj : j = k
            · rw [hj, up2_eq, up2_eq]
            · rw [up2_j hj, up2_j hj, up2_o (by decide)]
          · rw [up2_o ho, up2_o ho]
            exact q0 o j hu
    · refine Agree.ask0 (r0 := vi (-2)) h ?_ ?_
      · refine kX8_should_0 (isTooth_n a2) (on ?_)
        refine kX8_should_5 (fun _ => ?_) (fun q => absurd hi (b2i_d0.mp q))
        exact kX8_should_10 (fun q => kX8_should_20 ⟨rfl, rfl⟩) (fun q => kX8_should_14 (fun q => by omega) (fun q => kX8_should_20 ⟨rfl, rfl⟩))
      · refine kX9_should_0 (noTooth_n a3' a1) (on ?_)
        refine kX9_should_10 (fun _ => ?_) (fun q => absurd hi (b2i_d1.mp q))
        refine kX9_should_15 in_n (on ?_)
        exact kX9_should_24 (fun q => absurd (b2i_d1.mp q) hw) (fun q => kX9_should_27 ⟨rfl, q0⟩)
  · refine Agree.ask0 (r0 := vi (-1)) h ?_ ?_
    · refine kX8_should_0 (isTooth_n a2) (on ?_)
      exact kX8_should_5 (fun q => absurd (b2i_d1.mp q) hi) (fun q => kX8_should_8 ⟨rfl, rfl⟩)
    · refine kX9_should_0 (noTooth_n a3' a1) (on ?_)
      exact kX9_should_10 (fun q => absurd hi (b2i_d0.mp q)) (fun q => kX9_should_13 ⟨rfl, q0⟩)
theorem ag_handle {i : Int} (h : RR M) : Agree X mX8_handle mX9_handle [vr 0, vi i] [vr 200, vi i] M := by
  obtain ⟨n, b, g, L, hR⟩ := id h
  have hX := RR_XT hR
  have a := hR.1.1
  obtain ⟨a1, a2, a3⟩ := a
  have a3' : (up2 M 200 0 0) 200 6 = (n : Int) := by rw [up2_j (by decide)]; exact a3
  by_cases hi : 0 ≤ i ∧ i < n
  · obtain ⟨k, rfl⟩ : ∃ k : Nat, i = (k : Int) := ⟨i.toNat, by omega⟩
    have hk : k < n := by omega
    obtain ⟨⟨c1, c2, c3, c4, c5, c6⟩, ⟨d1, d2, d3, d4, d5, d6⟩, -⟩ := hR.1.2.1 k hk
    obtain ⟨v, hv⟩ : ∃ v, v = min 99 (M 309 k + 1) := ⟨_, rfl⟩
    have hv99 : 0 ≤ v ∧ v ≤ 99 := by omega
    refine ⟨fun r M1 => r = some (vi (mwb M k v)) ∧ M1 = up2 M (oC 0) (15 * k + 2) v, ?_, ?_⟩
    · refine kX8_handle_0 (isTooth_n a2) (on ?_)
      refine kX8_handle_5 (fun _ => ?_) (fun q => absurd hi (b2i_d0.mp q))
      refine kX8_handle_10 (wearDown_n (by omega) (by omega) (by omega) (by omega)) (on0 ?_)
      rw [c3, ← hv]
      have hX1 : XT (up2 M (oC 0) (15 * k + 2) v) n := XT_up hX (by omega) (by omega) (by omega) (by omega) (by omega) (by omega) (by omega) (by omega)
      refine kX8_handle_18 (worthOf_n hX1 hk) (on ?_)
      refine kX8_handle_23 ⟨?_, rfl⟩
      have e : xw (up2 M (oC 0) (15 * k + 2) v) k = mwb M k v := by
        rw [← (RR_w hR k hk).2 v]
        unfold xw xwb
        rw [up2_eq, up2_j (by omega), up2_j (by omega), up2_o (by unfold oC; decide), up2_o (by unfold oC; decide)]
      rw [e]
    · rintro r M1 ⟨rfl, rfl⟩
      obtain ⟨M0, hM0⟩ : ∃ M0, M0 = up2 (up2 M (oC 0) (15 * k + 2) v) 200 0 0 := ⟨_, rfl⟩
      have e6 : M0 200 6 = (n : Int) := by rw [hM0, up2_j (by decide), up2_o (by unfold oC; decide)]; exact a3
      have e309 : M0 309 k = M 309 k := by rw [hM0, up2_o (by decide), up2_o (by unfold oC; decide)]
      have hq : quiet (up2 (up2 M (oC 0) (15 * k + 2) v) 309 k v) (up2 M0 309 k v) := by
        rw [hM0]
        intro o j hu
        by_cases ho : o = 309
        · subst ho
          by_cases hj : j = k
          · rw [hj, up2_eq, up2_eq]
          · rw [up2_j hj, up2_j hj, up2_o (by decide)]
        · rw [up2_o ho, up2_o ho]
          exact q0 o j hu
      have hR2 := RR_cell hR hk (Or.inr (Or.inl ⟨rfl, rfl, hv99⟩)) hq
      refine kX9_handle_0 (by rw [← hM0]; exact noTooth_n e6 a1) (on ?_)
      refine kX9_handle_10 (fun _ => ?_) (fun q => absurd hi (b2i_d1.mp q))
      refine kX9_handle_15 (goHandle_n (by omega) (by rw [e309]; exact d3)) (on0 ?_)
      rw [e309, ← hv]
      refine kX9_handle_20 (worth_n (RR_MT hR2) hk) (on ?_)
      refine kX9_handle_25 ⟨?_, n, b, g, L, hR2⟩
      have eo : ∀ o, 200 < o → M0 o = M o := by
        intro o ho
        funext j
        rw [hM0, up2_o (by omega), up2_o (by unfold oC; omega)]
      have e2 : ∀ j, j ≠ 0 → M0 200 j = M 200 j := by
        intro j hj
        rw [hM0, up2_j hj, up2_o (by unfold oC; decide)]
      have e : mw (up2 M0 309 k v) k = mwb M k v := by
        unfold mw mwb
        rw [up2_eq, up2_o (by decide), up2_o (by decide), up2_o (by decide), up2_o (by decide), e2 4 (by decide), e2 5 (by decide), eo 307 (by decide), eo 308 (by decide)]
      rw [e]
  · refine Agree.ask0 (r0 := vi (-1)) h ?_ ?_
    · refine kX8_handle_0 (isTooth_n a2) (on ?_)
      exact kX8_handle_5 (fun q => absurd (b2i_d1.mp q) hi) (fun q => kX8_handle_8 ⟨rfl, rfl⟩)
    · refine kX9_handle_0 (noTooth_n a3' a1) (on ?_)
      exact kX9_handle_10 (fun q => absurd hi (b2i_d0.mp q)) (fun q => kX9_handle_13 ⟨rfl, q0⟩)
theorem ag_bite {i : Int} (h : RR M) : Agree X mX8_bite mX9_bite [vr 0, vi i] [vr 200, vi i] M := by
  obtain ⟨n, b, g, L, hR⟩ := id h
  have hX := RR_XT hR
  have a := hR.1.1
  obtain ⟨a1, a2, a3⟩ := a
  have a3' : (up2 M 200 0 0) 200 6 = (n : Int) := by rw [up2_j (by decide)]; exact a3
  by_cases hi : 0 ≤ i ∧ i < n
  · obtain ⟨k, rfl⟩ : ∃ k : Nat, i = (k : Int) := ⟨i.toNat, by omega⟩
    have hk : k < n := by omega
    have ek : ((k : Int)).toNat = k := by omega
    obtain ⟨⟨c1, c2, c3, c4, c5, c6⟩, ⟨d1, d2, d3, d4, d5, d6⟩, -⟩ := hR.1.2.1 k hk
    have e307' : (up2 M 200 0 0) 307 ((k : Int)).toNat = M 307 k := by rw [ek, up2_o (by decide)]
    by_cases hs : 1 < M 307 k
    · obtain ⟨s, hsd⟩ : ∃ s, s = M 307 k - 1 := ⟨_, rfl⟩
      obtain ⟨V, hV⟩ : ∃ V, V = wv (M 200 4) (M 200 5) s (M 308 k) 0 := ⟨_, rfl⟩
      refine ⟨fun r M1 => r = some (vi V) ∧ M1 = up2 (up2 M (oC 0) (15 * k + 0) s) (oC 0) (15 * k + 2) 0, ?_, ?_⟩
      · refine kX8_bite_0 (isTooth_n a2) (on ?_)
        refine kX8_bite_5 (fun _ => ?_) (fun q => absurd hi (b2i_d0.mp q))
        refine kX8_bite_10 (get_n (c := 0) (by omega) (by omega) (by omega)) (on ?_)
        rw [Nat.add_zero, c1]
        refine kX8_bite_19 (fun _ => ?_) (fun q => by omega)
        refine kX8_bite_28 (by rw [← hsd]; exact set_n (c := 0) (by omega) (by omega) (by omega)) (on0 ?_)
        refine kX8_bite_40 (set_n (c := 2) (by omega) (by omega) (by omega)) (on0 ?_)
        have hX1 : XT (up2 M (oC 0) (15 * k + 0) s) n := XT_up hX (by omega) (by omega) (by omega) (by omega) (by omega) (by omega) (by omega) (by omega)
        have hX2 : XT (up2 (up2 M (oC 0) (15 * k + 0) s) (oC 0) (15 * k + 2) 0) n := XT_up hX1 (by omega) (by omega) (by omega) (by omega) (by omega) (by omega) (by omega) (by omega)
        refine kX8_bite_50 (worthOf_n hX2 hk) (on ?_)
        refine kX8_bite_55 ⟨?_, rfl⟩
        have e : xw (up2 (up2 M (oC 0) (15 * k + 0) s) (oC 0) (15 * k + 2) 0) k = V := by
          have x0 : up2 (up2 M (oC 0) (15 * k + 0) s) (oC 0) (15 * k + 2) 0 (oC 0) (15 * k) = s := by rw [up2_j (by omega)]; exact up2_eq
          have x1 : up2 (up2 M (oC 0) (15 * k + 0) s) (oC 0) (15 * k + 2) 0 (oC 0) (15 * k + 1) = M 308 k := by rw [up2_j (by omega), up2_j (by omega)]; exact c2
          have x2 : up2 (up2 M (oC 0) (15 * k + 0) s) (oC 0) (15 * k + 2) 0 (oC 0) (15 * k + 2) = 0 := up2_eq
          have x3 : up2 (up2 M (oC 0) (15 * k + 0) s) (oC 0) (15 * k + 2) 0 0 6 = M 200 4 := by rw [up2_o (by unfold oC; decide), up2_o (by unfold oC; decide)]; exact hR.2.2.2.2.1.1
          have x4 : up2 (up2 M (oC 0) (15 * k + 0) s) (oC 0) (15 * k + 2) 0 0 7 = M 200 5 := by rw [up2_o (by unfold oC; decide), up2_o (by unfold oC; decide)]; exact hR.2.2.2.2.2.1.1
          unfold xw xwb
          rw [x0, x1, x2, x3, x4, hV]
        rw [e]
      · rintro r M1 ⟨rfl, rfl⟩
        obtain ⟨M0, hM0⟩ : ∃ M0, M0 = up2 (up2 (up2 M (oC 0) (15 * k + 0) s) (oC 0) (15 * k + 2) 0) 200 0 0 := ⟨_, rfl⟩
        have eo : ∀ o, 200 < o → M0 o = M o := by
          intro o ho
          funext j
          rw [hM0, up2_o (by omega), up2_o (by unfold oC; omega), up2_o (by unfold oC; omega)]
        have e2 : ∀ j, j ≠ 0 → M0 200 j = M 200 j := by
          intro j hj
          rw [hM0, up2_j hj, up2_o (by unfold oC; decide), up2_o (by unfold oC; decide)]
        have hq : quiet (up2 (up2 (up2 (up2 M (oC 0) (15 * k + 0) s) 307 k s) (oC 0) (15 * k + 2) 0) 309 k 0) (up2 (up2 M0 307 k s) 309 k 0) := by
          intro o j hu
          have o7 : 307 ≠ oC 0 := by unfold oC; decide
          by_cases h9 : o = 309
          · subst h9
            by_cases hj : j = k
            · rw [hj, up2_eq, up2_eq]
            · rw [up2_j hj, up2_j hj, up2_o (by decide), up2_o (by unfold oC; decide), up2_o (by decide), up2_o (by unfold oC; decide), eo 309 (by decide)]
          · rw [up2_o h9, up2_o h9]
            by_cases h7 : o = 307
            · subst h7
              rw [up2_o o7]
              by_cases hj : j = k
              · rw [hj, up2_eq, up2_eq]
              · rw [up2_j hj, up2_j hj, up2_o o7, eo 307 (by decide)]
            · rw [up2_o h7, hM0]
              have h3 : up2 (up2 (up2 M (oC 0) (15 * k + 0) s) 307 k s) (oC 0) (15 * k + 2) 0 o j = up2 (up2 M (oC 0) (15 * k + 0) s) (oC 0) (15 * k + 2) 0 o j := by
                by_cases hc : o = oC 0
                · subst hc
                  by_cases hj : j = 15 * k + 2
                  · rw [hj, up2_eq, up2_eq]
                  · rw [up2_j hj, up2_j hj, up2_o h7]
                · rw [up2_o hc, up2_o hc, up2_o h7]
              rw [h3]
              exact q0 o j hu
        have hRA := RR_cell (c := 0) (o := 307) (v := s) hR hk (Or.inl ⟨rfl, rfl, by omega⟩) (quiet_refl _)
        have hR2 := RR_cell (c := 2) (o := 309) (v := 0) hRA hk (Or.inr (Or.inl ⟨rfl, rfl, by decide, by decide⟩)) hq
        have e6 : M0 200 6 = (n : Int) := by rw [e2 6 (by decide)]; exact a3
        have e307 : M0 307 ((k : Int)).toNat = M 307 k := by rw [ek, eo 307 (by decide)]
        refine kX9_bite_0 (by rw [← hM0]; exact noTooth_n e6 a1) (on ?_)
        refine kX9_bite_10 (fun _ => ?_) (fun q => absurd hi (b2i_d1.mp q))
        refine kX9_bite_15 (fun _ => ?_) (fun q => by omega)
        refine kX9_bite_28 (h3 := by rw [e307]; omega) (by rw [e307, ← hsd, ek]; exact worth_n (RR_MT hR2) hk) (on ?_)
        refine kX9_bite_50 ⟨?_, n, b, g, L, hR2⟩
        have e : mw (up2 (up2 M0 307 k s) 309 k 0) k = V := by
          have x0 : up2 (up2 M0 307 k s) 309 k 0 307 k = s := by rw [up2_o (by decide), up2_eq]
          have x1 : up2 (up2 M0 307 k s) 309 k 0 308 k = M 308 k := by rw [up2_o (by decide), up2_o (by decide), eo 308 (by decide)]
          have x2 : up2 (up2 M0 307 k s) 309 k 0 309 k = 0 := up2_eq
          have x3 : up2 (up2 M0 307 k s) 309 k 0 200 4 = M 200 4 := by rw [up2_o (by decide), up2_o (by decide), e2 4 (by decide)]
          have x4 : up2 (up2 M0 307 k s) 309 k 0 200 5 = M 200 5 := by rw [up2_o (by decide), up2_o (by decide), e2 5 (by decide)]
          unfold mw mwb
          rw [x0, x1, x2, x3, x4, hV]
        rw [e]
    · refine Agree.ask0 (r0 := vi (-3)) h ?_ ?_
      · refine kX8_bite_0 (isTooth_n a2) (on ?_)
        refine kX8_bite_5 (fun _ => ?_) (fun q => absurd hi (b2i_d0.mp q))
        refine kX8_bite_10 (get_n (c := 0) (by omega) (by omega) (by omega)) (on ?_)
        rw [Nat.add_zero, c1]
        exact kX8_bite_19 (fun q => by omega) (fun q => kX8_bite_25 ⟨rfl, rfl⟩)
      · refine kX9_bite_0 (noTooth_n a3' a1) (on ?_)
        refine kX9_bite_10 (fun _ => ?_) (fun q => absurd hi (b2i_d1.mp q))
        exact kX9_bite_15 (fun q => by omega) (fun q => kX9_bite_25 ⟨rfl, q0⟩)
  · refine Agree.ask0 (r0 := vi (-1)) h ?_ ?_
    · refine kX8_bite_0 (isTooth_n a2) (on ?_)
      exact kX8_bite_5 (fun q => absurd (b2i_d1.mp q) hi) (fun q => kX8_bite_8 ⟨rfl, rfl⟩)
    · refine kX9_bite_0 (noTooth_n a3' a1) (on ?_)
      exact kX9_bite_10 (fun q => absurd hi (b2i_d0.mp q)) (fun q => kX9_bite_13 ⟨rfl, q0⟩)
end MV
