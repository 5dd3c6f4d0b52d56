/-! ===== a bargain taken back ===== -/
theorem tbM_C {M : Mem} {t u n j : Nat} : tbM M t u n (oC t) j = if j < 15 * n ∧ j % 15 ≠ 5 then M (oC u) j else M (oC t) j := by
  unfold tbM
  by_cases h : j < 15 * n ∧ j % 15 ≠ 5
  · rw [if_pos ⟨rfl, h⟩, if_pos h]
  · rw [if_neg (fun z => h z.2), if_neg h]
theorem tbM_o {M : Mem} {t u n o : Nat} (h : o ≠ oC t) : tbM M t u n o = M o := by
  funext j
  unfold tbM
  rw [if_neg (fun z => h z.1)]
section AN
variable {X : Scr} {M : Mem}
theorem ag_undo (h : RR M) : Agree X mX8_undo mX9_undo [vr 0] [vr 200] M := by
  obtain ⟨n, b, g, L, hR⟩ := id h
  obtain ⟨⟨⟨a1, a2, a3⟩, a4, a5⟩, ⟨⟨b1, b2, b3⟩, b4⟩, hx⟩ := id hR
  have b3' : (up2 M 200 0 0) 200 30 = (b : Int) := by rw [up2_j (by decide)]; exact b3
  by_cases hb : b = 0
  · subst hb
    refine Agree.ask0 (r0 := vi (-3)) h ?_ ?_
    · exact kX8_undo_0 (fun q => by omega) (fun q => kX8_undo_11 ⟨rfl, rfl⟩)
    · exact kX9_undo_0 (fun q => absurd b3' q) (fun q => kX9_undo_12 ⟨rfl, q0⟩)
  · obtain ⟨c, rfl⟩ : ∃ c, b = c + 1 := ⟨b - 1, by omega⟩
    obtain ⟨m, m1, m2, m3, m4⟩ := b4 c (by omega)
    have hu : 9 * 0 + 1 + c = 1 + c := by omega
    rw [hu] at m2 m4
    rw [Nat.zero_add] at m3 m4
    refine ⟨fun r M1 => r = some (vi (c : Int)) ∧ M1 = tbM (up2 M (oB 0) 1 (c : Int)) 0 (1 + c) m, ?_, ?_⟩
    · refine kX8_undo_0 (fun q => kX8_undo_14 (btake_n (w := 0) (t := 0) (b := c) (n := m) (by decide) (by decide) b2 (by omega) (by omega) (by omega) (by rw [hu]; exact m2)) (on0 ?_)) (fun q => by omega)
      rw [hu]
      have e : tbM (up2 M (oB 0) 1 (c : Int)) 0 (1 + c) m (oB 0) 1 = (c : Int) := by
        rw [tbM_o (by unfold oB oC; decide), up2_eq]
      refine kX8_undo_25 ⟨?_, rfl⟩
      rw [e]
    · rintro r M1 ⟨rfl, rfl⟩
      obtain ⟨MC, hMC⟩ : ∃ MC, MC = tbM (up2 M (oB 0) 1 (c : Int)) 0 (1 + c) m := ⟨_, rfl⟩
      rw [← hMC]
      have ch : ∀ o, o ≠ oC 0 → o ≠ oB 0 → MC o = M o := by
        intro o o1 o2
        rw [hMC, tbM_o o1]
        funext j
        rw [up2_o o2]
      have cB : MC (oB 0) 1 = (c : Int) := by rw [hMC, tbM_o (by unfold oB oC; decide), up2_eq]
      have cC : ∀ j, MC (oC 0) j = if j < 15 * m ∧ j % 15 ≠ 5 then M (oC (1 + c)) j else M (oC 0) j := by
        intro j
        rw [hMC, tbM_C, up2_o (by unfold oC oB; omega), up2_o (by unfold oC oB; omega)]
      obtain ⟨MS, hMS⟩ : ∃ MS, MS = up2 (up2 MC 200 0 0) 200 30 (c : Int) := ⟨_, rfl⟩
      have e30 : (up2 MC 200 0 0) 200 30 = ((c + 1 : Nat) : Int) := by rw [up2_j (by decide), ch 200 (by unfold oC; decide) (by unfold oB; decide)]; exact b3
      have so : ∀ o, o ≠ 200 → MS o = MC o := by
        intro o ho
        funext j
        rw [hMS, up2_o ho, up2_o ho]
      have s2 : ∀ j, j ≠ 0 → j ≠ 30 → MS 200 j = M 200 j := by
        intro j j1 j2
        rw [hMS, up2_j j2, up2_j j1, ch 200 (by unfold oC; decide) (by unfold oB; decide)]
      have s30 : MS 200 30 = (c : Int) := by rw [hMS, up2_eq]
      have sm : ∀ o, 200 < o → MS o = M o := fun o ho => by rw [so o (by omega), ch o (by unfold oC; omega) (by unfold oB; omega)]
      have eMS : up2 (up2 MC 200 0 0) 200 30 ((up2 MC 200 0 0) 200 30 - 1) = MS := by
        rw [hMS, e30, show ((c + 1 : Nat) : Int) - 1 = (c : Int) by omega]
      refine kX9_undo_0 (fun q => ?_) (fun q => by omega)
      refine kX9_undo_15 (Q := fun r M2 => r = none ∧ took MS M2 329 (121 * c) m) (h1 := by rw [e30]; omega) (h2 := by rw [eMS, s30]; omega) ?_ ?_
      · rw [eMS, s30, show (121 : Int) * (c : Int) = ((121 * c : Nat) : Int) by omega]
        exact take_n (n1 := 968) rfl (by decide) (by omega) (by decide) (by rw [sm 329 (by decide)]; exact m3) (by omega)
      · rintro M2 ⟨-, t1, t2, t3, t4, t5⟩
        have to : ∀ o, (o < 307 ∨ 314 < o ∨ o = 308 ∨ o = 311 ∨ o = 312) → M2 o = MS o := fun o ho => t1 o (by omega) (by omega) (by omega) (by omega) (by omega)
        have e30' : M2 200 30 = (c : Int) := by rw [to 200 (by decide)]; exact s30
        refine kX9_undo_40 ⟨by rw [e30'], n, c, g, L, ⟨⟨a1, ?_, ?_⟩, ?_, ?_⟩, ⟨⟨by omega, ?_, e30'⟩, ?_⟩, RX_eq hx (fun o j hu hm => ?_)⟩
        · rw [to (oT 0) (by unfold oT; omega), so (oT 0) (by unfold oT; decide), ch (oT 0) (by unfold oT oC; decide) (by unfold oT oB; decide)]; exact a2
        · rw [to 200 (by decide), s2 6 (by decide) (by decide)]; exact a3
        · have c308 : M2 308 = M 308 := by rw [to 308 (by decide), sm 308 (by decide)]
          have c311 : M2 311 = M 311 := by rw [to 311 (by decide), sm 311 (by decide)]
          have cc : ∀ j, M2 (oC 0) j = if j < 15 * m ∧ j % 15 ≠ 5 then M (oC (1 + c)) j else M (oC 0) j := fun j => by
            rw [to (oC 0) (by unfold oC; omega), so (oC 0) (by unfold oC; decide), cC]
          have s329 := sm 329 (by decide)
          rw [c308, c311]
          intro t ht
          by_cases hq : t < m
          · obtain ⟨⟨p1, p2, p3, p4, p5, p6⟩, pr, ptr⟩ := m4 t hq
            obtain ⟨u1, u2, u3, u4⟩ := t2 t hq
            rw [s329] at u1 u2 u3 u4
            unfold bk at p1 p3 p4 p6 pr ptr
            rw [cc, if_pos (by omega), cc, if_pos (by omega), cc, if_pos (by omega), cc, if_pos (by omega), cc, if_pos (by omega), cc, if_pos (by omega), u1, u2, u3, u4]
            refine ⟨⟨p1, p2, p3, p4, p5, p6⟩, pr, fun i hi => ?_⟩
            rw [cc, if_pos (by omega), t4 _ (by omega), s329]
            exact ptr i hi
          · obtain ⟨p, pr, ptr⟩ := a4 t ht
            obtain ⟨u1, u2, u3, u4⟩ := t3 t (by omega)
            rw [sm 307 (by decide)] at u1
            rw [sm 309 (by decide)] at u2
            rw [sm 310 (by decide)] at u3
            rw [sm 313 (by decide)] at u4
            rw [cc, if_neg (by omega), cc, if_neg (by omega), cc, if_neg (by omega), cc, if_neg (by omega), cc, if_neg (by omega), cc, if_neg (by omega), u1, u2, u3, u4]
            refine ⟨p, pr, fun i hi => ?_⟩
            rw [cc, if_neg (by omega), t5 _ (by omega), sm 314 (by decide)]
            exact ptr i hi
        · intro t ht
          rw [to 312 (by decide), sm 312 (by decide), to (oC 0) (by unfold oC; omega), so (oC 0) (by unfold oC; decide), cC, if_neg (by omega)]
          exact a5 t ht
        · rw [to (oB 0) (by unfold oB; omega), so (oB 0) (by unfold oB; decide)]; exact cB
        · have hBk : BkR M 0 (M 329) 0 c n (M 308) (M 311) := fun i hi => b4 i (by omega)
          refine BkR_eq hBk (fun j _ => by rw [to 329 (by decide), sm 329 (by decide)]) (Nat.le_refl n) (fun t ht => ⟨by rw [to 308 (by decide), sm 308 (by decide)], by rw [to 311 (by decide), sm 311 (by decide)]⟩) (fun i hi => ⟨?_, ?_⟩)
          · rw [to _ (by unfold oT; omega), so _ (by unfold oT; omega), ch _ (by unfold oT oC; omega) (by unfold oT oB; omega)]
          · rw [to _ (by unfold oC; omega), so _ (by unfold oC; omega), ch _ (by unfold oC; omega) (by unfold oC oB; omega)]
        · unfold mbo at hm
          rw [to o (by omega)]
          by_cases ho : o = 200
          · subst ho
            exact s2 j (by unfold unw at hu; omega) (by omega)
          · rw [so o ho, ch o (by unfold oC; omega) (by unfold oB; omega)]
end AN
