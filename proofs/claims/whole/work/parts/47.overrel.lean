/-! ===== a tooth handed over, here and there ===== -/
theorem RR_over1 {M : Mem} {n b g L k : Nat} {to : Int} (hR : RRp M n b g L) (hk : k < n) (hto : 0 ≤ to ∧ to ≤ 3) : RRp (go1 (ho1 M (oC 0) k to) k to) n b g L := by
  obtain ⟨⟨c1, c2, c3, c4, c5, c6⟩, ⟨d1, d2, d3, d4, d5, d6⟩, tr⟩ := hR.1.2.1 k hk
  obtain ⟨A, hA⟩ : ∃ A, A = ho1 M (oC 0) k to := ⟨_, rfl⟩
  rw [← hA]
  have Ao : ∀ o, o ≠ oC 0 → A o = M o := fun o ho => by rw [hA]; exact funext (fun j => by rw [ho1_o ho])
  have J : ∀ o, o < 200 → go1 A k to o = A o := fun o ho => go1_o (by omega) (by omega) (by omega) (by omega)
  have W : ∀ o, 200 ≤ o → A o = M o := fun o ho => Ao o (by unfold oC; omega)
  have Ac : ∀ j, (j < 15 * k ∨ 15 * k + 15 ≤ j) → A (oC 0) j = M (oC 0) j := fun j hj => by rw [hA]; exact ho1_c (by omega) hj
  -- the tooth's cells in the class
  have w0 : ∀ j, j ≠ 15 * k + 2 → up2 M (oC 0) (15 * k + 2) (min 99 (M (oC 0) (15 * k + 2) + 1)) (oC 0) j = M (oC 0) j := fun j hj => up2_j hj
  have hq : ∀ o j, ¬ unw o j → ¬ mno o j → go1 A k to o j = M o j := by
    intro o j hu hm
    unfold mno at hm
    rw [go1_o (by omega) (by omega) (by omega) (by omega), Ao o (by unfold oC; omega)]
  refine RR_main hR hq ⟨⟨hR.1.1.1, ?_, ?_⟩, ?_, ?_⟩ (Nat.le_refl n) (fun t ht => ⟨?_, ?_⟩)
  · rw [J (oT 0) (by unfold oT; omega), Ao (oT 0) oTC]; exact hR.1.1.2.1
  · rw [go1_o (by decide) (by decide) (by decide) (by decide), W 200 (by decide)]; exact hR.1.1.2.2
  · refine PR_one k hR.1.2.1 (fun t ht _ => ht) (fun t d hq hd => ?_) (fun t hq => ?_) (fun t i hq hi => ?_) (fun _ => ?_)
    · rw [J (oC 0) (by unfold oC; omega), Ac _ (by omega)]
    · obtain ⟨t1, t2, t3⟩ := go1_t (M := A) (to := to) hq
      rw [t1, t2, t3, go1_o (o := 307) (by decide) (by decide) (by decide) (by decide), go1_o (o := 308) (by decide) (by decide) (by decide) (by decide), go1_o (o := 311) (by decide) (by decide) (by decide) (by decide), W 307 (by decide), W 308 (by decide), W 309 (by decide), W 310 (by decide), W 311 (by decide), W 313 (by decide)]
      exact ⟨rfl, rfl, rfl, rfl, rfl, rfl⟩
    · unfold go1
      rw [W 313 (by decide)]
      split
      · rw [up2_o (by decide), up2_j (by omega), up2_o (by decide), up2_o (by decide), W 314 (by decide)]
      · rw [up2_o (by decide), up2_o (by decide), W 314 (by decide)]
    · have e6 : up2 M (oC 0) (15 * k + 2) (min 99 (M (oC 0) (15 * k + 2) + 1)) (oC 0) (15 * k + 6) = M 313 k := by rw [up2_j (by omega), c6]
      have g7 : go1 A k to 307 k = M 307 k := by rw [go1_o (by decide) (by decide) (by decide) (by decide), W 307 (by decide)]
      have g8 : go1 A k to 308 k = M 308 k := by rw [go1_o (by decide) (by decide) (by decide) (by decide), W 308 (by decide)]
      have g11 : go1 A k to 311 k = M 311 k := by rw [go1_o (by decide) (by decide) (by decide) (by decide), W 311 (by decide)]
      have g9 : go1 A k to 309 k = min 99 (M 309 k + 1) := by
        unfold go1
        rw [W 313 (by decide), W 309 (by decide)]
        split
        · rw [up2_o (by decide), up2_o (by decide), up2_o (by decide), up2_eq]
        · rw [up2_o (by decide), up2_eq]
      have g10 : go1 A k to 310 k = to := by
        unfold go1
        split
        · rw [up2_o (by decide), up2_o (by decide), up2_eq]
        · rw [up2_eq]
      unfold PRc
      rw [J (oC 0) (by unfold oC; omega), g7, g8, g9, g10, g11]
      by_cases h8 : M 313 k < 8
      · have g13 : go1 A k to 313 k = M 313 k + 1 := by
          unfold go1
          rw [W 313 (by decide), if_pos h8, up2_eq]
        have g14 : ∀ j, go1 A k to 314 j = if j = 8 * k + (M 313 k).toNat then to else M 314 j := by
          intro j
          unfold go1
          rw [W 313 (by decide), if_pos h8, up2_o (by decide)]
          split
          · rename_i z; rw [z, up2_eq]
          · rename_i z; rw [up2_j z, up2_o (by decide), up2_o (by decide), W 314 (by decide)]
        have AC : A (oC 0) = (up2 (up2 (up2 (up2 M (oC 0) (15 * k + 2) (min 99 (M 309 k + 1))) (oC 0) (15 * k + 3) to) (oC 0) (15 * k + 7 + (M 313 k).toNat) to) (oC 0) (15 * k + 6) (M 313 k + 1)) (oC 0) := by
          rw [hA]
          unfold ho1 pass
          rw [e6, if_pos h8, c3]
        rw [AC, g13]
        refine ⟨⟨?_, ?_, ?_, ?_, ?_, ?_⟩, ⟨d1, d2, by omega, hto, d5, by omega, by omega⟩, fun i hi => ?_⟩
        · rw [up2_j (by omega), up2_j (by omega), up2_j (by omega), up2_j (by omega)]; exact c1
        · rw [up2_j (by omega), up2_j (by omega), up2_j (by omega), up2_j (by omega)]; exact c2
        · rw [up2_j (by omega), up2_j (by omega), up2_j (by omega), up2_eq]
        · rw [up2_j (by omega), up2_j (by omega), up2_eq]
        · rw [up2_j (by omega), up2_j (by omega), up2_j (by omega), up2_j (by omega)]; exact c5
        · rw [up2_eq]
        · rw [g14, up2_j (by omega)]
          by_cases hq2 : i = (M 313 k).toNat
          · rw [hq2, up2_eq, if_pos rfl]
          · rw [up2_j (by omega), up2_j (by omega), up2_j (by omega), if_neg (by omega)]
            exact tr i (by omega)
      · have g13 : go1 A k to 313 k = M 313 k := by
          unfold go1
          rw [W 313 (by decide), if_neg h8, up2_o (by decide), up2_o (by decide), W 313 (by decide)]
        have g14 : ∀ j, go1 A k to 314 j = M 314 j := by
          intro j
          unfold go1
          rw [W 313 (by decide), if_neg h8, up2_o (by decide), up2_o (by decide), W 314 (by decide)]
        have AC : A (oC 0) = (up2 (up2 M (oC 0) (15 * k + 2) (min 99 (M 309 k + 1))) (oC 0) (15 * k + 3) to) (oC 0) := by
          rw [hA]
          unfold ho1 pass
          rw [e6, if_neg h8, c3]
        rw [AC, g13]
        refine ⟨⟨?_, ?_, ?_, ?_, ?_, ?_⟩, ⟨d1, d2, by omega, hto, d5, d6⟩, fun i hi => ?_⟩
        · rw [up2_j (by omega), up2_j (by omega)]; exact c1
        · rw [up2_j (by omega), up2_j (by omega)]; exact c2
        · rw [up2_j (by omega), up2_eq]
        · rw [up2_eq]
        · rw [up2_j (by omega), up2_j (by omega)]; exact c5
        · rw [up2_j (by omega), up2_j (by omega)]; exact c6
        · rw [g14, up2_j (by omega), up2_j (by omega)]
          exact tr i hi
  · refine SR_one k hR.1.2.2 (fun t ht _ => ht) (fun t hq => ?_) (fun t hq => ?_) (fun _ => ?_)
    · rw [J (oC 0) (by unfold oC; omega), Ac _ (by omega)]
    · rw [go1_o (by decide) (by decide) (by decide) (by decide), W 312 (by decide)]
    · rw [J (oC 0) (by unfold oC; omega), go1_o (o := 312) (by decide) (by decide) (by decide) (by decide), W 312 (by decide)]
      have e5 : A (oC 0) (15 * k + 5) = M (oC 0) (15 * k + 5) := by
        rw [hA]
        unfold ho1 pass
        split
        · rw [up2_j (by omega), up2_j (by omega), up2_j (by omega), up2_j (by omega)]
        · rw [up2_j (by omega), up2_j (by omega)]
      rw [e5]
      exact hR.1.2.2 k hk
  · rw [go1_o (by decide) (by decide) (by decide) (by decide), W 308 (by decide)]
  · rw [go1_o (by decide) (by decide) (by decide) (by decide), W 311 (by decide)]
