/-! ===== the model's rings ===== -/
def gdR (code many i : Nat) : Prop := (i = 0 ∨ dg code many 0 < dg code many i) ∧ ∀ e, e < i → dg code many e ≠ dg code many i
theorem gdR_all {code many : Nat} : (∀ i, i < many → gdR code many i) ↔ isR code many := by
  constructor
  · intro h i hi h1
    obtain ⟨h2, h3⟩ := h i hi
    exact ⟨by omega, h3⟩
  · intro h i hi
    rcases Nat.eq_zero_or_pos i with h0 | h0
    · subst h0
      exact ⟨Or.inl rfl, fun e he => by omega⟩
    · obtain ⟨h2, h3⟩ := h i hi h0
      have := h3 0 h0
      exact ⟨Or.inr (by omega), h3⟩
theorem all_S {p : Nat → Prop} {k : Nat} : (∀ i, i < k + 1 → p i) ↔ (∀ i, i < k → p i) ∧ p k := by
  constructor
  · exact fun h => ⟨fun i hi => h i (by omega), h k (by omega)⟩
  · rintro ⟨h1, h2⟩ i hi
    by_cases hq : i = k
    · rw [hq]; exact h2
    · exact h1 i (by omega)
section MR
variable {X : Scr} {M : Mem}
theorem layRing_n {code many : Nat} (hm : many ≤ 4) (h1 : 1 ≤ many) (hc : code < 2147483648) : Call X mX9_layRing [vr 200, vi (code : Int), vi (many : Int)] M (fun r M1 => ∃ z, r = some (vi z) ∧ (z ≠ 0 ↔ isR code many) ∧ (∀ o, o ≠ 343 → M1 o = M o) ∧ ∀ k, k < many → M1 343 k = ((dg code many k : Nat) : Int)) := by
  obtain ⟨P, hP⟩ : ∃ P : Option AV → Mem → Prop, P = fun r M1 => ∃ z, r = some (vi z) ∧ (z ≠ 0 ↔ isR code many) ∧ (∀ o, o ≠ 343 → M1 o = M o) ∧ ∀ k, k < many → M1 343 k = ((dg code many k : Nat) : Int) := ⟨_, rfl⟩
  rw [← hP]
  refine kX9_layRing_0 ?_
  -- the second half
  have second : ∀ M2 : Mem, (∀ o, o ≠ 343 → M2 o = M o) → (∀ k, k < many → M2 343 k = (dg code many k : Nat)) → Runs X mX9_layRing 35 [(0, vr 200), (2, vi (many : Int)), (4, vi 1)] [] M2 P := by
    intro M2 hk hD
    refine kX9_layRing_35 ?_
    have eD : ∀ k : Nat, k < many → M2 343 ((k : Int)).toNat = (dg code many k : Nat) := fun k hk2 => by
      rw [show ((k : Int)).toNat = k by omega]; exact hD k hk2
    have e0 : M2 343 ((0 : Int)).toNat = (dg code many 0 : Nat) := hD 0 (by omega)
    have go : ∀ k, k ≤ many → ∀ b : Int, (0 ≤ b ∧ b ≤ 1) → (b ≠ 0 ↔ ∀ i, i < k → gdR code many i) → Runs X mX9_layRing 38 [(0, vr 200), (2, vi (many : Int)), (4, vi b), (5, vi (k : Int))] [] M2 P := by
      refine up_loop (n := many) ?_ ?_
      · intro b hb hB
        refine kX9_layRing_38 (fun h => ?_) (fun h => by omega)
        refine kX9_layRing_128 ?_
        rw [hP]
        exact ⟨b, rfl, hB.trans gdR_all, hk, hD⟩
      · intro k hk2 ih b hb hB
        have inner : ∀ b2 : Int, (0 ≤ b2 ∧ b2 ≤ 1) → (b2 ≠ 0 ↔ (∀ i, i < k → gdR code many i) ∧ (k = 0 ∨ dg code many 0 < dg code many k)) → Runs X mX9_layRing 75 [(0, vr 200), (2, vi (many : Int)), (5, vi (k : Int))] [vi b2] M2 P := by
          intro b2 hb2 hB2
          refine kX9_layRing_75 ?_
          have go2 : ∀ e, e ≤ k → ∀ b3 : Int, (0 ≤ b3 ∧ b3 ≤ 1) → (b3 ≠ 0 ↔ ((∀ i, i < k → gdR code many i) ∧ (k = 0 ∨ dg code many 0 < dg code many k)) ∧ ∀ e', e' < e → dg code many e' ≠ dg code many k) → Runs X mX9_layRing 80 [(0, vr 200), (2, vi (many : Int)), (4, vi b3), (5, vi (k : Int)), (6, vi (e : Int))] [] M2 P := by
            refine up_loop (n := k) ?_ ?_
            · intro b3 hb3 hB3
              refine kX9_layRing_80 (fun h => ?_) (fun h => by omega)
              refine kX9_layRing_122 ?_
              rw [cast1]
              refine ih b3 hb3 (hB3.trans ?_)
              rw [all_S]
              exact ⟨fun z => ⟨z.1.1, z.1.2, z.2⟩, fun z => ⟨⟨z.1, z.2.1⟩, z.2.2⟩⟩
            · intro e he ih3 b3 hb3 hB3
              have ee := eD e (by omega)
              have ek := eD k hk2
              refine kX9_layRing_80 (fun h => by omega) (fun h => ?_)
              have n0 : (b3 = 0 ∨ dg code many e = dg code many k) → Runs X mX9_layRing 113 [(0, vr 200), (2, vi (many : Int)), (5, vi (k : Int)), (6, vi (e : Int))] [] M2 P := by
                intro hq
                refine kX9_layRing_113 (kX9_layRing_114 ?_)
                rw [cast1]
                refine ih3 0 (by decide) ⟨fun z => absurd rfl z, fun z => ?_⟩
                rcases hq with hq | hq
                · exact absurd hq (hB3.mpr ⟨z.1, fun e' he' => z.2 e' (by omega)⟩)
                · exact absurd hq (z.2 e (by omega))
              refine kX9_layRing_87 (fun h4 => n0 (Or.inl h4)) (fun h4 => ?_)
              refine kX9_layRing_92 (fun h5 => n0 (Or.inr (by omega))) (fun h5 => ?_)
              refine kX9_layRing_109 (kX9_layRing_114 ?_)
              rw [cast1]
              refine ih3 1 (by decide) ⟨fun _ => ?_, fun _ => by decide⟩
              obtain ⟨z1, z2⟩ := hB3.mp h4
              refine ⟨z1, all_S.mpr ⟨z2, by omega⟩⟩
          exact go2 0 (Nat.zero_le _) b2 hb2 (hB2.trans ⟨fun z => ⟨z, fun e' he' => by omega⟩, fun z => z.1⟩)
        have ek := eD k hk2
        refine kX9_layRing_38 (fun h => by omega) (fun h => ?_)
        have n0 : (b = 0 ∨ (k ≠ 0 ∧ dg code many k ≤ dg code many 0)) → Runs X mX9_layRing 74 [(0, vr 200), (2, vi (many : Int)), (5, vi (k : Int))] [] M2 P := by
          intro hq
          refine kX9_layRing_74 (inner 0 (by decide) ⟨fun z => absurd rfl z, fun z => ?_⟩)
          rcases hq with hq | hq
          · exact absurd hq (hB.mpr z.1)
          · omega
        have y1 : b ≠ 0 → (k = 0 ∨ dg code many 0 < dg code many k) → Runs X mX9_layRing 70 [(0, vr 200), (2, vi (many : Int)), (5, vi (k : Int))] [] M2 P := by
          intro hq1 hq2
          exact kX9_layRing_70 (inner 1 (by decide) ⟨fun _ => ⟨hB.mp hq1, hq2⟩, fun _ => by decide⟩)
        refine kX9_layRing_44 (fun h4 => n0 (Or.inl h4)) (fun h4 => ?_)
        refine kX9_layRing_49 (fun h5 => y1 h4 (Or.inl (by omega))) (fun h5 => ?_)
        exact kX9_layRing_54 (fun h6 => n0 (Or.inr ⟨by omega, by omega⟩)) (fun h6 => y1 h4 (Or.inr (by omega)))
    exact go 0 (Nat.zero_le _) 1 (by decide) ⟨fun _ i hi => by omega, fun _ => by decide⟩
  -- the first half
  have go : ∀ c, c ≤ many → ∀ M2 : Mem, (∀ o, o ≠ 343 → M2 o = M o) → (∀ k, k < many → many - c ≤ k → M2 343 k = (dg code many k : Nat)) → Runs X mX9_layRing 10 [(0, vr 200), (2, vi (many : Int)), (3, vi ((code / 4 ^ c : Nat) : Int)), (4, vi 1), (5, vi ((many : Int) - 1 - (c : Int)))] [] M2 P := by
    refine up_loop (n := many) ?_ ?_
    · intro M2 hk hD
      refine kX9_layRing_10 (fun h => ?_) (fun h => by omega)
      exact second M2 hk (fun k hk2 => hD k hk2 (by omega))
    · intro c hc2 ih M2 hk hD
      refine kX9_layRing_10 (fun h => by omega) (fun h => ?_)
      have h0 : (0 : Int) ≤ ((code / 4 ^ c : Nat) : Int) := Int.natCast_nonneg _
      refine kX9_layRing_15 (h1 := h0) ?_
      have e1 : ((code / 4 ^ c : Nat) : Int) / 4 = ((code / 4 ^ (c + 1) : Nat) : Int) := by
        rw [Nat.pow_succ, ← Nat.div_div_eq_div_mul]
        omega
      have e2 : ((code / 4 ^ c : Nat) : Int) % 4 = (dg code many (many - 1 - c) : Nat) := by
        unfold dg
        rw [show many - 1 - (many - 1 - c) = c by omega]
        omega
      rw [e1, e2, show (many : Int) - 1 - (c : Int) + -1 = (many : Int) - 1 - ((c + 1 : Nat) : Int) by omega, show ((many : Int) - 1 - (c : Int)).toNat = many - 1 - c by omega]
      refine ih _ (fun o ho => ?_) (fun k hk2 hk3 => ?_)
      · funext j
        rw [up2_o ho, hk o ho]
      · by_cases hq : k = many - 1 - c
        · rw [hq, up2_eq]
        · rw [up2_j hq]
          exact hD k hk2 (by omega)
  have g0 := go 0 (Nat.zero_le _) M (fun o _ => rfl) (fun k hk2 hk3 => by omega)
  rw [Nat.pow_zero, Nat.div_one, show (many : Int) - 1 - ((0 : Nat) : Int) = (many : Int) - 1 by omega] at g0
  exact g0
-- ===== the best ring
def RgN (M : Mem) (S : RgT) : Prop := M 200 45 = S.2.2.1 ∧ M 200 46 = S.2.2.2 ∧ (S.2.1 = 0 ∨ (M 200 44 = (S.2.1 : Int) ∧ ∀ k, k < S.2.1 → M 342 k = (dg S.1 S.2.1 k : Nat)))
def keepG (M M1 : Mem) : Prop := ∀ o j, o ≠ 342 → o ≠ 343 → (o ≠ 200 ∨ (j ≠ 44 ∧ j ≠ 45 ∧ j ≠ 46)) → M1 o j = M o j
theorem RgN_eq {M M1 : Mem} {S : RgT} (h : RgN M S) (h1 : M1 200 = M 200) (h2 : M1 342 = M 342) : RgN M1 S := by
  unfold RgN at h ⊢
  rw [h1, h2]
  exact h
theorem keepG_343 {M M1 M2 : Mem} (h : keepG M M1) (h2 : ∀ o, o ≠ 343 → M2 o = M1 o) : keepG M M2 := fun o j a b c => by rw [h2 o b]; exact h o j a b c
theorem rst_yes {g d : Nat → Int} {S : RgT} {code many : Nat} (h : isR code many) (h2 : S.2.2.1 * prodF (fun i => d (rpl code many i)) many < prodF (fun i => g (rpl code many i)) many * S.2.2.2) : rst g d S code many = (code, many, prodF (fun i => g (rpl code many i)) many, prodF (fun i => d (rpl code many i)) many) := by
  unfold rst
  rw [if_pos ⟨h, h2⟩]
theorem rst_low {g d : Nat → Int} {S : RgT} {code many : Nat} (h2 : ¬ S.2.2.1 * prodF (fun i => d (rpl code many i)) many < prodF (fun i => g (rpl code many i)) many * S.2.2.2) : rst g d S code many = S := by
  unfold rst
  rw [if_neg (fun z => h2 z.2)]
theorem findRing_n (hr : ∀ k, k < 16 → (1 ≤ M 331 k ∧ M 331 k ≤ 99) ∧ 1 ≤ M 332 k ∧ M 332 k ≤ 99) : Call X mX9_findRing [vr 200] M (fun r M1 => r = none ∧ keepG M M1 ∧ RgN M1 (ringS (M 331) (M 332))) := by
  refine kX9_findRing_0 ?_
  obtain ⟨g, hg⟩ : ∃ g, g = M 331 := ⟨_, rfl⟩
  obtain ⟨d, hd⟩ : ∃ d, d = M 332 := ⟨_, rfl⟩
  rw [← hg, ← hd] at hr
  rw [← hg, ← hd]
  have many_go : ∀ (many N : Nat) (S : RgT) (P : Option AV → Mem → Prop), N = 2 ^ (2 * many) → 2 ≤ many → many ≤ 4 → inRg S →
      (∀ M1 : Mem, keepG M M1 → RgN M1 (rgo g d many S N) → Runs X mX9_findRing 12 [(0, vr 200), (1, vi ((many + 1 : Nat) : Int))] [] M1 P) →
      ∀ M1 : Mem, keepG M M1 → RgN M1 S → Runs X mX9_findRing 12 [(0, vr 200), (1, vi (many : Int))] [] M1 P := by
    intro many N S P hN hm2 hm4 hS hout M1 hk hR
    have hNle : N ≤ 256 := by
      rw [hN]
      exact Nat.pow_le_pow_right (n := 2) (j := 8) (by decide) (by omega)
    have eN : zshl 1 (2 * (many : Int)) = (N : Int) := by
      rw [show (2 : Int) * (many : Int) = ((2 * many : Nat) : Int) by omega, one_shl (by omega), ← hN]
    refine kX9_findRing_12 (fun h => by omega) (fun h => ?_)
    refine kX9_findRing_17 ?_
    have go : ∀ c, c ≤ N → ∀ M2 : Mem, keepG M M2 → RgN M2 (rgo g d many S c) → Runs X mX9_findRing 19 [(0, vr 200), (1, vi (many : Int)), (2, vi (c : Int))] [] M2 P := by
      refine up_loop (n := N) ?_ ?_
      · intro M2 g1 g2
        refine kX9_findRing_19 (fun h => ?_) (fun h => by omega)
        refine kX9_findRing_172 ?_
        rw [cast1]
        exact hout M2 g1 g2
      · intro c hc ih M2 g1 g2
        have hin := rgo_in (g := g) (d := d) hm4 hS hr c
        refine kX9_findRing_19 (fun h => by omega) (fun h => ?_)
        refine kX9_findRing_28 (layRing_n hm4 (by omega) (by omega)) ?_
        rintro z M3 ⟨z', hz', hzR, h3, h4⟩
        cases hz'
        have g3 : keepG M M3 := keepG_343 g1 h3
        have g4 : RgN M3 (rgo g d many S c) := RgN_eq g2 (h3 _ (by decide)) (h3 _ (by decide))
        have next : ∀ M4 : Mem, keepG M M4 → RgN M4 (rst g d (rgo g d many S c) c many) → Runs X mX9_findRing 166 [(0, vr 200), (1, vi (many : Int)), (2, vi (c : Int))] [] M4 P := by
          intro M4 q1 q2
          refine kX9_findRing_166 ?_
          rw [cast1]
          exact ih M4 q1 q2
        refine kX9_findRing_34 (fun h5 => ?_) (fun h5 => ?_)
        · refine next M3 g3 ?_
          rw [rst_no (fun q => (hzR.mpr q) h5)]
          exact g4
        · have hisR := hzR.mp h5
          have e331 : M3 331 = g := by rw [hg]; funext j; exact g3 331 j (by decide) (by decide) (Or.inl (by decide))
          have e332 : M3 332 = d := by rw [hd]; funext j; exact g3 332 j (by decide) (by decide) (Or.inl (by decide))
          refine kX9_findRing_37 ?_
          have prods : ∀ k, k ≤ many → Runs X mX9_findRing 45 [(0, vr 200), (1, vi (many : Int)), (2, vi (c : Int)), (3, vl (prodF (fun i => g (rpl c many i)) k)), (5, vl (prodF (fun i => d (rpl c many i)) k)), (7, vi (k : Int))] [] M3 P := by
            refine up_loop (n := many) ?_ ?_
            · refine kX9_findRing_45 (fun h6 => ?_) (fun h6 => by omega)
              have b1 := prodF_b4 (f := fun i => g (rpl c many i)) hm4 (fun i _ => (hr _ rpl_lt).1)
              have b2 := prodF_b4 (f := fun i => d (rpl c many i)) hm4 (fun i _ => (hr _ rpl_lt).2)
              obtain ⟨r1, r2, r3⟩ := id g4
              have m1 := mul_inL (a := prodF (fun i => g (rpl c many i)) many) (b := (rgo g d many S c).2.2.2) (by omega) hin.2
              have m2 := mul_inL (a := (rgo g d many S c).2.2.1) (b := prodF (fun i => d (rpl c many i)) many) hin.1 (by omega)
              refine kX9_findRing_104 (h1 := by rw [r2]; omega) (h2 := by rw [r1]; omega) (fun h7 => ?_) (fun h7 => ?_)
              · rw [r1, r2] at h7
                refine next M3 g3 ?_
                rw [rst_low (by omega)]
                exact g4
              · rw [r1, r2] at h7
                refine kX9_findRing_121 ?_
                have go2 : ∀ k, k ≤ many → ∀ M4 : Mem, keepG M M4 → M4 343 = M3 343 → M4 200 45 = prodF (fun i => g (rpl c many i)) many → M4 200 46 = prodF (fun i => d (rpl c many i)) many → M4 200 44 = (many : Int) → (∀ i, i < k → M4 342 i = (dg c many i : Nat)) → Runs X mX9_findRing 140 [(0, vr 200), (1, vi (many : Int)), (2, vi (c : Int)), (7, vi (k : Int))] [] M4 P := by
                  refine up_loop (n := many) ?_ ?_
                  · intro M4 q1 q2 q3 q4 q5 q6
                    refine kX9_findRing_140 (fun h8 => ?_) (fun h8 => by omega)
                    refine next M4 q1 ?_
                    rw [rst_yes hisR h7]
                    exact ⟨q3, q4, Or.inr ⟨q5, q6⟩⟩
                  · intro k hk2 ih4 M4 q1 q2 q3 q4 q5 q6
                    refine kX9_findRing_140 (fun h8 => by omega) (fun h8 => ?_)
                    refine kX9_findRing_146 ?_
                    rw [cast1, show ((k : Int)).toNat = k by omega]
                    refine ih4 _ ?_ ?_ ?_ ?_ ?_ ?_
                    · intro o j a1 a2 a3
                      rw [up2_o a1]; exact q1 o j a1 a2 a3
                    · funext j
                      rw [up2_o (by decide), q2]
                    · rw [up2_o (by decide)]; exact q3
                    · rw [up2_o (by decide)]; exact q4
                    · rw [up2_o (by decide)]; exact q5
                    · refine all_S.mpr ⟨fun i hi => ?_, ?_⟩
                      · rw [up2_j (by omega)]; exact q6 i hi
                      · rw [up2_eq, q2]; exact h4 k hk2
                refine go2 0 (Nat.zero_le _) _ ?_ ?_ ?_ ?_ ?_ (fun i hi => by omega)
                · intro o j a1 a2 a3
                  have a4 := g3 o j a1 a2 a3
                  by_cases ho : o = 200
                  · subst ho
                    obtain ⟨j1, j2, j3⟩ := a3.resolve_left (fun z => z rfl)
                    rw [up2_j j1, up2_j j3, up2_j j2]; exact a4
                  · rw [up2_o ho, up2_o ho, up2_o ho]; exact a4
                · funext j
                  rw [up2_o (by decide), up2_o (by decide), up2_o (by decide)]
                · rw [up2_j (by decide), up2_j (by decide), up2_eq]
                · rw [up2_j (by decide), up2_eq]
                · rw [up2_eq]
            · intro k hk2 ih3
              refine kX9_findRing_45 (fun h6 => by omega) (fun h6 => ?_)
              have b1 := prodF_b4 (f := fun i => g (rpl c many i)) (n := k) (by omega) (fun i _ => (hr _ rpl_lt).1)
              have b2 := prodF_b4 (f := fun i => d (rpl c many i)) (n := k) (by omega) (fun i _ => (hr _ rpl_lt).2)
              have hmod : ((k : Int) + 1) % (many : Int) = ((if k + 1 < many then k + 1 else 0 : Nat) : Int) := by
                split
                · rw [Int.emod_eq_of_lt (by omega) (by omega)]; omega
                · rw [show (k : Int) + 1 = (many : Int) by omega, Int.emod_self]; rfl
              have t1 : M3 343 ((k : Int)).toNat = (dg c many k : Nat) := by rw [show ((k : Int)).toNat = k by omega]; exact h4 k hk2
              have t2 : M3 343 (((k : Int) + 1) % (many : Int)).toNat = (dg c many (if k + 1 < many then k + 1 else 0) : Nat) := by
                rw [hmod, show (((if k + 1 < many then k + 1 else 0 : Nat)) : Int).toNat = (if k + 1 < many then k + 1 else 0) by omega]
                exact h4 _ (by split <;> omega)
              have l1 := dg_lt (code := c) (many := many) (i := k)
              have l2 := dg_lt (code := c) (many := many) (i := (if k + 1 < many then k + 1 else 0))
              have hpl : (4 * M3 343 ((k : Int)).toNat + M3 343 (((k : Int) + 1) % (many : Int)).toNat).toNat = rpl c many k := by
                rw [t1, t2]
                unfold rpl
                omega
              have c1 := (hr (rpl c many k) rpl_lt).1
              have c2 := (hr (rpl c many k) rpl_lt).2
              have w1 : prodF (fun i => g (rpl c many i)) (k + 1) = prodF (fun i => g (rpl c many i)) k * g (rpl c many k) := rfl
              have w2 : prodF (fun i => d (rpl c many i)) (k + 1) = prodF (fun i => d (rpl c many i)) k * d (rpl c many k) := rfl
              have b3 := prodF_b4 (f := fun i => g (rpl c many i)) (n := k + 1) (by omega) (fun i _ => (hr _ rpl_lt).1)
              have b4 := prodF_b4 (f := fun i => d (rpl c many i)) (n := k + 1) (by omega) (fun i _ => (hr _ rpl_lt).2)
              rw [w1] at b3
              rw [w2] at b4
              refine kX9_findRing_51 (h7 := by rw [hmod]; omega) (h8 := by rw [hmod]; split <;> omega) (h12 := by rw [hpl, e331]; omega) (h13 := by rw [hpl, e332]; omega) ?_
              rw [hpl, e331, e332, cast1, ← w1, ← w2]
              exact ih3
          exact prods 0 (Nat.zero_le _)
    exact go 0 (Nat.zero_le _) M1 hk hR
  have i0 : inRg (0, 0, 0, 1) := ⟨⟨by decide, by decide⟩, by decide, by decide⟩
  have i2 := rgo_in (g := g) (d := d) (many := 2) (by decide) i0 hr 16
  have i3 := rgo_in (g := g) (d := d) (many := 3) (by decide) i2 hr 64
  refine many_go 2 16 _ _ rfl (by decide) (by decide) i0 (many_go 3 64 _ _ rfl (by decide) (by decide) i2 (many_go 4 256 _ _ rfl (by decide) (by decide) i3 ?_)) _ ?_ ⟨?_, ?_, Or.inl rfl⟩
  · intro M1 g1 g2
    exact kX9_findRing_12 (fun h => kX9_findRing_178 ⟨rfl, g1, g2⟩) (fun h => absurd h (by decide))
  · intro o j a1 a2 a3
    by_cases ho : o = 200
    · subst ho
      obtain ⟨j1, j2, j3⟩ := a3.resolve_left (fun z => z rfl)
      rw [up2_j j3, up2_j j2]
    · rw [up2_o ho, up2_o ho]
  · rw [up2_j (by decide), up2_eq]
  · rw [up2_eq]
end MR
-- ===== there is a ring, and its lower number is one at least
theorem rst_pos {g d : Nat → Int} {S : RgT} {code many : Nat} (hm : many ≤ 4) (h1 : 1 ≤ many) (hS : 1 ≤ S.2.2.2 ∧ S.2.1 ≤ 4) (hr : ∀ k, k < 16 → 1 ≤ d k ∧ d k ≤ 99) : 1 ≤ (rst g d S code many).2.2.2 ∧ (rst g d S code many).2.1 ≤ 4 := by
  unfold rst
  split
  · exact ⟨(prodF_b4 (f := fun i => d (rpl code many i)) hm (fun i _ => hr _ rpl_lt)).1, hm⟩
  · exact hS
theorem rgo_pos {g d : Nat → Int} {S : RgT} {many : Nat} (hm : many ≤ 4) (h1 : 1 ≤ many) (hS : 1 ≤ S.2.2.2 ∧ S.2.1 ≤ 4) (hr : ∀ k, k < 16 → 1 ≤ d k ∧ d k ≤ 99) : ∀ c, 1 ≤ (rgo g d many S c).2.2.2 ∧ (rgo g d many S c).2.1 ≤ 4
  | 0 => hS
  | c + 1 => rst_pos hm h1 (rgo_pos hm h1 hS hr c) hr
theorem rst_many {g d : Nat → Int} {S : RgT} {code many : Nat} (h1 : 1 ≤ many) (hS : 1 ≤ S.2.1) : 1 ≤ (rst g d S code many).2.1 := by
  unfold rst
  split
  · exact h1
  · exact hS
theorem rgo_many {g d : Nat → Int} {S : RgT} {many : Nat} (h1 : 1 ≤ many) (hS : 1 ≤ S.2.1) : ∀ c, 1 ≤ (rgo g d many S c).2.1
  | 0 => hS
  | c + 1 => rst_many h1 (rgo_many h1 hS c)
theorem ringS_ok {g d : Nat → Int} (hr : ∀ k, k < 16 → (1 ≤ g k ∧ g k ≤ 99) ∧ 1 ≤ d k ∧ d k ≤ 99) : 1 ≤ (ringS g d).2.1 ∧ (ringS g d).2.1 ≤ 4 ∧ 1 ≤ (ringS g d).2.2.2 ∧ inRg (ringS g d) := by
  have hd : ∀ k, k < 16 → 1 ≤ d k ∧ d k ≤ 99 := fun k hk => (hr k hk).2
  have i0 : inRg (0, 0, 0, 1) := ⟨⟨by decide, by decide⟩, by decide, by decide⟩
  have i2 := rgo_in (g := g) (d := d) (many := 2) (by decide) i0 hr 16
  have i3 := rgo_in (g := g) (d := d) (many := 3) (by decide) i2 hr 64
  have i4 := rgo_in (g := g) (d := d) (many := 4) (by decide) i3 hr 256
  have p2 := rgo_pos (g := g) (d := d) (many := 2) (S := (0, 0, 0, 1)) (by decide) (by decide) (by decide) hd 16
  have p3 := rgo_pos (g := g) (d := d) (many := 3) (by decide) (by decide) p2 hd 64
  have p4 := rgo_pos (g := g) (d := d) (many := 4) (by decide) (by decide) p3 hd 256
  have e0 : rst g d (0, 0, 0, 1) 0 2 = (0, 0, 0, 1) := rst_no (fun z => (z 1 (by decide) (by decide)).2 0 (by decide) (by decide))
  have s2 : rgo g d 2 (0, 0, 0, 1) 2 = (1, 2, prodF (fun i => g (rpl 1 2 i)) 2, prodF (fun i => d (rpl 1 2 i)) 2) := by
    show rst g d (rst g d (0, 0, 0, 1) 0 2) 1 2 = _
    rw [e0]
    refine rst_yes (fun i hi h1 => ?_) ?_
    · have : i = 1 := by omega
      subst this
      refine ⟨by decide, fun e he => ?_⟩
      have : e = 0 := by omega
      subst this
      decide
    · have b1 := prodF_b4 (f := fun i => g (rpl 1 2 i)) (n := 2) (by decide) (fun i _ => (hr _ rpl_lt).1)
      show 0 * _ < _ * 1
      omega
  have m2 : ∀ c, 1 ≤ (rgo g d 2 (0, 0, 0, 1) (2 + c)).2.1 := by
    intro c
    induction c with
    | zero => rw [Nat.add_zero, s2]; exact (by decide : 1 ≤ 2)
    | succ c ih => exact rst_many (by decide) ih
  have m3 := rgo_many (g := g) (d := d) (many := 3) (by decide) (m2 14) 64
  have m4 := rgo_many (g := g) (d := d) (many := 4) (by decide) m3 256
  exact ⟨m4, p4.2, p4.1, i4⟩
theorem rst_congr {g d g' d' : Nat → Int} {S : RgT} {code many : Nat} (h : ∀ k, k < 16 → g k = g' k ∧ d k = d' k) : rst g d S code many = rst g' d' S code many := by
  have e1 : prodF (fun i => g (rpl code many i)) many = prodF (fun i => g' (rpl code many i)) many := prodF_congr (fun t _ => (h _ rpl_lt).1)
  have e2 : prodF (fun i => d (rpl code many i)) many = prodF (fun i => d' (rpl code many i)) many := prodF_congr (fun t _ => (h _ rpl_lt).2)
  unfold rst
  rw [e1, e2]
theorem rgo_congr {g d g' d' : Nat → Int} {S : RgT} {many : Nat} (h : ∀ k, k < 16 → g k = g' k ∧ d k = d' k) : ∀ c, rgo g d many S c = rgo g' d' many S c
  | 0 => rfl
  | c + 1 => by
    show rst g d (rgo g d many S c) c many = rst g' d' (rgo g' d' many S c) c many
    rw [rgo_congr h c, rst_congr h]
theorem ringS_congr {g d g' d' : Nat → Int} (h : ∀ k, k < 16 → g k = g' k ∧ d k = d' k) : ringS g d = ringS g' d' := by
  unfold ringS
  rw [rgo_congr h, rgo_congr h, rgo_congr h]
