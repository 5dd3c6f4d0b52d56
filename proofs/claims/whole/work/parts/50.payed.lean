/-! ===== pay ===== -/
theorem ho1_agC {A B : Mem} {C k : Nat} {p : Int} (h : A C = B C) : ho1 A C k p C = ho1 B C k p C := by
  have e2 : ∀ z, up2 A C (15 * k + 2) z C = up2 B C (15 * k + 2) z C := fun z => up2_ag h
  unfold ho1 pass
  rw [h, e2]
  split
  · exact up2_ag (up2_ag (up2_ag (up2_ag h)))
  · exact up2_ag (up2_ag h)
theorem hoM_agC {A B : Mem} {C s : Nat} {p : Int} (h : A C = B C) : ∀ k, hoM A C s p k C = hoM B C s p k C
  | 0 => h
  | k + 1 => by
    unfold hoM
    split
    · exact ho1_agC (hoM_agC h k)
    · exact hoM_agC h k
section AY
variable {X : Scr} {M : Mem}
theorem ag_pay {p q s : Int} (h : RR M) : Agree X mX8_pay mX9_pay [vr 0, vi p, vi q, vi s] [vr 200, vi p, vi q, vi s] M := by
  obtain ⟨n, b, g, L, hR⟩ := id h
  by_cases hn : noPayV p q s = 0
  · obtain ⟨p1, p2, p3, p4⟩ := noPayV_0.mp hn
    have h10 := hR.1.1.1
    have hb8 := hR.2.1.1.1
    have hp2 := p2_le h10
    -- what the class leaves
    refine ⟨fun r M1 => ∃ MA : Mem, quiet M MA ∧ LM (PF (mw M) (own (M 310) p n) (own (M 310) q n) n s) MA ∧ ((MA 33 0 = 0 ∧ M1 = MA ∧ r = some (vi (-3))) ∨ (MA 33 0 ≠ 0 ∧ b = 8 ∧ M1 = MA ∧ r = some (vi (-4))) ∨ (MA 33 0 ≠ 0 ∧ b < 8 ∧ r = some (vi (MA 33 1)) ∧ M1 = hoM (hoM (up2 (copT MA (1 + b) 0) (oB 0) 1 (b + 1)) (oC 0) (MA 33 2).toNat q n) (oC 0) (MA 33 3).toNat p n)), ?_, ?_⟩
    · refine kX8_pay_0 payRef_n (on ?_)
      refine kX8_pay_6 (fun _ => ?_) (fun z => absurd hn z)
      refine kX8_pay_16 (seekFewest_q hR p3) ?_
      rintro MA ⟨-, g1, g2⟩
      have hRA := RR_quiet hR g1
      refine kX8_pay_23 (fun z0 => ?_) (fun z0 => kX8_pay_33 ⟨MA, g1, g2, Or.inl ⟨z0, rfl, rfl⟩⟩)
      have eb := hRA.2.1.1.2.1
      refine kX8_pay_36 (fun zb => ?_) (fun zb => kX8_pay_48 ⟨MA, g1, g2, Or.inr (Or.inl ⟨z0, by omega, rfl, rfl⟩)⟩)
      obtain ⟨x, y, hx1, hy1, e2, e3⟩ : ∃ x y : Nat, x < 1024 ∧ y < 1024 ∧ MA 33 2 = (x : Int) ∧ MA 33 3 = (y : Int) := by
        rcases g2 with ⟨r1, r2⟩ | ⟨r1, ⟨x, y, u1, u2, u3, u4, u5, u6, u7⟩, r3⟩
        · exact absurd r1 z0
        · have v1 := sub_le u1
          have v2 := sub_le u2
          have v3 := own_lt (M 310) p n
          have v4 := own_lt (M 310) q n
          exact ⟨x, y, by omega, by omega, u6, u7⟩
      obtain ⟨MR, hMR⟩ : ∃ MR, MR = up2 (copT MA (1 + b) 0) (oB 0) 1 (b + 1) := ⟨_, rfl⟩
      have mr : ∀ o, o ≠ oT (1 + b) → o ≠ oC (1 + b) → o ≠ oB 0 → MR o = MA o := by
        intro o o1 o2 o3
        rw [hMR]
        funext j
        rw [up2_o o3, copT_o o1 o2]
      have mr33 : MR 33 = MA 33 := mr 33 (by unfold oT; omega) (by unfold oC; omega) (by unfold oB; omega)
      have mrC : MR (oC 0) = MA (oC 0) := mr (oC 0) (by unfold oT oC; omega) (by unfold oC; omega) (by unfold oB oC; omega)
      have hXA := RR_XT hRA
      have hXR : XT MR n := XT_eq hXA (mr 0 (by unfold oT; omega) (by unfold oC; omega) (by unfold oB; omega)) (mr (oT 0) (by unfold oT; omega) (by unfold oT oC; omega) (by unfold oB oT; omega)) mrC
      refine kX8_pay_51 (remember_n (w := 0) (t := 0) (by decide) (by decide) eb (by omega)) (on0 ?_)
      rw [show 9 * 0 + 1 + b = 1 + b by omega, ← hMR]
      refine kX8_pay_62 (by rw [mr33, e2]; exact handOver_n hXR (by omega)) (on0 ?_)
      have hX1 : XT (hoM MR (oC 0) x q n) n := by
        have hJ := RR_XT (RR_JO (s := x) hRA (show 0 ≤ q ∧ q ≤ 3 by omega) n (Nat.le_refl n))
        have jl := JO_lo (M := MA) (s := x) (to := q) n
        refine XT_eq hJ ?_ ?_ ?_
        · rw [jl 0 (by decide)]
          funext j
          rw [hoM_o (by unfold oC; decide), hoM_o (by unfold oC; decide), mr 0 (by unfold oT; omega) (by unfold oC; omega) (by unfold oB; omega)]
        · rw [jl (oT 0) (by unfold oT; omega)]
          funext j
          rw [hoM_o oTC, hoM_o oTC, mr (oT 0) (by unfold oT; omega) (by unfold oT oC; omega) (by unfold oB oT; omega)]
        · rw [jl (oC 0) (by unfold oC; omega)]
          exact hoM_agC mrC n
      have h33 : hoM MR (oC 0) x q n 33 = MA 33 := by
        funext j
        rw [hoM_o (by unfold oC; decide), mr33]
      refine kX8_pay_74 (by rw [h33, e3]; exact handOver_n hX1 (by omega)) (on0 ?_)
      have h33' : hoM (hoM MR (oC 0) x q n) (oC 0) y p n 33 = MA 33 := by
        funext j
        rw [hoM_o (by unfold oC; decide), h33]
      refine kX8_pay_86 ⟨MA, g1, g2, Or.inr (Or.inr ⟨z0, by omega, by rw [h33'], ?_⟩)⟩
      rw [e2, e3, show ((x : Int)).toNat = x by omega, show ((y : Int)).toNat = y by omega, hMR]
    · sorry
  · refine Agree.ask0 (r0 := vi (noPayV p q s)) h ?_ ?_
    · refine kX8_pay_0 payRef_n (on ?_)
      exact kX8_pay_6 (fun z => absurd z hn) (fun _ => kX8_pay_13 ⟨rfl, rfl⟩)
    · refine kX9_pay_0 noPay_n (on ?_)
      exact kX9_pay_11 (fun z => absurd z hn) (fun _ => kX9_pay_18 ⟨rfl, q0⟩)
end AY
