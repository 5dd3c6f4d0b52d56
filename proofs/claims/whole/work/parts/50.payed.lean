/-! ===== pay ===== -/
section AY
variable {X : Scr} {M : Mem}
theorem ag_pay {p q s : Int} (h : RR M) : Agree X mX8_pay mX9_pay [vr 0, vi p, vi q, vi s] [vr 200, vi p, vi q, vi s] M := by
  obtain ⟨n, b, g, L, hR⟩ := id h
  by_cases hn : noPayV p q s = 0
  · obtain ⟨p1, p2, p3, p4⟩ := noPayV_0.mp hn
    have h10 := hR.1.1.1
    have hb8 := hR.2.1.1.1
    have hp2 := p2_le h10
    -- what the class leaves
    refine ⟨fun r M1 => ∃ MA : Mem, quiet M MA ∧ LM (PF (mw M) (own (M 310) p n) (own (M 310) q n) n s) MA ∧ ((MA 33 0 = 0 ∧ M1 = MA ∧ r = some (vi (-3))) ∨ (MA 33 0 ≠ 0 ∧ b = 8 ∧ M1 = MA ∧ r = some (vi (-4))) ∨ (MA 33 0 ≠ 0 ∧ b < 8 ∧ r = some (vi (MA 33 1)) ∧ M1 = hoM (hoM (up2 (copT MA (1 + b) 0) (oB 0) 1 (b + 1)) (oC 0) (MA 33 2).toNat q n) (oC 0) (MA 33 3).toNat p n)), ?_, ?_⟩
    · refine kX8_pay_0 payRef_n (on ?_)
      refine kX8_pay_6 (fun _ => ?_) (fun z => absurd hn z)
      refine kX8_pay_16 (seekFewest_q hR p3) ?_
      rintro MA ⟨-, g1, g2⟩
      have hRA := RR_quiet hR g1
      refine kX8_pay_23 (fun z0 => ?_) (fun z0 => kX8_pay_33 ⟨MA, g1, g2, Or.inl ⟨z0, rfl, rfl⟩⟩)
      have eb := hRA.2.1.1.2.1
      refine kX8_pay_36 (fun zb => ?_) (fun zb => kX8_pay_48 ⟨MA, g1, g2, Or.inr (Or.inl ⟨z0, by omega, rfl, rfl⟩)⟩)
      sorry
    · sorry
  · refine Agree.ask0 (r0 := vi (noPayV p q s)) h ?_ ?_
    · refine kX8_pay_0 payRef_n (on ?_)
      exact kX8_pay_6 (fun z => absurd z hn) (fun _ => kX8_pay_13 ⟨rfl, rfl⟩)
    · refine kX9_pay_0 noPay_n (on ?_)
      exact kX9_pay_11 (fun z => absurd z hn) (fun _ => kX9_pay_18 ⟨rfl, q0⟩)
end AY
