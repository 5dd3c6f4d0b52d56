/-! ===== pay ===== -/
theorem ho1_agC {A B : Mem} {C k : Nat} {p : Int} (h : A C = B C) : ho1 A C k p C = ho1 B C k p C := by
  have e2 : ∀ z, up2 A C (15 * k + 2) z C = up2 B C (15 * k + 2) z C := fun z => up2_ag h
  unfold ho1 pass
  rw [h, e2]
  split
  · exact up2_ag (up2_ag (up2_ag (up2_ag h)))
  · exact up2_ag (up2_ag h)
theorem hoM_agC {A B : Mem} {C s : Nat} {p : Int} (h : A C = B C) : ∀ k, hoM A C s p k C = hoM B C s p k C
  | 0 => h
  | k + 1 => by
    unfold hoM
    split
    · exact ho1_agC (hoM_agC h k)
    · exact hoM_agC h k
theorem MT_hi {A B : Mem} {n : Nat} (h : ∀ o, 200 ≤ o → A o = B o) (hA : MT A n) : MT B n := by
  unfold MT at hA ⊢
  rw [← h 200 (by decide), ← h 307 (by decide), ← h 308 (by decide), ← h 309 (by decide), ← h 310 (by decide), ← h 311 (by decide), ← h 312 (by decide), ← h 313 (by decide)]
  exact hA
theorem RR_pay {MA MR M4 : Mem} {n b g L x y : Nat} {p q : Int} (hRA : RRp MA n b g L) (hb : b < 8) (hp : 0 ≤ p ∧ p ≤ 3) (hq : 0 ≤ q ∧ q ≤ 3) (hMR : MR = up2 (copT MA (1 + b) 0) (oB 0) 1 (b + 1)) (h4 : ∀ o j, 200 ≤ o → ¬ unw o j → o ≠ 329 → (o ≠ 200 ∨ j ≠ 30) → M4 o j = MA o j) (h30 : M4 200 30 = ((b + 1 : Nat) : Int)) (l0 : M4 329 (121 * b) = (n : Int)) (l1 : ∀ t, t < 10 → M4 329 (121 * b + 1 + t) = MA 307 t ∧ M4 329 (121 * b + 11 + t) = MA 309 t ∧ M4 329 (121 * b + 21 + t) = MA 310 t ∧ M4 329 (121 * b + 31 + t) = MA 313 t) (l2 : ∀ k, k < 80 → M4 329 (121 * b + 41 + k) = MA 314 k) (l3 : ∀ j, j < 121 * b → M4 329 j = MA 329 j) (hlo : ∀ o, o < 200 → M4 o = hoM (hoM MR (oC 0) x q n) (oC 0) y p n o) : MT M4 n ∧ MT (goM M4 x q n) n ∧ RRp (goM (goM M4 x q n) y p n) n (b + 1) g L := by
  obtain ⟨JL, hJL⟩ : ∃ JL : Mem, JL = fun o => if o < 200 then MR o else M4 o := ⟨_, rfl⟩
  have jlo : ∀ o, o < 200 → JL o = MR o := fun o ho => by rw [hJL]; exact if_pos ho
  have jhi : ∀ o, 200 ≤ o → JL o = M4 o := fun o ho => by rw [hJL]; exact if_neg (by omega)
  have hRL : RRp JL n (b + 1) g L := by
    refine RR_page hRA hb (fun o j hu o1 o2 o3 o4 o5 => ?_) ?_ (fun j hj => ?_) ?_ ?_ ?_ (fun t ht => ?_) (fun k hk => ?_) (fun j hj => ?_)
    · by_cases ho : o < 200
      · rw [jlo o ho, hMR, up2_o (by unfold oB; exact o3), copT_o o1 o2]
      · rw [jhi o (by omega)]
        exact h4 o j (by omega) hu o4 o5
    · rw [jlo _ (by unfold oT; omega), hMR, up2_o (by unfold oT oB; omega), copT_T]
      exact hRA.1.1.2.1
    · rw [jlo _ (by unfold oC; omega), hMR, up2_o (by unfold oC oB; omega), copT_C hj]
    · rw [jlo _ (by unfold oB; omega), hMR, up2_eq]
      rfl
    · rw [jhi _ (by decide)]; exact h30
    · rw [jhi _ (by decide)]; exact l0
    · rw [jhi 329 (by decide)]; exact l1 t ht
    · rw [jhi 329 (by decide)]; exact l2 k hk
    · rw [jhi 329 (by decide)]; exact l3 j hj
  have hR1 := RR_JO (s := x) hRL hq n (Nat.le_refl n)
  have hR2 := RR_JO (s := y) hR1 hp n (Nat.le_refl n)
  have g1 : ∀ o, 200 ≤ o → JO JL x q n o = goM M4 x q n o := fun o ho => by rw [JO_hi n o ho]; exact goM_ag jhi n o ho
  have e : JO (JO JL x q n) y p n = goM (goM M4 x q n) y p n := by
    funext o
    by_cases ho : o < 200
    · rw [JO_lo n o ho, goM_o (by omega) (by omega) (by omega) (by omega), goM_o (by omega) (by omega) (by omega) (by omega), hlo o ho]
      refine hoM_ag (fun o2 ho2 => ?_) n o ho
      rw [JO_lo n o2 ho2]
      exact hoM_ag jlo n o2 ho2
    · rw [JO_hi n o (by omega)]
      exact goM_ag g1 n o (by omega)
  rw [e] at hR2
  exact ⟨MT_hi jhi (RR_MT hRL), MT_hi g1 (RR_MT hR1), hR2⟩
section AY
variable {X : Scr} {M : Mem}
theorem ag_pay {p q s : Int} (h : RR M) : Agree X mX8_pay mX9_pay [vr 0, vi p, vi q, vi s] [vr 200, vi p, vi q, vi s] M := by
  obtain ⟨n, b, g, L, hR⟩ := id h
  by_cases hn : noPayV p q s = 0
  · obtain ⟨p1, p2, p3, p4⟩ := noPayV_0.mp hn
    have h10 := hR.1.1.1
    have hb8 := hR.2.1.1.1
    have hp2 := p2_le h10
    -- what the class leaves
    refine ⟨fun r M1 => ∃ MA : Mem, quiet M MA ∧ LM (PF (mw M) (own (M 310) p n) (own (M 310) q n) n s) MA ∧ ((MA 33 0 = 0 ∧ M1 = MA ∧ r = some (vi (-3))) ∨ (MA 33 0 ≠ 0 ∧ b = 8 ∧ M1 = MA ∧ r = some (vi (-4))) ∨ (MA 33 0 ≠ 0 ∧ b < 8 ∧ r = some (vi (MA 33 1)) ∧ M1 = hoM (hoM (up2 (copT MA (1 + b) 0) (oB 0) 1 (b + 1)) (oC 0) (MA 33 2).toNat q n) (oC 0) (MA 33 3).toNat p n)), ?_, ?_⟩
    · refine kX8_pay_0 payRef_n (on ?_)
      refine kX8_pay_6 (fun _ => ?_) (fun z => absurd hn z)
      refine kX8_pay_16 (seekFewest_q hR p3) ?_
      rintro MA ⟨-, g1, g2⟩
      have hRA := RR_quiet hR g1
      refine kX8_pay_23 (fun z0 => ?_) (fun z0 => kX8_pay_33 ⟨MA, g1, g2, Or.inl ⟨z0, rfl, rfl⟩⟩)
      have eb := hRA.2.1.1.2.1
      refine kX8_pay_36 (fun zb => ?_) (fun zb => kX8_pay_48 ⟨MA, g1, g2, Or.inr (Or.inl ⟨z0, by omega, rfl, rfl⟩)⟩)
      obtain ⟨x, y, hx1, hy1, e2, e3⟩ : ∃ x y : Nat, x < 1024 ∧ y < 1024 ∧ MA 33 2 = (x : Int) ∧ MA 33 3 = (y : Int) := by
        rcases g2 with ⟨r1, r2⟩ | ⟨r1, ⟨x, y, u1, u2, u3, u4, u5, u6, u7⟩, r3⟩
        · exact absurd r1 z0
        · have v1 := sub_le u1
          have v2 := sub_le u2
          have v3 := own_lt (M 310) p n
          have v4 := own_lt (M 310) q n
          exact ⟨x, y, by omega, by omega, u6, u7⟩
      obtain ⟨MR, hMR⟩ : ∃ MR, MR = up2 (copT MA (1 + b) 0) (oB 0) 1 (b + 1) := ⟨_, rfl⟩
      have mr : ∀ o, o ≠ oT (1 + b) → o ≠ oC (1 + b) → o ≠ oB 0 → MR o = MA o := by
        intro o o1 o2 o3
        rw [hMR]
        funext j
        rw [up2_o o3, copT_o o1 o2]
      have mr33 : MR 33 = MA 33 := mr 33 (by unfold oT; omega) (by unfold oC; omega) (by unfold oB; omega)
      have mrC : MR (oC 0) = MA (oC 0) := mr (oC 0) (by unfold oT oC; omega) (by unfold oC; omega) (by unfold oB oC; omega)
      have hXA := RR_XT hRA
      have hXR : XT MR n := XT_eq hXA (mr 0 (by unfold oT; omega) (by unfold oC; omega) (by unfold oB; omega)) (mr (oT 0) (by unfold oT; omega) (by unfold oT oC; omega) (by unfold oB oT; omega)) mrC
      refine kX8_pay_51 (remember_n (w := 0) (t := 0) (by decide) (by decide) eb (by omega)) (on0 ?_)
      rw [show 9 * 0 + 1 + b = 1 + b by omega, ← hMR]
      refine kX8_pay_62 (by rw [mr33, e2]; exact handOver_n hXR (by omega)) (on0 ?_)
      have hX1 : XT (hoM MR (oC 0) x q n) n := by
        have hJ := RR_XT (RR_JO (s := x) hRA (show 0 ≤ q ∧ q ≤ 3 by omega) n (Nat.le_refl n))
        have jl := JO_lo (M := MA) (s := x) (to := q) n
        refine XT_eq hJ ?_ ?_ ?_
        · rw [jl 0 (by decide)]
          funext j
          rw [hoM_o (by unfold oC; decide), hoM_o (by unfold oC; decide), mr 0 (by unfold oT; omega) (by unfold oC; omega) (by unfold oB; omega)]
        · rw [jl (oT 0) (by unfold oT; omega)]
          funext j
          rw [hoM_o oTC, hoM_o oTC, mr (oT 0) (by unfold oT; omega) (by unfold oT oC; omega) (by unfold oB oT; omega)]
        · rw [jl (oC 0) (by unfold oC; omega)]
          exact hoM_agC mrC n
      have h33 : hoM MR (oC 0) x q n 33 = MA 33 := by
        funext j
        rw [hoM_o (by unfold oC; decide), mr33]
      refine kX8_pay_74 (by rw [h33, e3]; exact handOver_n hX1 (by omega)) (on0 ?_)
      have h33' : hoM (hoM MR (oC 0) x q n) (oC 0) y p n 33 = MA 33 := by
        funext j
        rw [hoM_o (by unfold oC; decide), h33]
      refine kX8_pay_86 ⟨MA, g1, g2, Or.inr (Or.inr ⟨z0, by omega, by rw [h33'], ?_⟩)⟩
      rw [e2, e3, show ((x : Int)).toNat = x by omega, show ((y : Int)).toNat = y by omega, hMR]
    · rintro r M1 ⟨MA, g1, g2, g3⟩
      have hRA := RR_quiet hR g1
      have h10' := hRA.1.1.1
      -- the model's half is as it was
      have hM1 : ∀ o, 200 ≤ o → M1 o = MA o := by
        intro o ho
        rcases g3 with ⟨-, z, -⟩ | ⟨-, -, z, -⟩ | ⟨-, -, -, z⟩
        · rw [z]
        · rw [z]
        · rw [z]
          funext j
          rw [hoM_o (by unfold oC; omega), hoM_o (by unfold oC; omega), up2_o (by unfold oB; omega), copT_o (by unfold oT; omega) (by unfold oC; omega)]
      have hMT1 : MT M1 n := MT_hi (fun o ho => (hM1 o ho).symm) (RR_MT hRA)
      have hu0 : ∀ o, o ≠ 200 → (up2 M1 200 0 0) o = M1 o := fun o ho => funext (fun j => up2_o ho)
      have hMT2 : MT (up2 M1 200 0 0) n := by
        unfold MT at hMT1 ⊢
        rw [show (up2 M1 200 0 0) 200 6 = M1 200 6 from up2_j (by decide), show (up2 M1 200 0 0) 200 4 = M1 200 4 from up2_j (by decide), show (up2 M1 200 0 0) 200 5 = M1 200 5 from up2_j (by decide), hu0 307 (by decide), hu0 308 (by decide), hu0 309 (by decide), hu0 310 (by decide), hu0 311 (by decide), hu0 312 (by decide), hu0 313 (by decide)]
        exact hMT1
      have eh : ∀ o, (306 < o ∧ o < 315) → (up2 M1 200 0 0) o = M o := fun o ho => by
        funext j
        rw [up2_o (by omega), hM1 o (by omega), quiet_o g1 (fun j => by unfold unw; omega)]
      have ew : mw (up2 M1 200 0 0) = mw M := by
        funext t
        unfold mw mwb
        rw [eh 307 (by omega), eh 308 (by omega), eh 309 (by omega), show (up2 M1 200 0 0) 200 4 = M1 200 4 from up2_j (by decide), show (up2 M1 200 0 0) 200 5 = M1 200 5 from up2_j (by decide), hM1 200 (by decide), g1 200 4 (by unfold unw; omega), g1 200 5 (by unfold unw; omega)]
      have hff := findFewest_n (X := X) (p := p) (q := q) hMT2 p4
      rw [ew, eh 310 (by omega)] at hff
      refine kX9_pay_0 noPay_n (on ?_)
      refine kX9_pay_11 (fun _ => ?_) (fun z => absurd hn z)
      refine kX9_pay_21 hff ?_
      rintro z2 M2 ⟨z3, hz3, k3, hL2⟩
      cases hz3
      have hlm := LB_LM hL2 g2 (fun _ _ _ => Iff.rfl)
      have k30 : M2 200 30 = (b : Int) := by
        rw [k3 200 30 (Or.inr (by decide)), up2_j (by decide), hM1 200 (by decide)]
        exact hRA.2.1.1.2.2
      rcases g3 with ⟨z0, zM, zr⟩ | ⟨z0, zb, zM, zr⟩ | ⟨z0, zb, zr, zM⟩
      · rcases hlm with ⟨u1, u2⟩ | ⟨u1, u2, -⟩
        · refine kX9_pay_28 (fun w => absurd u1 w) (fun _ => kX9_pay_37 ⟨zr.symm, n, b, g, L, ?_⟩)
          rw [zM] at k3
          exact RR_quiet (RR_quiet hRA q0) (quiet_keepM k3)
        · exact absurd z0 u2
      · rcases hlm with ⟨u1, u2⟩ | ⟨u1, u2, -⟩
        · exact absurd u2 z0
        · refine kX9_pay_28 (fun _ => ?_) (fun w => absurd w u1)
          refine kX9_pay_40 (fun w => absurd (by rw [k30, zb]; rfl) w) (fun _ => kX9_pay_49 ⟨zr.symm, n, b, g, L, ?_⟩)
          rw [zM] at k3
          exact RR_quiet (RR_quiet hRA q0) (quiet_keepM k3)
      · rcases hlm with ⟨u1, u2⟩ | ⟨u1, u2, u3, u4, u5⟩
        · exact absurd u2 z0
        · refine kX9_pay_28 (fun _ => ?_) (fun w => absurd w u1)
          refine kX9_pay_40 (fun _ => ?_) (fun w => by rw [k30] at w; omega)
          have hx1 : ∃ x y : Nat, x < 1024 ∧ y < 1024 ∧ MA 33 2 = (x : Int) ∧ MA 33 3 = (y : Int) := by
            rcases g2 with ⟨r1, r2⟩ | ⟨r1, ⟨x, y, v1, v2, v3, v4, v5, v6, v7⟩, r3⟩
            · exact absurd r1 z0
            · have w1 := sub_le v1
              have w2 := sub_le v2
              have w3 := own_lt (M 310) p n
              have w4 := own_lt (M 310) q n
              exact ⟨x, y, by omega, by omega, v6, v7⟩
          obtain ⟨x, y, hx, hy, e2, e3⟩ := hx1
          rw [e2, e3, show ((x : Int)).toNat = x by omega, show ((y : Int)).toNat = y by omega] at zM
          have k2 : ∀ o j, 200 ≤ o → ¬ unw o j → M2 o j = MA o j := fun o j ho hu => by
            rw [quiet_keepM k3 o j hu, (q0 (M := M1)) o j hu, hM1 o ho]
          refine kX9_pay_52 (h1 := by rw [k30]; omega) (by rw [k30]; exact lay_n (a := 121 * b) (n1 := 968) rfl (by decide) (by omega) (by decide)) ?_
          rintro M3 ⟨-, a1, a2, a3, a4, a5⟩
          obtain ⟨M4, hM4⟩ : ∃ M4, M4 = up2 M3 200 30 (b + 1) := ⟨_, rfl⟩
          have m3 : M3 200 30 = (b : Int) := by rw [a1 200 (by decide)]; exact k30
          have m4o : ∀ o, o ≠ 200 → M4 o = M3 o := fun o ho => by
            rw [hM4]
            funext j
            rw [up2_o ho]
          have e307 : ∀ o, (306 < o ∧ o < 315) → M2 o = MA o := fun o ho => funext (fun j => k2 o j (by omega) (by unfold unw; omega))
          have h4 : ∀ o j, 200 ≤ o → ¬ unw o j → o ≠ 329 → (o ≠ 200 ∨ j ≠ 30) → M4 o j = MA o j := by
            intro o j ho hu o1 o2
            rw [← k2 o j ho hu, ← a1 o o1]
            by_cases h2 : o = 200
            · subst h2
              rw [hM4, up2_j (by omega)]
            · rw [m4o o h2]
          obtain ⟨t1, t2, t3⟩ := RR_pay (M4 := M4) (x := x) (y := y) hRA zb (show 0 ≤ p ∧ p ≤ 3 by omega) (show 0 ≤ q ∧ q ≤ 3 by omega) rfl h4 (by rw [hM4, up2_eq]; rfl)
            (by rw [m4o 329 (by decide), a2, k2 200 6 (by decide) (by unfold unw; omega)]; exact hRA.1.1.2.2)
            (fun t ht => by rw [m4o 329 (by decide), ← e307 307 (by omega), ← e307 309 (by omega), ← e307 310 (by omega), ← e307 313 (by omega)]; exact a3 t ht)
            (fun k hk => by rw [m4o 329 (by decide), ← e307 314 (by omega)]; exact a4 k hk)
            (fun j hj => by rw [m4o 329 (by decide), a5 j (Or.inl hj), k2 329 j (by decide) (by unfold unw; omega)])
            (fun o ho => by
              rw [m4o o (by omega), a1 o (by omega), keepM_o k3 (by omega), ← zM]
              exact funext (fun j => up2_o (by omega)))
          have e39 : M4 200 39 = (x : Int) := by rw [hM4, up2_j (by decide), a1 200 (by decide), ← u4, e2]
          have e40 : M4 200 40 = (y : Int) := by rw [hM4, up2_j (by decide), a1 200 (by decide), ← u5, e3]
          refine kX9_pay_67 (h1 := by rw [m3]; omega) (by rw [m3, ← hM4, e39]; exact goOver_n h10 t1.2.1 (by omega) (fun t ht => ⟨(t1.2.2.2.2 t ht).2.2.1, by have := (t1.2.2.2.2 t ht).2.2.2.2.2.2; omega⟩)) (on0 ?_)
          have e40' : goM M4 x q n 200 40 = (y : Int) := by rw [goM_o (by decide) (by decide) (by decide) (by decide)]; exact e40
          refine kX9_pay_86 (by rw [e40']; exact goOver_n h10 t2.2.1 (by omega) (fun t ht => ⟨(t2.2.2.2.2 t ht).2.2.1, by have := (t2.2.2.2.2 t ht).2.2.2.2.2.2; omega⟩)) (on0 ?_)
          exact kX9_pay_95 ⟨by rw [zr, u3], n, b + 1, g, L, t3⟩
  · refine Agree.ask0 (r0 := vi (noPayV p q s)) h ?_ ?_
    · refine kX8_pay_0 payRef_n (on ?_)
      exact kX8_pay_6 (fun z => absurd z hn) (fun _ => kX8_pay_13 ⟨rfl, rfl⟩)
    · refine kX9_pay_0 noPay_n (on ?_)
      exact kX9_pay_11 (fun z => absurd z hn) (fun _ => kX9_pay_18 ⟨rfl, q0⟩)
end AY
