/-! ===== what may be spent ===== -/
section AS
variable {X : Scr} {M : Mem}
theorem quiet_33 {M1 : Mem} (h : ∀ o, o ≠ 33 → M1 o = M o) : quiet M M1 := fun o j hu => by rw [h o (fun z => hu (by unfold unw; omega))]
theorem mrow_n {n b g L r : Nat} {all u best least found : Int} {P : Option AV → Mem → Prop} {M0 : Mem} (hR : RRp M0 n b g L) (hr : r < 16)
    (k : Runs X mX9_spent 123 [(0, vr 200), (2, vi u), (3, vi all), (4, vi best), (5, vi least), (6, vi found), (7, vi (r : Int)), (8, vi (setW (M0 316) r g)), (9, vi (setW (M0 317) r g))] [] M0 P) :
    Runs X mX9_spent 47 [(0, vr 200), (2, vi u), (3, vi all), (4, vi best), (5, vi least), (6, vi found), (7, vi (r : Int))] [] M0 P := by
  obtain ⟨-, -, ⟨⟨c1, c2, c3⟩, -, -, -, f, -⟩⟩ := hR
  refine kX9_spent_47 ?_
  refine up_loop (n := g) (G := fun j => Runs X mX9_spent 56 [(0, vr 200), (2, vi u), (3, vi all), (4, vi best), (5, vi least), (6, vi found), (7, vi (r : Int)), (8, vi (setW (M0 316) r j)), (9, vi (setW (M0 317) r j)), (10, vi (j : Int))] [] M0 P) ?_ ?_ 0 (Nat.zero_le _)
  · exact kX9_spent_56 (fun q => k) (fun q => by omega)
  · intro j hj ih
    have ej : ((j : Int)).toNat = j := by omega
    obtain ⟨⟨f1, f2⟩, f3, f4⟩ := f j hj
    have b1 := setW_bound (w := M0 316) (s := r) (B := 99) (n := j) (fun t ht => (f t (by omega)).1.2) (by decide)
    have b2 := setW_bound (w := M0 317) (s := r) (B := 9) (n := j) (fun t ht => (f t (by omega)).2.2) (by decide)
    have s1 : setW (M0 316) r (j + 1) = setW (M0 316) r j + (if r.testBit j = true then M0 316 j else 0) := rfl
    have s2 : setW (M0 317) r (j + 1) = setW (M0 317) r j + (if r.testBit j = true then M0 317 j else 0) := rfl
    refine kX9_spent_56 (fun q => by omega) (fun q => ?_)
    refine kX9_spent_65 (has_n (by omega) (by omega)) (on ?_)
    cases hb : r.testBit j with
    | true =>
      rw [hb, if_pos rfl] at s1 s2
      refine kX9_spent_74 (fun q => absurd q (by decide)) (fun q => kX9_spent_77 ?_)
      rw [ej]
      refine kX9_spent_88 (has_n (by omega) (by omega)) (on ?_)
      rw [hb]
      refine kX9_spent_100 (fun q => absurd q (by decide)) (fun q => kX9_spent_103 ?_)
      rw [ej]
      refine kX9_spent_114 ?_
      rw [← s1, ← s2, cast1]
      exact ih
    | false =>
      rw [hb, if_neg (by decide)] at s1 s2
      refine kX9_spent_74 (fun q => kX9_spent_87 ?_) (fun q => absurd rfl q)
      refine kX9_spent_88 (has_n (by omega) (by omega)) (on ?_)
      rw [hb]
      refine kX9_spent_100 (fun q => kX9_spent_113 ?_) (fun q => absurd rfl q)
      refine kX9_spent_114 ?_
      rw [← s1, ← s2, cast1]
      exact ih
theorem ag_spent {p u : Int} (h : RR M) : Agree X mX8_spent mX9_spent [vr 0, vi p, vi u] [vr 200, vi p, vi u] M := by
  obtain ⟨n, b, g, L, hR⟩ := id h
  have hX := RR_XT hR
  have h10 := hX.1
  have hp2 := p2_le h10
  have hlt := own_lt (M 310) p n
  by_cases hi : 0 ≤ p ∧ p < 4
  · obtain ⟨all, hall⟩ : ∃ all, all = setW (mw M) (own (M 310) p n) n := ⟨_, rfl⟩
    have hab := setW_bound (w := mw M) (s := own (M 310) p n) (B := 810) (n := n) (fun t ht => mw_in (RR_MT hR) ht) (by decide)
    rw [← hall] at hab
    obtain ⟨⟨g4, c2, c3⟩, -, -, -, f, -⟩ := hR.2.2
    have hg16 : 2 ^ g ≤ 16 := Nat.pow_le_pow_right (n := 2) (j := 4) (by decide) g4
    have both : ∀ (d r : Nat) (best least found : Int), r + d = 2 ^ g → (0 ≤ best ∧ best ≤ 36) → (0 ≤ least ∧ least ≤ 396) → (0 ≤ found ∧ found < r) → ∃ V : Int,
        (∀ MC : Mem, (∀ o, o ≠ 33 → MC o = M o) → MC 33 0 ≠ 0 → MC 33 1 = -best → MC 33 2 = least → MC 33 3 = found → Runs X mX8_spent 32 [(0, vr 0), (2, vi u), (3, vi all), (4, vi (r : Int))] [] MC (asks M (vi V))) ∧
        (∀ M0 : Mem, quiet M M0 → RRp M0 n b g L → Runs X mX9_spent 36 [(0, vr 200), (2, vi u), (3, vi all), (4, vi best), (5, vi least), (6, vi found), (7, vi (r : Int))] [] M0 (fun r M1 => r = some (vi V) ∧ M1 = M0)) := by
      intro d
      induction d with
      | zero =>
        intro r best least found hd hb1 hb2 hb3
        refine ⟨if u = 0 then best else found, fun MC k0 k1 k2 k3 k4 => ?_, fun M0 hq hR0 => ?_⟩
        · have e3 : MC 3 2 = (g : Int) := by rw [k0 3 (by decide)]; exact c2
          refine kX8_spent_32 (fun q => ?_) (fun q => ?_)
          · refine kX8_spent_90 (fun q2 => kX8_spent_104 (h1 := by rw [k2]; omega) (kX8_spent_112 ⟨?_, quiet_33 k0⟩)) (fun q2 => kX8_spent_94 (kX8_spent_112 ⟨?_, quiet_33 k0⟩))
            · rw [k2, if_pos q2, Int.neg_neg]
            · rw [k4, if_neg q2]
          · rw [e3, one_shl (by omega)] at q
            omega
        · have e15 := hR0.2.2.1.2.2
          refine kX9_spent_36 (fun q => ?_) (fun q => ?_)
          · refine kX9_spent_168 (fun q2 => kX9_spent_177 (kX9_spent_179 ⟨?_, rfl⟩)) (fun q2 => kX9_spent_172 (kX9_spent_179 ⟨?_, rfl⟩))
            · rw [if_pos q2]
            · rw [if_neg q2]
          · rw [e15, one_shl (by omega)] at q
            omega
      | succ d ih =>
        intro r best least found hd hb1 hb2 hb3
        have hr : r < 16 := by omega
        obtain ⟨cost, hcost⟩ : ∃ cost, cost = setW (M 316) r g := ⟨_, rfl⟩
        obtain ⟨uses, huses⟩ : ∃ uses, uses = setW (M 317) r g := ⟨_, rfl⟩
        have cb := setW_bound (w := M 316) (s := r) (B := 99) (n := g) (fun t ht => (f t ht).1.2) (by decide)
        have ub := setW_bound (w := M 317) (s := r) (B := 9) (n := g) (fun t ht => (f t ht).2.2) (by decide)
        rw [← hcost] at cb
        rw [← huses] at ub
        have gi : (g : Int) ≤ 4 := by omega
        -- what the class asks of a row
        have cl : ∀ (MC : Mem) (P : Option AV → Mem → Prop), (∀ o, o ≠ 33 → MC o = M o) → (all < cost → Runs X mX8_spent 84 [(0, vr 0), (2, vi u), (3, vi all), (4, vi (r : Int))] [] MC P) → (cost ≤ all → Runs X mX8_spent 84 [(0, vr 0), (2, vi u), (3, vi all), (4, vi (r : Int))] [] (offM MC (-uses) cost (r : Int)) P) → Runs X mX8_spent 32 [(0, vr 0), (2, vi u), (3, vi all), (4, vi (r : Int))] [] MC P := by
          intro MC P k0 t1 t2
          have e3 : MC 3 2 = (g : Int) := by rw [k0 3 (by decide)]; exact c2
          have e4 : setW (MC 4) r g = cost := by rw [k0 4 (by decide), hcost]; exact setW_congr (fun t ht => (f t ht).1.1)
          have e5 : setW (MC 5) r g = uses := by rw [k0 5 (by decide), huses]; exact setW_congr (fun t ht => (f t ht).2.1)
          refine kX8_spent_32 (fun q => ?_) (fun q => ?_)
          · rw [e3, one_shl (by omega)] at q
            omega
          · refine kX8_spent_46 (priceOfSet_n hr e3 g4 (fun j hj => by rw [k0 4 (by decide)]; have := f j hj; omega)) (on ?_)
            rw [e4]
            refine kX8_spent_55 t1 (fun q2 => ?_)
            refine kX8_spent_63 (useOfSet_n hr e3 g4 (fun j hj => by rw [k0 5 (by decide)]; have := f j hj; omega)) (on ?_)
            rw [e5]
            exact kX8_spent_76 offer_n (on0 (t2 q2))
        have mo : ∀ (M0 : Mem) (P : Option AV → Mem → Prop), quiet M M0 → RRp M0 n b g L → Runs X mX9_spent 123 [(0, vr 200), (2, vi u), (3, vi all), (4, vi best), (5, vi least), (6, vi found), (7, vi (r : Int)), (8, vi cost), (9, vi uses)] [] M0 P → Runs X mX9_spent 36 [(0, vr 200), (2, vi u), (3, vi all), (4, vi best), (5, vi least), (6, vi found), (7, vi (r : Int))] [] M0 P := by
          intro M0 P hq hR0 k
          have e15 := hR0.2.2.1.2.2
          refine kX9_spent_36 (fun q => ?_) (fun q => ?_)
          · rw [e15, one_shl (by omega)] at q
            omega
          · refine mrow_n hR0 hr ?_
            rw [quiet_o hq (o := 316) (fun j => by unfold unw; omega), quiet_o hq (o := 317) (fun j => by unfold unw; omega), ← hcost, ← huses]
            exact k
        by_cases hle : cost ≤ all
        · by_cases hbet : best < uses ∨ (uses = best ∧ cost < least)
          · obtain ⟨V, v1, v2⟩ := ih (r + 1) uses cost (r : Int) (by omega) (by omega) (by omega) (by omega)
            refine ⟨V, fun MC k0 k1 k2 k3 k4 => cl MC _ k0 (fun q => by omega) (fun _ => kX8_spent_84 ?_), fun M0 hq hR0 => mo M0 _ hq hR0 (kX9_spent_123 (fun q => by omega) (fun _ => ?_))⟩
            · rw [cast1]
              have e : offM MC (-uses) cost (r : Int) = up2 (up2 (up2 (up2 MC 33 0 1) 33 1 (-uses)) 33 2 cost) 33 3 (r : Int) := by
                unfold offM
                rw [if_pos]
                rw [k2, k3]
                omega
              rw [e]
              refine v1 _ (fun o ho => ?_) ?_ ?_ ?_ ?_
              · funext j
                rw [up2_o ho, up2_o ho, up2_o ho, up2_o ho, k0 o ho]
              · rw [up2_j (by decide), up2_j (by decide), up2_j (by decide), up2_eq]; decide
              · rw [up2_j (by decide), up2_j (by decide), up2_eq]
              · rw [up2_j (by decide), up2_eq]
              · rw [up2_eq]
            · have fin : Runs X mX9_spent 150 [(0, vr 200), (2, vi u), (3, vi all), (7, vi (r : Int)), (8, vi cost), (9, vi uses)] [] M0 (fun r M1 => r = some (vi V) ∧ M1 = M0) := by
                refine kX9_spent_150 (kX9_spent_162 ?_)
                rw [cast1]
                exact v2 M0 hq hR0
              refine kX9_spent_129 (fun _ => fin) (fun q => kX9_spent_136 (fun q2 => by omega) (fun q2 => kX9_spent_143 (fun q3 => by omega) (fun _ => fin)))
          · obtain ⟨V, v1, v2⟩ := ih (r + 1) best least found (by omega) (by omega) (by omega) (by omega)
            refine ⟨V, fun MC k0 k1 k2 k3 k4 => cl MC _ k0 (fun q => by omega) (fun _ => kX8_spent_84 ?_), fun M0 hq hR0 => mo M0 _ hq hR0 (kX9_spent_123 (fun q => by omega) (fun _ => ?_))⟩
            · rw [cast1]
              have e : offM MC (-uses) cost (r : Int) = MC := by
                unfold offM
                rw [if_neg]
                rw [k2, k3, k4]
                omega
              rw [e]
              exact v1 MC k0 k1 k2 k3 k4
            · have fin : Runs X mX9_spent 162 [(0, vr 200), (2, vi u), (3, vi all), (4, vi best), (5, vi least), (6, vi found), (7, vi (r : Int))] [] M0 (fun r M1 => r = some (vi V) ∧ M1 = M0) := by
                refine kX9_spent_162 ?_
                rw [cast1]
                exact v2 M0 hq hR0
              refine kX9_spent_129 (fun q => by omega) (fun q => kX9_spent_136 (fun _ => fin) (fun q2 => kX9_spent_143 (fun _ => fin) (fun q3 => by omega)))
        · obtain ⟨V, v1, v2⟩ := ih (r + 1) best least found (by omega) (by omega) (by omega) (by omega)
          refine ⟨V, fun MC k0 k1 k2 k3 k4 => cl MC _ k0 (fun _ => kX8_spent_84 ?_) (fun q => by omega), fun M0 hq hR0 => mo M0 _ hq hR0 (kX9_spent_123 (fun _ => kX9_spent_162 ?_) (fun q => by omega))⟩
          · rw [cast1]
            exact v1 MC k0 k1 k2 k3 k4
          · rw [cast1]
            exact v2 M0 hq hR0
    have hg1 : 0 < 2 ^ g := Nat.two_pow_pos g
    obtain ⟨V, v1, v2⟩ := both (2 ^ g - 1) 1 0 0 0 (by omega) (by omega) (by omega) (by omega)
    refine Agree.ask (r0 := vi V) h ?_ ?_
    · refine kX8_spent_0 isPerson_n (on ?_)
      refine kX8_spent_4 (fun _ => ?_) (fun q => absurd hi (b2i_d0.mp q))
      refine kX8_spent_9 (ownedBy_n (by omega) h10 hX.2.1) (on ?_)
      rw [RR_own hR]
      refine kX8_spent_18 (worthOfSet_n hX (by omega)) (on ?_)
      rw [RR_setW hR, ← hall]
      refine kX8_spent_21 clear_n (on0 ?_)
      obtain ⟨MC, hMC⟩ : ∃ MC, MC = up2 (up2 (up2 (up2 M 33 0 0) 33 1 0) 33 2 0) 33 3 0 := ⟨_, rfl⟩
      rw [← hMC]
      have k0 : ∀ o, o ≠ 33 → MC o = M o := by
        intro o ho
        funext j
        rw [hMC, up2_o ho, up2_o ho, up2_o ho, up2_o ho]
      have k33 : MC 33 0 = 0 := by rw [hMC, up2_j (by decide), up2_j (by decide), up2_j (by decide), up2_eq]
      have e3 : MC 3 2 = (g : Int) := by rw [k0 3 (by decide)]; exact c2
      refine kX8_spent_29 ?_
      refine kX8_spent_32 (fun q => ?_) (fun q => ?_)
      · rw [e3, one_shl (by omega)] at q
        omega
      · refine kX8_spent_46 (priceOfSet_n (s := 0) (by decide) e3 g4 (fun j hj => by rw [k0 4 (by decide)]; have := f j hj; omega)) (on ?_)
        rw [setW_0]
        refine kX8_spent_55 (fun q2 => by omega) (fun q2 => ?_)
        refine kX8_spent_63 (useOfSet_n (s := 0) (by decide) e3 g4 (fun j hj => by rw [k0 5 (by decide)]; have := f j hj; omega)) (on ?_)
        rw [setW_0]
        refine kX8_spent_76 offer_n (on0 (kX8_spent_84 ?_))
        have e : offM MC (-0) 0 0 = up2 (up2 (up2 (up2 MC 33 0 1) 33 1 (-0)) 33 2 0) 33 3 0 := by
          unfold offM
          rw [if_pos (Or.inl k33)]
        rw [e]
        refine v1 _ (fun o ho => ?_) ?_ ?_ ?_ ?_
        · funext j
          rw [up2_o ho, up2_o ho, up2_o ho, up2_o ho, k0 o ho]
        · rw [up2_j (by decide), up2_j (by decide), up2_j (by decide), up2_eq]; decide
        · rw [up2_j (by decide), up2_j (by decide), up2_eq]
        · rw [up2_j (by decide), up2_eq]
        · rw [up2_eq]
    · rintro M1 hq -
      have hq0 := quiet_trans hq (q0 (M := M1))
      have hR0 := RR_quiet hR hq0
      have hN := RR_MT hR0
      have e : ∀ o, (306 < o ∧ o < 315) → (up2 M1 200 0 0) o = M o := fun o ho => quiet_o hq0 (fun j => by unfold unw; omega)
      have ew : mw (up2 M1 200 0 0) = mw M := by
        funext t
        unfold mw mwb
        rw [hq0 200 4 (by unfold unw; omega), hq0 200 5 (by unfold unw; omega), e 307 (by omega), e 308 (by omega), e 309 (by omega)]
      refine kX9_spent_0 noOne_n (on ?_)
      refine kX9_spent_9 (fun _ => ?_) (fun q => absurd hi (b2i_d1.mp q))
      refine kX9_spent_14 (setOf_n h10 hN.2.1) (on ?_)
      refine kX9_spent_20 (mworthOf_n hN (Nat.lt_of_lt_of_le (own_lt _ _ _) (by omega))) (on ?_)
      rw [ew, e 310 (by omega), ← hall]
      refine kX9_spent_23 ((v2 _ hq0 hR0).mono ?_)
      rintro r M2 ⟨h1, rfl⟩
      exact ⟨h1, q0⟩
  · refine Agree.ask0 (r0 := vi (-1)) h ?_ ?_
    · refine kX8_spent_0 isPerson_n (on ?_)
      exact kX8_spent_4 (fun q => absurd (b2i_d1.mp q) hi) (fun q => kX8_spent_7 ⟨rfl, rfl⟩)
    · refine kX9_spent_0 noOne_n (on ?_)
      exact kX9_spent_9 (fun q => absurd hi (b2i_d0.mp q)) (fun q => kX9_spent_12 ⟨rfl, q0⟩)
end AS
