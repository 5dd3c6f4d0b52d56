/-! ===== the calls that only ask ===== -/
theorem q0 {M : Mem} : quiet M (up2 M 200 0 0) := by
  intro o j hu
  by_cases ho : o = 200
  · subst ho
    rw [up2_j (fun z => hu (by unfold unw; omega))]
  · rw [up2_o ho]
theorem Agree.ask0 {X : Scr} {mx mm : MR} {ax am : List AV} {M : Mem} {r0 : AV} (h : RR M) (hx : Call X mx ax M (fun r M1 => r = some r0 ∧ M1 = M)) (hm : Call X mm am M (asks M r0)) : Agree X mx mm ax am M := by
  refine ⟨_, hx, ?_⟩
  rintro r M1 ⟨rfl, rfl⟩
  obtain ⟨n, b, g, L, hR⟩ := h
  exact hm.mono (fun r' M2 h' => ⟨h'.1, n, b, g, L, RR_quiet hR h'.2⟩)
section AQ
variable {X : Scr} {M : Mem}
theorem ag_about {i : Int} (h : RR M) : Agree X mX8_about mX9_about [vr 0, vi i] [vr 200, vi i] M := by
  obtain ⟨n, b, g, L, hR⟩ := id h
  have hR0 := RR_quiet hR q0
  have hX := RR_XT hR
  have hN := RR_MT hR0
  obtain ⟨⟨⟨a1, a2, a3⟩, a4, a5⟩, ⟨⟨b1, b2, b3⟩, b4⟩, ⟨⟨c1, c2, c3⟩, ⟨d1, d2, d3⟩, e1, e2, -⟩⟩ := hR
  have hf : sumF (fun j => M (oC 0) (15 * j + 4)) n = sumF (M 311) n := sumF_congr (fun t ht => (a4 t ht).1.2.2.2.2.1)
  obtain ⟨V, hV⟩ : ∃ V : Int, V = if i = 0 then (n : Int) else if i = 1 then (g : Int) else if i = 2 then M 200 4 else if i = 3 then M 200 5 else if i = 4 then (b : Int) else if i = 5 then (L : Int) else if i = 6 then sumF (M 311) n else -2 := ⟨_, rfl⟩
  refine Agree.ask0 (r0 := vi V) h ?_ ?_
  · refine kX8_about_0 (fun q => kX8_about_44 ⟨?_, rfl⟩) (fun q => kX8_about_52 ⟨?_, rfl⟩) (fun q => kX8_about_60 ⟨?_, rfl⟩) (fun q => kX8_about_65 ⟨?_, rfl⟩) (fun q => kX8_about_70 ⟨?_, rfl⟩) (fun q => kX8_about_78 ⟨?_, rfl⟩) (fun q => kX8_about_86 (fakes_n (by omega) a1 a2 (fun j hj => (hX.2.2.2.2 j hj).2.2.2.2.1)) (on (kX8_about_93 ⟨?_, rfl⟩))) (fun q => kX8_about_94 ⟨?_, rfl⟩)
    · rw [hV, q, a2]; rfl
    · rw [hV, q, c2]; rfl
    · rw [hV, q, e1.1]; rfl
    · rw [hV, q, e2.1]; rfl
    · rw [hV, q, b2]; rfl
    · rw [hV, q, d2]; rfl
    · rw [hV, q, hf]; rfl
    · rw [hV, if_neg (by omega), if_neg (by omega), if_neg (by omega), if_neg (by omega), if_neg (by omega), if_neg (by omega), if_neg (by omega)]
  · refine kX9_about_0 (fun q => kX9_about_48 ⟨?_, q0⟩) (fun q => kX9_about_53 ⟨?_, q0⟩) (fun q => kX9_about_58 ⟨?_, q0⟩) (fun q => kX9_about_63 ⟨?_, q0⟩) (fun q => kX9_about_68 ⟨?_, q0⟩) (fun q => kX9_about_73 ⟨?_, q0⟩) (fun q => kX9_about_78 (mfakes_n hN) (on (kX9_about_82 ⟨?_, q0⟩))) (fun q => kX9_about_83 ⟨?_, q0⟩)
    · rw [hV, q, up2_j (by decide), a3]; rfl
    · rw [hV, q, up2_j (by decide), c3]; rfl
    · rw [hV, q, up2_j (by decide)]; rfl
    · rw [hV, q, up2_j (by decide)]; rfl
    · rw [hV, q, up2_j (by decide), b3]; rfl
    · rw [hV, q, up2_j (by decide), d3]; rfl
    · rw [hV, q]; rfl
    · rw [hV, if_neg (by omega), if_neg (by omega), if_neg (by omega), if_neg (by omega), if_neg (by omega), if_neg (by omega), if_neg (by omega)]
theorem ag_tooth {i w : Int} (h : RR M) : Agree X mX8_tooth mX9_tooth [vr 0, vi i, vi w] [vr 200, vi i, vi w] M := by
  obtain ⟨n, b, g, L, hR⟩ := id h
  have hR0 := RR_quiet hR q0
  have hX := RR_XT hR
  have hN := RR_MT hR0
  have hw := RR_w hR
  obtain ⟨⟨⟨a1, a2, a3⟩, a4, a5⟩, -⟩ := hR
  by_cases hi : 0 ≤ i ∧ i < n
  · obtain ⟨k, rfl⟩ : ∃ k : Nat, i = (k : Int) := ⟨i.toNat, by omega⟩
    have hk : k < n := by omega
    have ek : ((k : Int)).toNat = k := by omega
    obtain ⟨⟨c1, c2, c3, c4, c5, c6⟩, ⟨d1, d2, d3, d4, d5, d6⟩, -⟩ := a4 k hk
    obtain ⟨V, hV⟩ : ∃ V : Int, V = if w = 0 then M 307 k else if w = 1 then M 308 k else if w = 2 then M 309 k else if w = 3 then M 310 k else if w = 4 then mw M k else if w = 5 then M 311 k else -2 := ⟨_, rfl⟩
    refine Agree.ask0 (r0 := vi V) h ?_ ?_
    · refine kX8_tooth_0 (isTooth_n a2) (on ?_)
      refine kX8_tooth_5 (fun q => ?_) (fun q => absurd hi (b2i_d0.mp q))
      refine kX8_tooth_10 (fun q => kX8_tooth_48 (get_n (c := 0) (by omega) (by omega) (by omega)) (on (kX8_tooth_57 ⟨?_, rfl⟩))) (fun q => kX8_tooth_58 (get_n (c := 1) (by omega) (by omega) (by omega)) (on (kX8_tooth_67 ⟨?_, rfl⟩))) (fun q => kX8_tooth_68 (get_n (c := 2) (by omega) (by omega) (by omega)) (on (kX8_tooth_77 ⟨?_, rfl⟩))) (fun q => kX8_tooth_78 (get_n (c := 3) (by omega) (by omega) (by omega)) (on (kX8_tooth_87 ⟨?_, rfl⟩))) (fun q => kX8_tooth_88 (worthOf_n hX hk) (on (kX8_tooth_93 ⟨?_, rfl⟩))) (fun q => kX8_tooth_94 (get_n (c := 4) (by omega) (by omega) (by omega)) (on (kX8_tooth_103 ⟨?_, rfl⟩))) (fun q => kX8_tooth_104 ⟨?_, rfl⟩)
      · rw [hV, q, Nat.add_zero, c1]; rfl
      · rw [hV, q, c2]; rfl
      · rw [hV, q, c3]; rfl
      · rw [hV, q, c4]; rfl
      · rw [hV, q, (hw k hk).1]; rfl
      · rw [hV, q, c5]; rfl
      · rw [hV, if_neg (by omega), if_neg (by omega), if_neg (by omega), if_neg (by omega), if_neg (by omega), if_neg (by omega)]
    · refine kX9_tooth_0 (noTooth_n (by rw [up2_j (by decide)]; exact a3) a1) (on ?_)
      refine kX9_tooth_10 (fun q => ?_) (fun q => absurd hi (b2i_d1.mp q))
      refine kX9_tooth_15 (fun q => kX9_tooth_56 ⟨?_, q0⟩) (fun q => ?_) (fun q => kX9_tooth_78 ⟨?_, q0⟩) (fun q => kX9_tooth_85 ⟨?_, q0⟩) (fun q => kX9_tooth_92 (worth_n hN hk) (on (kX9_tooth_97 ⟨?_, q0⟩))) (fun q => ?_) (fun q => kX9_tooth_113 ⟨?_, q0⟩)
      · rw [hV, q, ek, up2_o (by decide)]; rfl
      · refine kX9_tooth_63 (fun q2 => kX9_tooth_76 (kX9_tooth_77 ⟨?_, q0⟩)) (fun q2 => kX9_tooth_72 (kX9_tooth_77 ⟨?_, q0⟩))
        · rw [ek, up2_o (by decide)] at q2
          rw [hV, q, show M 308 k = 0 from q2]; rfl
        · rw [ek, up2_o (by decide)] at q2
          rw [hV, q, show M 308 k = 1 by omega]; rfl
      · rw [hV, q, ek, up2_o (by decide)]; rfl
      · rw [hV, q, ek, up2_o (by decide)]; rfl
      · rw [hV, q]; rfl
      · refine kX9_tooth_98 (fun q2 => kX9_tooth_111 (kX9_tooth_112 ⟨?_, q0⟩)) (fun q2 => kX9_tooth_107 (kX9_tooth_112 ⟨?_, q0⟩))
        · rw [ek, up2_o (by decide)] at q2
          rw [hV, q, show M 311 k = 0 from q2]; rfl
        · rw [ek, up2_o (by decide)] at q2
          rw [hV, q, show M 311 k = 1 by omega]; rfl
      · rw [hV, if_neg (by omega), if_neg (by omega), if_neg (by omega), if_neg (by omega), if_neg (by omega), if_neg (by omega)]
  · refine Agree.ask0 (r0 := vi (-1)) h ?_ ?_
    · refine kX8_tooth_0 (isTooth_n a2) (on ?_)
      exact kX8_tooth_5 (fun q => absurd (b2i_d1.mp q) hi) (fun q => kX8_tooth_8 ⟨rfl, rfl⟩)
    · refine kX9_tooth_0 (noTooth_n (by rw [up2_j (by decide)]; exact a3) a1) (on ?_)
      exact kX9_tooth_10 (fun q => absurd hi (b2i_d0.mp q)) (fun q => kX9_tooth_13 ⟨rfl, q0⟩)
theorem ag_good {i w : Int} (h : RR M) : Agree X mX8_good mX9_good [vr 0, vi i, vi w] [vr 200, vi i, vi w] M := by
  obtain ⟨n, b, g, L, hR⟩ := id h
  obtain ⟨-, -, ⟨⟨c1, c2, c3⟩, -, -, -, f, -⟩⟩ := hR
  have e15 : (up2 M 200 0 0) 200 15 = (g : Int) := by rw [up2_j (by decide), c3]
  by_cases hi : 0 ≤ i ∧ i < g
  · obtain ⟨k, rfl⟩ : ∃ k : Nat, i = (k : Int) := ⟨i.toNat, by omega⟩
    have hk : k < g := by omega
    have ek : ((k : Int)).toNat = k := by omega
    obtain ⟨⟨f1, -⟩, f2, -⟩ := f k hk
    obtain ⟨V, hV⟩ : ∃ V : Int, V = if w = 0 then M 316 k else if w = 1 then M 317 k else -2 := ⟨_, rfl⟩
    refine Agree.ask0 (r0 := vi V) h ?_ ?_
    · refine kX8_good_0 isGood_n (on ?_)
      refine kX8_good_5 (fun q => ?_) (fun q => absurd (by omega) (b2i_d0.mp q))
      refine kX8_good_10 (fun q => kX8_good_36 (priceOf_n (by omega)) (on (kX8_good_44 ⟨?_, rfl⟩))) (fun q => kX8_good_45 (useOf_n (by omega)) (on (kX8_good_53 ⟨?_, rfl⟩))) (fun q => kX8_good_54 ⟨?_, rfl⟩)
      · rw [hV, q, f1]; rfl
      · rw [hV, q, f2]; rfl
      · rw [hV, if_neg q.1, if_neg q.2]
    · refine kX9_good_0 (h1 := by rw [e15]; omega) in_n (on ?_)
      rw [e15]
      refine kX9_good_18 (fun q => ?_) (fun q => absurd (by omega) (b2i_d0.mp q))
      refine kX9_good_23 (fun q => ?_) (fun q => kX9_good_27 (kX9_good_52 ⟨?_, q0⟩))
      · refine kX9_good_36 (fun q2 => kX9_good_50 (kX9_good_52 ⟨?_, q0⟩)) (fun q2 => kX9_good_41 (kX9_good_52 ⟨?_, q0⟩))
        · rw [hV, if_neg q, if_neg q2]
        · rw [hV, q2, ek, up2_o (by decide)]; rfl
      · rw [hV, q, ek, up2_o (by decide)]; rfl
  · refine Agree.ask0 (r0 := vi (-1)) h ?_ ?_
    · refine kX8_good_0 isGood_n (on ?_)
      exact kX8_good_5 (fun q => absurd (by have := b2i_d1.mp q; omega) hi) (fun q => kX8_good_8 ⟨rfl, rfl⟩)
    · refine kX9_good_0 (h1 := by rw [e15]; omega) in_n (on ?_)
      rw [e15]
      exact kX9_good_18 (fun q => absurd (by have := b2i_d1.mp q; omega) hi) (fun q => kX9_good_21 ⟨rfl, q0⟩)
theorem RR_own {n b g L : Nat} {p : Int} (hR : RRp M n b g L) : own (fun j => M (oC 0) (15 * j + 3)) p n = own (M 310) p n := own_congr (fun t ht => RR_o hR t ht)
theorem RR_setW {n b g L s : Nat} (hR : RRp M n b g L) : setW (xw M) s n = setW (mw M) s n := setW_congr (fun t ht => (RR_w hR t ht).1)
theorem ag_purse {p : Int} (h : RR M) : Agree X mX8_purse mX9_purse [vr 0, vi p] [vr 200, vi p] M := by
  obtain ⟨n, b, g, L, hR⟩ := id h
  have hR0 := RR_quiet hR q0
  have hX := RR_XT hR
  have hN := RR_MT hR0
  have h10 := hX.1
  have hp2 := p2_le h10
  have hlt := own_lt (M 310) p n
  by_cases hi : 0 ≤ p ∧ p < 4
  · refine Agree.ask0 (r0 := vi (setW (mw M) (own (M 310) p n) n)) h ?_ ?_
    · refine kX8_purse_0 isPerson_n (on ?_)
      refine kX8_purse_4 (fun q => absurd hi (b2i_d0.mp q)) (fun q => ?_)
      refine kX8_purse_7 (ownedBy_n (by omega) h10 hX.2.1) (on ?_)
      rw [RR_own hR]
      refine kX8_purse_16 (worthOfSet_n hX (by omega)) (on ?_)
      rw [RR_setW hR]
      exact kX8_purse_19 (kX8_purse_23 ⟨rfl, rfl⟩)
    · refine kX9_purse_0 noOne_n (on ?_)
      refine kX9_purse_9 (fun q => ?_) (fun q => absurd hi (b2i_d1.mp q))
      refine kX9_purse_16 (setOf_n h10 hN.2.1) (on ?_)
      refine kX9_purse_22 (mworthOf_n hN (Nat.lt_of_lt_of_le (own_lt _ _ _) (by omega))) (on ?_)
      exact kX9_purse_25 ⟨rfl, q0⟩
  · refine Agree.ask0 (r0 := vi (-1)) h ?_ ?_
    · refine kX8_purse_0 isPerson_n (on ?_)
      exact kX8_purse_4 (fun q => kX8_purse_22 (kX8_purse_23 ⟨rfl, rfl⟩)) (fun q => absurd (b2i_d1.mp q) hi)
    · refine kX9_purse_0 noOne_n (on ?_)
      exact kX9_purse_9 (fun q => absurd hi (b2i_d0.mp q)) (fun q => kX9_purse_12 (kX9_purse_25 ⟨rfl, q0⟩))
theorem ag_trace {i w : Int} (h : RR M) : Agree X mX8_trace mX9_trace [vr 0, vi i, vi w] [vr 200, vi i, vi w] M := by
  obtain ⟨n, b, g, L, hR⟩ := id h
  obtain ⟨⟨⟨a1, a2, a3⟩, a4, a5⟩, -⟩ := hR
  by_cases hi : 0 ≤ i ∧ i < n
  · obtain ⟨k, rfl⟩ : ∃ k : Nat, i = (k : Int) := ⟨i.toNat, by omega⟩
    have hk : k < n := by omega
    have ek : ((k : Int)).toNat = k := by omega
    obtain ⟨⟨c1, c2, c3, c4, c5, c6⟩, ⟨d1, d2, d3, d4, d5, d6⟩, tr⟩ := a4 k hk
    obtain ⟨V, hV⟩ : ∃ V : Int, V = if 0 ≤ w ∧ w < M 313 k then M 314 (8 * k + w.toNat) else -9 := ⟨_, rfl⟩
    have e313 : (up2 M 200 0 0) 313 ((k : Int)).toNat = M 313 k := by rw [ek, up2_o (by decide)]
    refine Agree.ask0 (r0 := vi V) h ?_ ?_
    · refine kX8_trace_0 (isTooth_n a2) (on ?_)
      refine kX8_trace_5 (fun q => absurd hi (b2i_d0.mp q)) (fun q => ?_)
      refine kX8_trace_8 (traceOf_n (by omega) (by omega) (by omega)) (on ?_)
      refine kX8_trace_17 (kX8_trace_21 ⟨?_, rfl⟩)
      rw [hV, c6]
      split
      · rw [tr _ (by omega)]
      · rfl
    · refine kX9_trace_0 (noTooth_n (by rw [up2_j (by decide)]; exact a3) a1) (on ?_)
      refine kX9_trace_10 (fun q => ?_) (fun q => absurd hi (b2i_d1.mp q))
      refine kX9_trace_15 (h3 := by rw [e313]; omega) in_n (on ?_)
      rw [e313]
      refine kX9_trace_30 (fun q => kX9_trace_47 (kX9_trace_49 ⟨?_, q0⟩)) (fun q => ?_)
      · rw [hV, if_neg (by have := b2i_d0.mp q; omega)]
      · have q2 := b2i_d1.mp q
        refine kX9_trace_33 (kX9_trace_49 ⟨?_, q0⟩)
        rw [hV, if_pos (by omega), show (8 * (k : Int) + w).toNat = 8 * k + w.toNat by omega, up2_o (by decide)]
  · refine Agree.ask0 (r0 := vi (-1)) h ?_ ?_
    · refine kX8_trace_0 (isTooth_n a2) (on ?_)
      exact kX8_trace_5 (fun q => kX8_trace_20 (kX8_trace_21 ⟨rfl, rfl⟩)) (fun q => absurd (b2i_d1.mp q) hi)
    · refine kX9_trace_0 (noTooth_n (by rw [up2_j (by decide)]; exact a3) a1) (on ?_)
      exact kX9_trace_10 (fun q => absurd hi (b2i_d0.mp q)) (fun q => kX9_trace_13 ⟨rfl, q0⟩)
end AQ
