/-! ===== more calls that only ask ===== -/
theorem stoF_bit {M : Mem} : ∀ (n j : Nat), (stoF M n).testBit j = (decide (j < n) && decide (M 312 j < M 309 j))
  | 0, j => by simp [stoF]
  | k + 1, j => by
    have h := stoF_bit (M := M) k j
    unfold stoF
    by_cases hj : j = k
    · subst hj
      split
      next hq => rw [Nat.testBit_or, h]; simp [hq]
      next hq => rw [h]; simp [hq]
    · have e : (decide (j < k + 1)) = decide (j < k) := by
        rw [decide_eq_decide]; omega
      split
      · rw [Nat.testBit_or, h, Nat.testBit_two_pow_of_ne (Ne.symm hj), e, Bool.or_false]
      · rw [h, e]
/-- how much of a tooth's wear is too much, if it is p's, in the model -/
def mtW (M : Mem) (p : Int) (t : Nat) : Int := if M 310 t = p then max 0 (M 309 t - M 312 t) else 0
theorem rgo_code {g d : Nat → Int} {many : Nat} {S : RgT} (h : S.1 < 256) : ∀ c, c ≤ 256 → (rgo g d many S c).1 < 256
  | 0, _ => h
  | c + 1, hc => by
    have ih := rgo_code (g := g) (d := d) (many := many) h c (by omega)
    show (rst g d (rgo g d many S c) c many).1 < 256
    unfold rst
    split
    · show c < 256
      omega
    · exact ih
theorem ringS_code {g d : Nat → Int} : (ringS g d).1 < 256 := rgo_code (rgo_code (rgo_code (by decide) 16 (by decide)) 64 (by decide)) 256 (by decide)
section AR
variable {X : Scr} {M : Mem}
theorem ag_stolen (h : RR M) : Agree X mX8_stolen mX9_stolen [vr 0] [vr 200] M := by
  obtain ⟨n, b, g, L, hR⟩ := id h
  have hN := RR_MT (RR_quiet hR q0)
  obtain ⟨⟨⟨a1, a2, a3⟩, a4, a5⟩, -⟩ := hR
  refine Agree.ask0 (r0 := vi (stoF M n : Nat)) h ?_ ?_
  · refine kX8_stolen_0 ?_
    refine up_loop (n := n) (G := fun k => Runs X mX8_stolen 4 [(0, vr 0), (1, vi ((stoF M k : Nat) : Int)), (2, vi (k : Int))] [] M (fun r M1 => r = some (vi (stoF M n : Nat)) ∧ M1 = M)) ?_ ?_ 0 (Nat.zero_le _)
    · exact kX8_stolen_4 (fun h => kX8_stolen_38 ⟨rfl, rfl⟩) (fun h => by omega)
    · intro k hk ih
      have hlt := stoF_lt (M := M) k
      have hp : (2 : Nat) ^ k ≤ 2 ^ 10 := Nat.pow_le_pow_right (by decide) (by omega)
      obtain ⟨⟨c1, c2, c3, c4, c5, c6⟩, ⟨d1, d2, d3, d4, d5, d6⟩, -⟩ := a4 k hk
      obtain ⟨s1, s2⟩ := a5 k hk
      refine kX8_stolen_4 (fun h => by omega) (fun h => ?_)
      refine kX8_stolen_15 (wearTooMuch_n (by omega) (by omega) (by omega) (by omega)) (on ?_)
      rw [c3, s1]
      refine kX8_stolen_23 (fun h2 => ?_) (fun h2 => ?_)
      · refine kX8_stolen_32 ?_
        rw [cast1]
        have e : stoF M (k + 1) = stoF M k := by
          show (if _ then _ else _) = _
          rw [if_neg (by omega)]
        rw [e] at ih
        exact ih
      · refine kX8_stolen_26 (kX8_stolen_32 ?_)
        rw [cast1, one_shl (by omega), zor_n (by omega) (by omega)]
        have e : stoF M (k + 1) = stoF M k ||| 2 ^ k := by
          show (if _ then _ else _) = _
          rw [if_pos (by omega)]
        rw [e] at ih
        exact ih
  · refine kX9_stolen_0 (stolenSet_n a1 hN.2.1) (on ?_)
    refine kX9_stolen_9 ⟨?_, q0⟩
    have e : ∀ k, stoF (up2 M 200 0 0) k = stoF M k := by
      intro k
      induction k with
      | zero => rfl
      | succ k ih =>
        show (if _ then stoF (up2 M 200 0 0) k ||| 2 ^ k else stoF (up2 M 200 0 0) k) = (if _ then stoF M k ||| 2 ^ k else stoF M k)
        rw [ih]
        rfl
    rw [e]
theorem ag_thief (h : RR M) : Agree X mX8_thief mX9_thief [vr 0] [vr 200] M := by
  obtain ⟨n, b, g, L, hR⟩ := id h
  have hX := RR_XT hR
  have hR0 := RR_quiet hR q0
  have hN := RR_MT hR0
  obtain ⟨⟨⟨a1, a2, a3⟩, a4, a5⟩, -⟩ := hR
  obtain ⟨M0, hM0⟩ : ∃ M0, M0 = up2 M 200 0 0 := ⟨_, rfl⟩
  have e0 : ∀ o, o ≠ 200 → M0 o = M o := fun o ho => by funext j; rw [hM0, up2_o ho]
  have e6 : M0 200 6 = (n : Int) := by rw [hM0]; exact hN.2.1
  have hlt := stoF_lt (M := M0) n
  have hp2 := p2_le a1
  have tb : ∀ p j, j < n → 0 ≤ mtW M p j ∧ mtW M p j ≤ 99 := by
    intro p j hj
    obtain ⟨-, ⟨d1, d2, d3, d4, d5, d6⟩, -⟩ := a4 j hj
    obtain ⟨s1, s2⟩ := a5 j hj
    unfold mtW
    split <;> omega
  have hx : ∀ p, Call X mX6_wearTooMuchOf [vr (oT 0), vi p] M (retI (sumF (mtW M p) n) M) := by
    intro p
    have := wearTooMuchOf_n (X := X) (p := p) (t := 0) (by omega) a1 a2 (fun k hk => ⟨(hX.2.2.2.2 k hk).2.2.1, (hX.2.2.2.2 k hk).2.2.2.2.2.1⟩)
    have e : sumF (tooW M (oC 0) p) n = sumF (mtW M p) n := sumF_congr (fun t ht => by
      unfold tooW mtW
      rw [(a4 t ht).1.2.2.2.1, (a4 t ht).1.2.2.1, (a5 t ht).1])
    rw [e] at this
    exact this
  have hm : ∀ (p most found : Int) (P : Option AV → Mem → Prop), (0 ≤ p ∧ p < 4) → Runs X mX9_thief 90 [(0, vr 200), (1, vi (stoF M0 n : Nat)), (2, vi found), (3, vi most), (4, vi p), (5, vi (sumF (mtW M p) n))] [] M0 P → Runs X mX9_thief 24 [(0, vr 200), (1, vi (stoF M0 n : Nat)), (2, vi found), (3, vi most), (4, vi p)] [] M0 P := by
    intro p most found P hp hk90
    refine kX9_thief_24 ?_
    refine up_loop (n := n) (G := fun k => Runs X mX9_thief 30 [(0, vr 200), (1, vi (stoF M0 n : Nat)), (2, vi found), (3, vi most), (4, vi p), (5, vi (sumF (mtW M p) k)), (6, vi (k : Int))] [] M0 P) ?_ ?_ 0 (Nat.zero_le _)
    · exact kX9_thief_30 (fun q => hk90) (fun q => by omega)
    · intro k hk ih
      have hb := sumF_bound (f := mtW M p) (B := 99) (n := k) (fun j hj => tb p j (by omega))
      have hbk := tb p k hk
      have es : sumF (mtW M p) (k + 1) = sumF (mtW M p) k + mtW M p k := rfl
      have ek : ((k : Int)).toNat = k := by omega
      obtain ⟨-, ⟨d1, d2, d3, d4, d5, d6⟩, -⟩ := a4 k hk
      obtain ⟨s1, s2⟩ := a5 k hk
      have zero : mtW M p k = 0 → Runs X mX9_thief 80 [(0, vr 200), (1, vi (stoF M0 n : Nat)), (2, vi found), (3, vi most), (4, vi p), (6, vi (k : Int))] [vi (sumF (mtW M p) k)] M0 P := by
        intro hz
        rw [es, hz, ← cast1] at ih
        exact kX9_thief_80 (kX9_thief_81 ih)
      refine kX9_thief_30 (fun q => by omega) (fun q => ?_)
      refine kX9_thief_39 (has_n (by omega) (by omega)) (on ?_)
      rw [stoF_bit, e0 312 (by decide), e0 309 (by decide)]
      refine kX9_thief_47 (fun q2 => zero ?_) (fun q2 => ?_)
      · have q3 := b2i_0.mp q2
        simp only [Bool.and_eq_false_iff, decide_eq_false_iff_not] at q3
        unfold mtW
        split <;> omega
      · have q3 := b2i_1.mp q2
        simp only [Bool.and_eq_true, decide_eq_true_eq] at q3
        refine kX9_thief_50 (fun q4 => zero ?_) (fun q4 => ?_)
        · rw [ek, e0 310 (by decide)] at q4
          unfold mtW
          rw [if_neg q4]
        · rw [ek, e0 310 (by decide)] at q4
          have ev : M0 309 ((k : Int)).toNat - M0 312 ((k : Int)).toNat = mtW M p k := by
            rw [ek, e0 309 (by decide), e0 312 (by decide)]
            unfold mtW
            rw [if_pos q4]
            omega
          refine kX9_thief_62 (h3 := by rw [ev]; omega) ?_
          rw [ev]
          refine kX9_thief_81 ?_
          rw [cast1]
          exact ih
  have both : ∀ (d : Nat) (p : Nat) (most found : Int), p + d = 4 → (0 ≤ most ∧ most ≤ 990) → ∃ V : Int, Runs X mX8_thief 7 [(0, vr 0), (1, vi most), (2, vi found), (3, vi (p : Int))] [] M (fun r M1 => r = some (vi V) ∧ M1 = M) ∧ Runs X mX9_thief 18 [(0, vr 200), (1, vi (stoF M0 n : Nat)), (2, vi found), (3, vi most), (4, vi (p : Int))] [] M0 (asks M (vi V)) := by
    intro d
    induction d with
    | zero =>
      intro p most found hd hb
      refine ⟨found, ?_, ?_⟩
      · exact kX8_thief_7 (fun q => kX8_thief_39 ⟨rfl, rfl⟩) (fun q => by omega)
      · exact kX9_thief_18 (fun q => kX9_thief_122 ⟨rfl, by rw [hM0]; exact q0⟩) (fun q => by omega)
    | succ d ih =>
      intro p most found hd hb
      have hs := sumF_bound (f := mtW M (p : Int)) (B := 99) (n := n) (fun j hj => tb p j hj)
      by_cases hgt : most < sumF (mtW M (p : Int)) n
      · obtain ⟨V, v1, v2⟩ := ih (p + 1) (sumF (mtW M (p : Int)) n) (p : Int) (by omega) (by omega)
        refine ⟨V, ?_, ?_⟩
        · refine kX8_thief_7 (fun q => by omega) (fun q => ?_)
          refine kX8_thief_12 (hx _) (on ?_)
          refine kX8_thief_20 (fun q => by omega) (fun q => kX8_thief_28 (kX8_thief_33 ?_))
          rw [cast1]
          exact v1
        · refine kX9_thief_18 (fun q => by omega) (fun q => hm _ _ _ _ (by omega) ?_)
          refine kX9_thief_90 (fun q => by omega) (fun q => kX9_thief_96 (kX9_thief_102 (fun q => by omega) (fun q => kX9_thief_109 (kX9_thief_115 ?_))))
          rw [cast1]
          exact v2
      · obtain ⟨V, v1, v2⟩ := ih (p + 1) most found (by omega) hb
        refine ⟨V, ?_, ?_⟩
        · refine kX8_thief_7 (fun q => by omega) (fun q => ?_)
          refine kX8_thief_12 (hx _) (on ?_)
          refine kX8_thief_20 (fun q => kX8_thief_33 ?_) (fun q => by omega)
          rw [cast1]
          exact v1
        · refine kX9_thief_18 (fun q => by omega) (fun q => hm _ _ _ _ (by omega) ?_)
          refine kX9_thief_90 (fun q => kX9_thief_101 (kX9_thief_102 (fun q => kX9_thief_114 (kX9_thief_115 ?_)) (fun q => by omega))) (fun q => by omega)
          rw [cast1]
          exact v2
  obtain ⟨V, v1, v2⟩ := both 4 0 0 (-9) (by omega) (by omega)
  refine Agree.ask0 (r0 := vi V) h (kX8_thief_0 v1) ?_
  rw [hM0] at v2 e6
  exact kX9_thief_0 (stolenSet_n a1 e6) (on (kX9_thief_9 v2))
-- ===== faults
theorem RR_B {n b g L : Nat} (hR : RRp M n b g L) : ∀ q, q < 72 → 0 ≤ M 301 q ∧ M 301 q ≤ 255 := by
  intro q hq
  rw [hR.2.2.2.2.2.2.2.1 q hq]
  exact bytF_in
theorem RR_flt {n b g L : Nat} (hR : RRp M n b g L) : autF (bytF M) L L 0 0 0 0 0 = fltV M L := by
  have hL := hR.2.2.2.1.1
  exact autF_congr (fun q hq => (hR.2.2.2.2.2.2.2.1 q (by omega)).symm) L 0 0 0 0 0 (by omega)
theorem quiet_Rd {M1 : Mem} (h : keepRd M M1) : quiet M M1 := by
  intro o j hu
  unfold unw at hu
  exact h o j (by omega) (by omega)
theorem ag_fault (h : RR M) : Agree X mX8_fault mX9_fault [vr 0] [vr 200] M := by
  obtain ⟨n, b, g, L, hR⟩ := id h
  have hR0 := RR_quiet hR q0
  refine Agree.ask0 (r0 := vi (fltV M L)) h ?_ ?_
  · refine kX8_fault_0 (faultPlace_n hR.2.2.2.1.1 hR.2.2.2.1.2.1) (on ?_)
    rw [RR_flt hR]
    exact kX8_fault_7 ⟨rfl, rfl⟩
  · refine kX9_fault_0 (mreadMarket_n hR0.2.2.2.1.2.2 hR0.2.2.2.1.1 (RR_B hR0)) ?_
    rintro z M1 ⟨hz, k, -⟩
    cases hz
    exact kX9_fault_9 ⟨rfl, quiet_trans q0 (quiet_Rd k)⟩
-- ===== rings
theorem RR_rates {n b g L : Nat} (hR : RRp M n b g L) : RtR (M (oG 0)) (M (oN 0)) (M 331) (M 332) := hR.2.2.2.2.2.2.2.2.1
theorem quiet_34 {M1 : Mem} (h : ∀ o, o ≠ 34 → M1 o = M o) : quiet M M1 := fun o j hu => by rw [h o (fun z => hu (by unfold unw; omega))]
theorem quiet_G {M1 : Mem} (h : keepG M M1) : quiet M M1 := by
  intro o j hu
  unfold unw at hu
  exact h o j (by omega) (by omega) (by omega)
theorem ag_ring {u : Int} (h : RR M) : Agree X mX8_ring mX9_ring [vr 0, vi u] [vr 200, vi u] M := by
  obtain ⟨n, b, g, L, hR⟩ := id h
  have hrt := RR_rates hR
  have hrx : ∀ k, k < 16 → (1 ≤ M (oG 0) k ∧ M (oG 0) k ≤ 99) ∧ 1 ≤ M (oN 0) k ∧ M (oN 0) k ≤ 99 := fun k hk => by have := hrt k hk; omega
  have hrm : ∀ k, k < 16 → (1 ≤ M 331 k ∧ M 331 k ≤ 99) ∧ 1 ≤ M 332 k ∧ M 332 k ≤ 99 := fun k hk => by have := hrt k hk; omega
  have hS : ringS (M (oG 0)) (M (oN 0)) = ringS (M 331) (M 332) := ringS_congr (fun k hk => by have := hrt k hk; omega)
  obtain ⟨o1, o2, o3, o4⟩ := ringS_ok hrm
  obtain ⟨S, hSd⟩ : ∃ S, S = ringS (M 331) (M 332) := ⟨_, rfl⟩
  rw [← hSd] at hS o1 o2 o3 o4
  obtain ⟨A, hA⟩ : ∃ A : Nat, S.2.2.1 = (A : Int) := ⟨S.2.2.1.toNat, by have := o4.1; omega⟩
  obtain ⟨B, hB⟩ : ∃ B : Nat, S.2.2.2 = (B : Int) := ⟨S.2.2.2.toNat, by omega⟩
  have hBl := o4.2.2
  refine Agree.ask (r0 := vl (fracV A B u)) h ?_ ?_
  · refine kX8_ring_0 (seekRing_n hrx) ?_
    rintro M1 ⟨-, g1, g2⟩
    rw [hS] at g2
    obtain ⟨r1, r2, r3, r4⟩ := g2
    rw [hA] at r3
    rw [hB] at r4
    refine kX8_ring_4 (by rw [r3, r4]; exact ofFraction_n (by omega) (by omega)) (onL ?_)
    exact kX8_ring_22 ⟨rfl, quiet_34 g1⟩
  · intro M1 hq _
    have hq0 := quiet_trans hq (q0 (M := M1))
    have e331 : (up2 M1 200 0 0) 331 = M 331 := quiet_o hq0 (fun j => by unfold unw; omega)
    have e332 : (up2 M1 200 0 0) 332 = M 332 := quiet_o hq0 (fun j => by unfold unw; omega)
    refine kX9_ring_0 (findRing_n (by rw [e331, e332]; exact hrm)) ?_
    rw [e331, e332, ← hSd]
    rintro M2 ⟨-, g1, ⟨r1, r2, r3⟩⟩
    rw [hA] at r1
    rw [hB] at r2
    refine kX9_ring_9 (by rw [r1, r2]; exact told_n (by omega)) (onL ?_)
    exact kX9_ring_21 ⟨rfl, quiet_trans q0 (quiet_G g1)⟩
theorem ag_ringAt {i : Int} (h : RR M) : Agree X mX8_ringAt mX9_ringAt [vr 0, vi i] [vr 200, vi i] M := by
  obtain ⟨n, b, g, L, hR⟩ := id h
  have hrt := RR_rates hR
  have hrx : ∀ k, k < 16 → (1 ≤ M (oG 0) k ∧ M (oG 0) k ≤ 99) ∧ 1 ≤ M (oN 0) k ∧ M (oN 0) k ≤ 99 := fun k hk => by have := hrt k hk; omega
  have hrm : ∀ k, k < 16 → (1 ≤ M 331 k ∧ M 331 k ≤ 99) ∧ 1 ≤ M 332 k ∧ M 332 k ≤ 99 := fun k hk => by have := hrt k hk; omega
  have hS : ringS (M (oG 0)) (M (oN 0)) = ringS (M 331) (M 332) := ringS_congr (fun k hk => by have := hrt k hk; omega)
  obtain ⟨o1, o2, o3, o4⟩ := ringS_ok hrm
  have o5 := ringS_code (g := M 331) (d := M 332)
  obtain ⟨S, hSd⟩ : ∃ S, S = ringS (M 331) (M 332) := ⟨_, rfl⟩
  rw [← hSd] at hS o1 o2 o3 o4 o5
  refine Agree.ask (r0 := vi (if 0 ≤ i ∧ i < S.2.1 then (dg S.1 S.2.1 i.toNat : Nat) else -9)) h ?_ ?_
  · refine kX8_ringAt_0 (seekRing_n hrx) ?_
    rintro M1 ⟨-, g1, g2⟩
    rw [hS] at g2
    obtain ⟨r1, r2, r3, r4⟩ := g2
    refine kX8_ringAt_4 (fun q => kX8_ringAt_19 (kX8_ringAt_42 ⟨?_, quiet_34 g1⟩)) (fun q => ?_)
    · rw [if_neg (by omega)]
    · refine kX8_ringAt_8 (fun q2 => ?_) (fun q2 => kX8_ringAt_19 (kX8_ringAt_42 ⟨?_, quiet_34 g1⟩))
      · obtain ⟨k, rfl⟩ : ∃ k : Nat, i = (k : Int) := ⟨i.toNat, by omega⟩
        rw [r2] at q2
        refine kX8_ringAt_24 (by rw [r1, r2]; exact moneyAt_n (by omega) (by omega) (by omega)) (on ?_)
        refine kX8_ringAt_42 ⟨?_, quiet_34 g1⟩
        rw [if_pos (by omega), show ((k : Int)).toNat = k by omega]
      · rw [if_neg (by omega)]
  · intro M1 hq _
    have hq0 := quiet_trans hq (q0 (M := M1))
    have e331 : (up2 M1 200 0 0) 331 = M 331 := quiet_o hq0 (fun j => by unfold unw; omega)
    have e332 : (up2 M1 200 0 0) 332 = M 332 := quiet_o hq0 (fun j => by unfold unw; omega)
    refine kX9_ringAt_0 (findRing_n (by rw [e331, e332]; exact hrm)) ?_
    rw [e331, e332, ← hSd]
    rintro M2 ⟨-, g1, ⟨r1, r2, r3⟩⟩
    obtain ⟨t1, t2⟩ := r3.resolve_left (by omega)
    have hq2 := quiet_trans (q0 (M := M1)) (quiet_G g1)
    refine kX9_ringAt_9 in_n (on ?_)
    refine kX9_ringAt_22 (fun q => kX9_ringAt_34 (kX9_ringAt_36 ⟨?_, hq2⟩)) (fun q => ?_)
    · have := b2i_d0.mp q
      rw [if_neg (by omega)]
    · have q2 := b2i_d1.mp q
      obtain ⟨k, rfl⟩ : ∃ k : Nat, i = (k : Int) := ⟨i.toNat, by omega⟩
      refine kX9_ringAt_25 (kX9_ringAt_36 ⟨?_, hq2⟩)
      rw [if_pos (by omega), show ((k : Int)).toNat = k by omega, t2 k (by omega)]
end AR
