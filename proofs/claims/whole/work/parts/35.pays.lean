/-! ===== payments: the class's sets and the model's pairs ===== -/
theorem and_bit {a b : Nat} (h : a &&& b = a) (t : Nat) : a.testBit t = true → b.testBit t = true := by
  intro h1
  rw [← h, Nat.testBit_and] at h1
  simp at h1
  exact h1.2
theorem split_W {w : Nat → Int} {m c s : Nat} (hd : ∀ t, ¬ (m.testBit t = true ∧ c.testBit t = true)) (hs : s &&& (m ||| c) = s) : ∀ n, setW (sgn w c) s n = setW w (s &&& m) n - setW w (s &&& c) n
  | 0 => rfl
  | k + 1 => by
    have ih := split_W (w := w) hd hs k
    have hk := hd k
    have hb := and_bit hs k
    rw [Nat.testBit_or] at hb
    unfold setW
    rw [ih, Nat.testBit_and, Nat.testBit_and]
    unfold sgn
    cases h1 : s.testBit k <;> cases h2 : m.testBit k <;> cases h3 : c.testBit k <;> simp_all <;> omega
theorem split_P {m c s : Nat} (hd : ∀ t, ¬ (m.testBit t = true ∧ c.testBit t = true)) (hs : s &&& (m ||| c) = s) : ∀ n, popN s n = popN (s &&& m) n + popN (s &&& c) n
  | 0 => rfl
  | k + 1 => by
    have ih := split_P hd hs k
    have hk := hd k
    have hb := and_bit hs k
    rw [Nat.testBit_or] at hb
    unfold popN
    rw [ih, Nat.testBit_and, Nat.testBit_and]
    cases h1 : s.testBit k <;> cases h2 : m.testBit k <;> cases h3 : c.testBit k <;> simp_all <;> omega
theorem CF_PF {w : Nat → Int} {m c n : Nat} {price : Int} (hm : m < 2 ^ n) (hc : c < 2 ^ n) (hd : ∀ t, ¬ (m.testBit t = true ∧ c.testBit t = true)) : ∀ k a b, CF w m c n price (2 ^ n) k a b ↔ PF w m c n price k a b := by
  intro k a b
  constructor
  · rintro ⟨s, h1, h2, h3, h4, h5, h6⟩
    rw [split_W hd h2] at h3
    have h7 := split_P hd h2 10
    refine ⟨s &&& m, s &&& c, ?_, ?_, ?_, h3, by rw [h4, h7], h5, h6⟩
    · rw [Nat.and_assoc, Nat.and_self]
    · rw [Nat.and_assoc, Nat.and_self]
    · have : s &&& m ≤ m := Nat.and_le_right
      omega
  · rintro ⟨x, y, h1, h2, h3, h4, h5, h6, h7⟩
    have hx := sub_le h1
    have hy := sub_le h2
    have em : (x ||| y) &&& m = x := by
      apply Nat.eq_of_testBit_eq
      intro i
      have a1 := and_bit h1 i
      have a2 := and_bit h2 i
      have a3 := hd i
      rw [Nat.testBit_and, Nat.testBit_or]
      cases q1 : x.testBit i <;> cases q2 : y.testBit i <;> cases q3 : m.testBit i <;> cases q4 : c.testBit i <;> simp_all
    have ec : (x ||| y) &&& c = y := by
      apply Nat.eq_of_testBit_eq
      intro i
      have a1 := and_bit h1 i
      have a2 := and_bit h2 i
      have a3 := hd i
      rw [Nat.testBit_and, Nat.testBit_or]
      cases q1 : x.testBit i <;> cases q2 : y.testBit i <;> cases q3 : m.testBit i <;> cases q4 : c.testBit i <;> simp_all
    have es : (x ||| y) &&& (m ||| c) = x ||| y := by rw [Nat.and_or_distrib_left, em, ec]
    have hw := split_W (w := w) hd es n
    have hp := split_P hd es 10
    rw [em, ec] at hw hp
    refine ⟨x ||| y, Nat.or_lt_two_pow (by omega) (by omega), es, by rw [hw]; exact h4, by rw [hp]; exact h5, by rw [em]; exact h6, by rw [ec]; exact h7⟩
theorem own_disj {ow : Nat → Int} {p q : Int} {n : Nat} (h : p ≠ q) : ∀ t, ¬ ((own ow p n).testBit t = true ∧ (own ow q n).testBit t = true) := by
  intro t
  rw [own_bit, own_bit]
  simp only [Bool.and_eq_true, decide_eq_true_eq]
  omega
theorem CF_congr {w w' : Nat → Int} {m c n lim : Nat} {price : Int} (h : ∀ t, t < n → w t = w' t) : ∀ k a b, CF w m c n price lim k a b ↔ CF w' m c n price lim k a b := by
  have e : ∀ s, setW (sgn w c) s n = setW (sgn w' c) s n := fun s => setW_congr (fun t ht => by unfold sgn; rw [h t ht])
  intro k a b
  unfold CF
  simp only [e]
theorem CT_congr {w w' : Nat → Int} {m n lim : Nat} {price : Int} (h : ∀ t, t < n → w t = w' t) : ∀ k a b, CT w m n price lim k a b ↔ CT w' m n price lim k a b := by
  have e : ∀ s, setW w s n = setW w' s n := fun s => setW_congr h
  intro k a b
  unfold CT
  simp only [e]
theorem quiet_keep2 {M M1 : Mem} (h : keep2 M M1) (h0 : M 35 0 = 0) : quiet M M1 := by
  intro o j hu
  by_cases ho : o = 35
  · subst ho
    have : j = 0 := by
      by_cases hj : j = 0
      · exact hj
      · exact absurd (show unw 35 j by unfold unw; omega) hu
    subst this
    rw [h.2, h0]
  · rw [h.1 o (fun z => hu (by unfold unw; omega)) ho]
theorem quiet_keepM {M M1 : Mem} (h : keepM M M1) : quiet M M1 := by
  intro o j hu
  refine h o j ?_
  unfold unw at hu
  omega
section AP
variable {X : Scr} {M : Mem}
/-- what a search for the fewest leaves in the class -/
theorem seekFewest_q {n b g L : Nat} {p q price : Int} (hR : RRp M n b g L) (hpq : p ≠ q) : Call X mX8_seekFewest [vr 0, vi p, vi q, vi price] M (fun r M1 => r = none ∧ quiet M M1 ∧ LM (PF (mw M) (own (M 310) p n) (own (M 310) q n) n price) M1) := by
  have hX := RR_XT hR
  have h0 : M 35 0 = 0 := hR.2.2.2.2.2.2.2.2.2.1
  refine (seekFewest_n (p := p) (q := q) (price := price) hX h0).mono ?_
  rintro r M1 ⟨h1, h2, h3⟩
  refine ⟨h1, quiet_keep2 h2 h0, ?_⟩
  have e1 : own (xo M) p n = own (M 310) p n := own_congr (fun t ht => RR_o hR t ht)
  have e2 : own (xo M) q n = own (M 310) q n := own_congr (fun t ht => RR_o hR t ht)
  rw [e1, e2] at h3
  refine LM_eq h3 rfl (fun k a b => ?_)
  rw [← CF_PF (own_lt _ _ _) (own_lt _ _ _) (own_disj hpq)]
  exact (CF_congr (fun t ht => (RR_w hR t ht).1) k a b).symm
/-- the same search in the model, right behind -/
theorem findFewest_q {n b g L : Nat} {p q price : Int} {M0 : Mem} (hR : RRp M n b g L) (hq : quiet M0 M) (hp : 0 ≤ price ∧ price ≤ 999) : Call X mX9_findFewest [vr 200, vi p, vi q, vi price] M (fun r M1 => ∃ z, r = some (vi z) ∧ keepM M M1 ∧ LB (PF (mw M0) (own (M0 310) p n) (own (M0 310) q n) n price) z (M1 200 39) (M1 200 40)) := by
  have hN := RR_MT hR
  have e : ∀ o, (306 < o ∧ o < 315) → M o = M0 o := fun o ho => quiet_o hq (fun j => by unfold unw; omega)
  have e4 : M 200 4 = M0 200 4 := hq 200 4 (by unfold unw; omega)
  have e5 : M 200 5 = M0 200 5 := hq 200 5 (by unfold unw; omega)
  have ew : mw M = mw M0 := by
    funext t
    unfold mw mwb
    rw [e4, e5, e 307 (by omega), e 308 (by omega), e 309 (by omega)]
  have := findFewest_n (X := X) (p := p) (q := q) hN hp
  rw [ew, e 310 (by omega)] at this
  exact this
theorem ag_fewest {p q s : Int} (h : RR M) : Agree X mX8_fewest mX9_fewest [vr 0, vi p, vi q, vi s] [vr 200, vi p, vi q, vi s] M := by
  obtain ⟨n, b, g, L, hR⟩ := id h
  by_cases hn : noPayV p q s = 0
  · obtain ⟨p1, p2, p3, p4⟩ := noPayV_0.mp hn
    refine ⟨fun r M1 => ∃ z, r = some (vi z) ∧ quiet M M1 ∧ ∃ a c, (z = -9 ∧ ∀ k a b, ¬ PF (mw M) (own (M 310) p n) (own (M 310) q n) n s k a b) ∨ (z ≠ -9 ∧ PF (mw M) (own (M 310) p n) (own (M 310) q n) n s z a c ∧ ∀ k' a' b', PF (mw M) (own (M 310) p n) (own (M 310) q n) n s k' a' b' → lexle z a c k' a' b'), ?_, ?_⟩
    · refine kX8_fewest_0 payRef_n (on ?_)
      refine kX8_fewest_6 (fun _ => ?_) (fun q => absurd hn q)
      refine kX8_fewest_16 (seekFewest_q hR p3) ?_
      rintro M1 ⟨-, g1, g2⟩
      refine kX8_fewest_23 (fun h0 => kX8_fewest_43 (kX8_fewest_45 ?_)) (fun h0 => kX8_fewest_33 (kX8_fewest_45 ?_))
      · rcases g2 with ⟨r1, r2⟩ | ⟨r1, r2, r3⟩
        · exact ⟨-9, rfl, g1, 0, 0, Or.inl ⟨rfl, r2⟩⟩
        · exact absurd h0 r1
      · rcases g2 with ⟨r1, r2⟩ | ⟨r1, r2, r3⟩
        · exact absurd r1 h0
        · refine ⟨_, rfl, g1, M1 33 2, M1 33 3, Or.inr ⟨?_, r2, r3⟩⟩
          have := (PD_in r2).1
          omega
    · rintro r M1 ⟨z, rfl, hq, a, c, hz⟩
      have hR1 := RR_quiet hR hq
      have hq0 := quiet_trans hq (q0 (M := M1))
      have hR2 := RR_quiet hR1 (q0 (M := M1))
      refine kX9_fewest_0 noPay_n (on ?_)
      refine kX9_fewest_11 (fun _ => ?_) (fun q => absurd hn q)
      refine kX9_fewest_23 (findFewest_q hR2 hq0 p4) ?_
      rintro z2 M2 ⟨z3, hz3, k3, hL⟩
      cases hz3
      refine kX9_fewest_30 ⟨?_, n, b, g, L, RR_quiet hR2 (quiet_keepM k3)⟩
      congr 2
      rcases hz with ⟨r1, r2⟩ | ⟨r1, r2, r3⟩
      · rcases hL with ⟨q1, q2⟩ | ⟨q1, q2, q3⟩
        · rw [q1, r1]
        · exact absurd q2 (r2 _ _ _)
      · rcases hL with ⟨q1, q2⟩ | ⟨q1, q2, q3⟩
        · exact absurd r2 (q2 _ _ _)
        · have u1 := q3 _ _ _ r2
          have u2 := r3 _ _ _ q2
          unfold lexle at u1 u2
          omega
  · refine Agree.ask0 (r0 := vi (noPayV p q s)) h ?_ ?_
    · refine kX8_fewest_0 payRef_n (on ?_)
      exact kX8_fewest_6 (fun q => absurd q hn) (fun _ => kX8_fewest_13 ⟨rfl, rfl⟩)
    · refine kX9_fewest_0 noPay_n (on ?_)
      exact kX9_fewest_11 (fun q => absurd q hn) (fun _ => kX9_fewest_18 (kX9_fewest_30 ⟨rfl, q0⟩))
theorem ag_paid {p q s c : Int} (h : RR M) : Agree X mX8_paid mX9_paid [vr 0, vi p, vi q, vi s, vi c] [vr 200, vi p, vi q, vi s, vi c] M := by
  obtain ⟨n, b, g, L, hR⟩ := id h
  by_cases hn : noPayV p q s = 0
  · obtain ⟨p1, p2, p3, p4⟩ := noPayV_0.mp hn
    refine ⟨fun r M1 => quiet M M1 ∧ LM (PF (mw M) (own (M 310) p n) (own (M 310) q n) n s) M1 ∧ r = some (vi (if M1 33 0 = 0 then -9 else if c = 0 then M1 33 2 else M1 33 3)), ?_, ?_⟩
    · refine kX8_paid_0 payRef_n (on ?_)
      refine kX8_paid_6 (fun _ => ?_) (fun q => absurd hn q)
      refine kX8_paid_16 (seekFewest_q hR p3) ?_
      rintro M1 ⟨-, g1, g2⟩
      refine kX8_paid_23 (fun h0 => ?_) (fun h0 => kX8_paid_33 ⟨g1, g2, by rw [if_pos h0]⟩)
      refine kX8_paid_36 (fun hc => kX8_paid_51 (kX8_paid_58 ⟨g1, g2, ?_⟩)) (fun hc => kX8_paid_41 (kX8_paid_58 ⟨g1, g2, ?_⟩))
      · rw [if_neg h0, if_pos hc]
      · rw [if_neg h0, if_neg hc]
    · rintro r M1 ⟨hq, hL, rfl⟩
      have hR1 := RR_quiet hR hq
      have hq0 := quiet_trans hq (q0 (M := M1))
      have hR2 := RR_quiet hR1 (q0 (M := M1))
      refine kX9_paid_0 noPay_n (on ?_)
      refine kX9_paid_11 (fun _ => ?_) (fun q => absurd hn q)
      refine kX9_paid_21 (findFewest_q hR2 hq0 p4) ?_
      rintro z2 M2 ⟨z3, hz3, k3, hL2⟩
      cases hz3
      have hRR := RR_quiet hR2 (quiet_keepM k3)
      rcases LB_LM hL2 hL (fun _ _ _ => Iff.rfl) with ⟨u1, u2⟩ | ⟨u1, u2, u3, u4, u5⟩
      · refine kX9_paid_28 (fun q => absurd u1 q) (fun _ => kX9_paid_33 (kX9_paid_54 ⟨?_, n, b, g, L, hRR⟩))
        rw [if_pos u2]
      · refine kX9_paid_28 (fun _ => ?_) (fun q => absurd q u1)
        refine kX9_paid_38 (fun hc => kX9_paid_50 (kX9_paid_54 ⟨?_, n, b, g, L, hRR⟩)) (fun hc => kX9_paid_43 (kX9_paid_54 ⟨?_, n, b, g, L, hRR⟩))
        · rw [if_neg u2, if_pos hc, u4]
        · rw [if_neg u2, if_neg hc, u5]
  · refine Agree.ask0 (r0 := vi (noPayV p q s)) h ?_ ?_
    · refine kX8_paid_0 payRef_n (on ?_)
      exact kX8_paid_6 (fun q => absurd q hn) (fun _ => kX8_paid_13 ⟨rfl, rfl⟩)
    · refine kX9_paid_0 noPay_n (on ?_)
      exact kX9_paid_11 (fun q => absurd q hn) (fun _ => kX9_paid_18 ⟨rfl, q0⟩)
theorem ag_tooMuch {p s c : Int} (h : RR M) : Agree X mX8_tooMuch mX9_tooMuch [vr 0, vi p, vi s, vi c] [vr 200, vi p, vi s, vi c] M := by
  obtain ⟨n, b, g, L, hR⟩ := id h
  have hX := RR_XT hR
  have h10 := hX.1
  by_cases hp : 0 ≤ p ∧ p < 4
  · by_cases hs : 0 ≤ s ∧ s ≤ 999
    · have h0 : M 35 0 = 0 := hR.2.2.2.2.2.2.2.2.2.1
      refine ⟨fun r M1 => quiet M M1 ∧ LM (CT (mw M) (own (M 310) p n) n s (2 ^ n)) M1 ∧ r = some (vi (if M1 33 0 = 0 then -9 else if c = 0 then M1 33 1 else M1 33 3)), ?_, ?_⟩
      · refine kX8_tooMuch_0 isPerson_n (on ?_)
        refine kX8_tooMuch_4 (fun _ => ?_) (fun q => absurd hp (b2i_d0.mp q))
        refine kX8_tooMuch_9 isPrice_n (on ?_)
        refine kX8_tooMuch_13 (fun _ => ?_) (fun q => absurd hs (b2i_d0.mp q))
        refine kX8_tooMuch_19 (ownedBy_n (by omega) h10 hX.2.1) (on ?_)
        rw [RR_own hR]
        refine kX8_tooMuch_28 (seekTooMuch_n hX h0 (own_lt _ _ _)) ?_
        rintro M1 ⟨-, g1, g2⟩
        have g1' := quiet_keep2 g1 h0
        have g2' : LM (CT (mw M) (own (M 310) p n) n s (2 ^ n)) M1 := LM_eq g2 rfl (fun k a b => (CT_congr (fun t ht => (RR_w hR t ht).1) k a b).symm)
        refine kX8_tooMuch_32 (fun q => ?_) (fun q => kX8_tooMuch_42 ⟨g1', g2', by rw [if_pos q]⟩)
        refine kX8_tooMuch_45 (fun hc => kX8_tooMuch_59 (kX8_tooMuch_66 ⟨g1', g2', ?_⟩)) (fun hc => kX8_tooMuch_49 (kX8_tooMuch_66 ⟨g1', g2', ?_⟩))
        · rw [if_neg q, if_pos hc]
        · rw [if_neg q, if_neg hc]
      · rintro r M1 ⟨hq, hL, rfl⟩
        have hR1 := RR_quiet hR hq
        have hq0 := quiet_trans hq (q0 (M := M1))
        have hR2 := RR_quiet hR1 (q0 (M := M1))
        have hN := RR_MT hR2
        have e : ∀ o, (306 < o ∧ o < 315) → (up2 M1 200 0 0) o = M o := fun o ho => quiet_o hq0 (fun j => by unfold unw; omega)
        have ew : mw (up2 M1 200 0 0) = mw M := by
          funext t
          unfold mw mwb
          rw [hq0 200 4 (by unfold unw; omega), hq0 200 5 (by unfold unw; omega), e 307 (by omega), e 308 (by omega), e 309 (by omega)]
        refine kX9_tooMuch_0 noOne_n (on ?_)
        refine kX9_tooMuch_9 (fun _ => ?_) (fun q => absurd hp (b2i_d1.mp q))
        refine kX9_tooMuch_14 in_n (on ?_)
        refine kX9_tooMuch_23 (fun _ => ?_) (fun q => absurd hs (b2i_d0.mp q))
        refine kX9_tooMuch_29 (findMuch_n hN hs) ?_
        rw [ew, e 310 (by omega)]
        rintro z2 M2 ⟨z3, a3, hz3, k3, hL2⟩
        cases hz3
        have hRR := RR_quiet hR2 (quiet_keepM k3)
        rcases LB_LM hL2 hL (fun _ _ _ => Iff.rfl) with ⟨u1, u2⟩ | ⟨u1, u2, u3, u4, u5⟩
        · refine kX9_tooMuch_35 (fun _ => kX9_tooMuch_48 (kX9_tooMuch_57 ⟨?_, n, b, g, L, hRR⟩)) (fun q => absurd u1 q)
          rw [if_pos u2, u1]
        · refine kX9_tooMuch_35 (fun q => absurd q u1) (fun _ => ?_)
          refine kX9_tooMuch_44 (fun hc => kX9_tooMuch_53 (kX9_tooMuch_57 ⟨?_, n, b, g, L, hRR⟩)) (fun hc => kX9_tooMuch_48 (kX9_tooMuch_57 ⟨?_, n, b, g, L, hRR⟩))
          · rw [if_neg u2, if_neg hc, u5]
          · rw [if_neg u2, if_pos hc, u3]
    · refine Agree.ask0 (r0 := vi (-2)) h ?_ ?_
      · refine kX8_tooMuch_0 isPerson_n (on ?_)
        refine kX8_tooMuch_4 (fun _ => ?_) (fun q => absurd hp (b2i_d0.mp q))
        refine kX8_tooMuch_9 isPrice_n (on ?_)
        exact kX8_tooMuch_13 (fun q => absurd (b2i_d1.mp q) hs) (fun q => kX8_tooMuch_16 ⟨rfl, rfl⟩)
      · refine kX9_tooMuch_0 noOne_n (on ?_)
        refine kX9_tooMuch_9 (fun _ => ?_) (fun q => absurd hp (b2i_d1.mp q))
        refine kX9_tooMuch_14 in_n (on ?_)
        exact kX9_tooMuch_23 (fun q => absurd (b2i_d1.mp q) hs) (fun q => kX9_tooMuch_26 ⟨rfl, q0⟩)
  · refine Agree.ask0 (r0 := vi (-1)) h ?_ ?_
    · refine kX8_tooMuch_0 isPerson_n (on ?_)
      exact kX8_tooMuch_4 (fun q => absurd (b2i_d1.mp q) hp) (fun q => kX8_tooMuch_7 ⟨rfl, rfl⟩)
    · refine kX9_tooMuch_0 noOne_n (on ?_)
      exact kX9_tooMuch_9 (fun q => absurd hp (b2i_d0.mp q)) (fun q => kX9_tooMuch_12 ⟨rfl, q0⟩)
-- ===== life
theorem ag_life {i m : Int} (h : RR M) : Agree X mX8_life mX9_life [vr 0, vi i, vi m] [vr 200, vi i, vi m] M := by
  obtain ⟨n, b, g, L, hR⟩ := id h
  have hR0 := RR_quiet hR q0
  have hX := RR_XT hR
  have hN := RR_MT hR0
  have hw := RR_w hR
  obtain ⟨⟨⟨a1, a2, a3⟩, a4, a5⟩, -⟩ := hR
  by_cases hi : 0 ≤ i ∧ i < n
  · obtain ⟨k, rfl⟩ : ∃ k : Nat, i = (k : Int) := ⟨i.toNat, by omega⟩
    have hk : k < n := by omega
    have ek : ((k : Int)).toNat = k := by omega
    obtain ⟨⟨c1, c2, c3, c4, c5, c6⟩, ⟨d1, d2, d3, d4, d5, d6⟩, -⟩ := a4 k hk
    have e309 : (up2 M 200 0 0) 309 ((k : Int)).toNat = M 309 k := by rw [ek, up2_o (by decide)]
    by_cases hm : 1 ≤ m ∧ m ≤ 999
    · by_cases hlow : mw M k < m
      · refine Agree.ask0 (r0 := vi (-9)) h ?_ ?_
        · refine kX8_life_0 (isTooth_n a2) (on ?_)
          refine kX8_life_5 (fun q => ?_) (fun q => absurd hi (b2i_d0.mp q))
          refine kX8_life_10 (fun q => by omega) (fun q => kX8_life_15 (fun q => ?_) (fun q => by omega))
          refine kX8_life_25 (get_n (c := 2) (by omega) (by omega) (by omega)) (on ?_)
          refine kX8_life_34 (worthWorn_n hX hk (by omega)) (on ?_)
          have e : xwb M k (M (oC 0) (15 * k + 2)) = mw M k := by rw [(hw k hk).2, c3]; rfl
          rw [e]
          exact kX8_life_41 (fun q => by omega) (fun q => kX8_life_45 ⟨rfl, rfl⟩)
        · refine kX9_life_0 (noTooth_n (by rw [up2_j (by decide)]; exact a3) a1) (on ?_)
          refine kX9_life_10 (fun q => ?_) (fun q => absurd hi (b2i_d1.mp q))
          refine kX9_life_15 in_n (on ?_)
          refine kX9_life_24 (fun q => ?_) (fun q => absurd hm (b2i_d0.mp q))
          refine kX9_life_30 (worth_n hN hk) (on ?_)
          have e : mw (up2 M 200 0 0) k = mw M k := rfl
          rw [e]
          exact kX9_life_35 (fun q => by omega) (fun q => kX9_life_39 ⟨rfl, q0⟩)
      · obtain ⟨W, hW⟩ : ∃ W : Nat, M 309 k = (W : Int) := ⟨(M 309 k).toNat, by omega⟩
        -- both say the same from here on
        have both : ∀ (j d : Nat), W + j + d = 99 → ∃ V : Int, Runs X mX8_life 51 [(0, vr 0), (1, vi (k : Int)), (2, vi m), (3, vi (W : Int)), (4, vi ((j + 1 : Nat) : Int))] [] M (fun r M1 => r = some (vi V) ∧ M1 = M) ∧ Runs X mX9_life 49 [(0, vr 200), (1, vi (k : Int)), (2, vi m), (3, vi ((W + j : Nat) : Int))] [] (up2 M 200 0 0) (asks M (vi V)) := by
          intro j d
          induction d generalizing j with
          | zero =>
            intro hd
            refine ⟨999, ?_, ?_⟩
            · exact kX8_life_51 (fun q => kX8_life_84 ⟨rfl, rfl⟩) (fun q => by omega)
            · exact kX9_life_49 (fun q => kX9_life_73 (fun q2 => by omega) (fun q2 => kX9_life_79 (kX9_life_93 ⟨rfl, q0⟩))) (fun q => by omega)
          | succ d ih =>
            intro hd
            have ew : ((W + j : Nat) : Int) + 1 = (W : Int) + ((j + 1 : Nat) : Int) := by omega
            have e1 : mwb (up2 M 200 0 0) k ((W + j : Nat) + 1) = mwb M k ((W : Int) + ((j + 1 : Nat) : Int)) := by rw [ew]; rfl
            have e2 : xwb M k ((W : Int) + ((j + 1 : Nat) : Int)) = mwb M k ((W : Int) + ((j + 1 : Nat) : Int)) := (hw k hk).2 _
            by_cases hge : m ≤ mwb M k ((W : Int) + ((j + 1 : Nat) : Int))
            · obtain ⟨V, v1, v2⟩ := ih (j + 1) (by omega)
              refine ⟨V, ?_, ?_⟩
              · refine kX8_life_51 (fun q => by omega) (fun q => ?_)
                refine kX8_life_60 (worthWorn_n hX hk (by omega)) (on ?_)
                rw [e2]
                refine kX8_life_69 (fun q2 => kX8_life_78 ?_) (fun q2 => by omega)
                rw [cast1]
                exact v1
              · refine kX9_life_49 (fun q => by omega) (fun q => ?_)
                refine kX9_life_55 (worthBy_n hN hk (by omega)) (on ?_)
                rw [e1]
                refine kX9_life_63 (fun q2 => by omega) (fun q2 => kX9_life_67 ?_)
                rw [cast1]
                exact v2
            · refine ⟨(j : Int), ?_, ?_⟩
              · refine kX8_life_51 (fun q => by omega) (fun q => ?_)
                refine kX8_life_60 (worthWorn_n hX hk (by omega)) (on ?_)
                rw [e2]
                refine kX8_life_69 (fun q2 => by omega) (fun q2 => kX8_life_73 ⟨?_, rfl⟩)
                rw [show ((j + 1 : Nat) : Int) - 1 = j by omega]
              · refine kX9_life_49 (fun q => by omega) (fun q => ?_)
                refine kX9_life_55 (worthBy_n hN hk (by omega)) (on ?_)
                rw [e1]
                refine kX9_life_63 (fun q2 => ?_) (fun q2 => by omega)
                refine kX9_life_73 (fun q3 => kX9_life_85 (h3 := by rw [e309]; omega) (kX9_life_93 ⟨?_, q0⟩)) (fun q3 => by omega)
                rw [e309, hW, show ((W + j : Nat) : Int) - (W : Int) = j by omega]
        obtain ⟨V, v1, v2⟩ := both 0 (99 - W) (by omega)
        refine Agree.ask0 (r0 := vi V) h ?_ ?_
        · refine kX8_life_0 (isTooth_n a2) (on ?_)
          refine kX8_life_5 (fun q => ?_) (fun q => absurd hi (b2i_d0.mp q))
          refine kX8_life_10 (fun q => by omega) (fun q => kX8_life_15 (fun q => ?_) (fun q => by omega))
          refine kX8_life_25 (get_n (c := 2) (by omega) (by omega) (by omega)) (on ?_)
          refine kX8_life_34 (worthWorn_n hX hk (by omega)) (on ?_)
          have e : xwb M k (M (oC 0) (15 * k + 2)) = mw M k := by rw [(hw k hk).2, c3]; rfl
          rw [e, c3, hW]
          exact kX8_life_41 (fun q => kX8_life_48 v1) (fun q => by omega)
        · refine kX9_life_0 (noTooth_n (by rw [up2_j (by decide)]; exact a3) a1) (on ?_)
          refine kX9_life_10 (fun q => ?_) (fun q => absurd hi (b2i_d1.mp q))
          refine kX9_life_15 in_n (on ?_)
          refine kX9_life_24 (fun q => ?_) (fun q => absurd hm (b2i_d0.mp q))
          refine kX9_life_30 (worth_n hN hk) (on ?_)
          have e : mw (up2 M 200 0 0) k = mw M k := rfl
          rw [e]
          refine kX9_life_35 (fun q => kX9_life_42 ?_) (fun q => by omega)
          rw [e309, hW]
          exact v2
    · refine Agree.ask0 (r0 := vi (-2)) h ?_ ?_
      · refine kX8_life_0 (isTooth_n a2) (on ?_)
        refine kX8_life_5 (fun q => ?_) (fun q => absurd hi (b2i_d0.mp q))
        refine kX8_life_10 (fun q => kX8_life_22 ⟨rfl, rfl⟩) (fun q => kX8_life_15 (fun q => by omega) (fun q => kX8_life_22 ⟨rfl, rfl⟩))
      · refine kX9_life_0 (noTooth_n (by rw [up2_j (by decide)]; exact a3) a1) (on ?_)
        refine kX9_life_10 (fun q => ?_) (fun q => absurd hi (b2i_d1.mp q))
        refine kX9_life_15 in_n (on ?_)
        exact kX9_life_24 (fun q => absurd (b2i_d1.mp q) hm) (fun q => kX9_life_27 ⟨rfl, q0⟩)
  · refine Agree.ask0 (r0 := vi (-1)) h ?_ ?_
    · refine kX8_life_0 (isTooth_n a2) (on ?_)
      exact kX8_life_5 (fun q => absurd (b2i_d1.mp q) hi) (fun q => kX8_life_8 ⟨rfl, rfl⟩)
    · refine kX9_life_0 (noTooth_n (by rw [up2_j (by decide)]; exact a3) a1) (on ?_)
      exact kX9_life_10 (fun q => absurd hi (b2i_d0.mp q)) (fun q => kX9_life_13 ⟨rfl, q0⟩)
-- ===== prices inflated
theorem ag_inflated {i z : Int} (h : RR M) : Agree X mX8_inflated mX9_inflated [vr 0, vi i, vi z] [vr 200, vi i, vi z] M := by
  obtain ⟨n, b, g, L, hR⟩ := id h
  have hR0 := RR_quiet hR q0
  have hX := RR_XT hR
  have hN := RR_MT hR0
  have h10 := hX.1
  have hp2 := p2_le h10
  have hp1 : 0 < 2 ^ n := Nat.two_pow_pos n
  have hsw := RR_setW (s := 2 ^ n - 1) hR
  have hb := setW_bound (w := mw M) (s := 2 ^ n - 1) (B := 810) (n := n) (fun t ht => by have := mw_in (RR_MT hR) ht; exact this) (by decide)
  have e6 : (up2 M 200 0 0) 200 6 = (n : Int) := hN.2.1
  have ez : zshl (1 : Int) ((up2 M 200 0 0) 200 6) - 1 = ((2 ^ n - 1 : Nat) : Int) := by rw [e6, one_shl (by omega)]; omega
  obtain ⟨-, -, ⟨⟨c1, c2, c3⟩, -, -, -, f, -⟩⟩ := hR
  have e15 : (up2 M 200 0 0) 200 15 = (g : Int) := by rw [up2_j (by decide), c3]
  by_cases hi : 0 ≤ i ∧ i < g
  · obtain ⟨k, rfl⟩ : ∃ k : Nat, i = (k : Int) := ⟨i.toNat, by omega⟩
    have hk : k < g := by omega
    have ek : ((k : Int)).toNat = k := by omega
    have e316 : (up2 M 200 0 0) 316 ((k : Int)).toNat = M 316 k := by rw [ek, up2_o (by decide)]
    obtain ⟨⟨f1, f3⟩, f2⟩ := f k hk
    by_cases hz : 0 ≤ z ∧ z ≤ 9999
    · obtain ⟨A, hA⟩ : ∃ A, A = setW (mw M) (2 ^ n - 1) n := ⟨_, rfl⟩
      rw [← hA] at hsw hb
      have hmul := mulb (a := M 316 k) (b := A + z) (A := 99) (B := 18099) (by omega) (by omega)
      refine Agree.ask0 (r0 := vi (if A = 0 then -3 else M 316 k * (A + z) / A)) h ?_ ?_
      · refine kX8_inflated_0 isGood_n (on ?_)
        refine kX8_inflated_5 (fun q => ?_) (fun q => absurd (by omega) (b2i_d0.mp q))
        refine kX8_inflated_10 (fun q => by omega) (fun q => kX8_inflated_14 (fun q => ?_) (fun q => by omega))
        refine kX8_inflated_24 (setsOf_n hX.2.1 h10) (on ?_)
        refine kX8_inflated_29 (by rw [show ((2 ^ n : Nat) : Int) - 1 = ((2 ^ n - 1 : Nat) : Int) by omega]; exact worthOfSet_n hX (by omega)) (on ?_)
        rw [hsw]
        refine kX8_inflated_34 (fun q => ?_) (fun q => kX8_inflated_39 ⟨?_, rfl⟩)
        · refine kX8_inflated_42 (priceOf_n (by omega)) (on ?_)
          rw [f1]
          refine kX8_inflated_50 ⟨?_, rfl⟩
          rw [if_neg (by omega)]
        · rw [if_pos (by omega)]
      · refine kX9_inflated_0 (h1 := by rw [e15]; omega) in_n (on ?_)
        rw [e15]
        refine kX9_inflated_18 (fun q => ?_) (fun q => absurd (by omega) (b2i_d0.mp q))
        refine kX9_inflated_23 in_n (on ?_)
        refine kX9_inflated_32 (fun q => ?_) (fun q => absurd hz (b2i_d0.mp q))
        refine kX9_inflated_38 (h1 := by rw [ez]; omega) (by rw [ez]; exact mworthOf_n hN (by omega)) (on ?_)
        have e : setW (mw (up2 M 200 0 0)) (2 ^ n - 1) n = A := hA.symm
        rw [e]
        refine kX9_inflated_50 (fun q => ?_) (fun q => kX9_inflated_55 (kX9_inflated_72 ⟨?_, q0⟩))
        · refine kX9_inflated_60 (h4 := by rw [e316]; omega) (h5 := by rw [e316]; omega) (kX9_inflated_72 ⟨?_, q0⟩)
          rw [e316, if_neg q]
        · rw [if_pos q]
    · refine Agree.ask0 (r0 := vi (-2)) h ?_ ?_
      · refine kX8_inflated_0 isGood_n (on ?_)
        refine kX8_inflated_5 (fun q => ?_) (fun q => absurd (by omega) (b2i_d0.mp q))
        exact kX8_inflated_10 (fun q => kX8_inflated_21 ⟨rfl, rfl⟩) (fun q => kX8_inflated_14 (fun q => by omega) (fun q => kX8_inflated_21 ⟨rfl, rfl⟩))
      · refine kX9_inflated_0 (h1 := by rw [e15]; omega) in_n (on ?_)
        rw [e15]
        refine kX9_inflated_18 (fun q => ?_) (fun q => absurd (by omega) (b2i_d0.mp q))
        refine kX9_inflated_23 in_n (on ?_)
        exact kX9_inflated_32 (fun q => absurd (b2i_d1.mp q) hz) (fun q => kX9_inflated_35 ⟨rfl, q0⟩)
  · refine Agree.ask0 (r0 := vi (-1)) h ?_ ?_
    · refine kX8_inflated_0 isGood_n (on ?_)
      exact kX8_inflated_5 (fun q => absurd (by have := b2i_d1.mp q; omega) hi) (fun q => kX8_inflated_8 ⟨rfl, rfl⟩)
    · refine kX9_inflated_0 (h1 := by rw [e15]; omega) in_n (on ?_)
      rw [e15]
      exact kX9_inflated_18 (fun q => absurd (by have := b2i_d1.mp q; omega) hi) (fun q => kX9_inflated_21 ⟨rfl, q0⟩)
end AP
