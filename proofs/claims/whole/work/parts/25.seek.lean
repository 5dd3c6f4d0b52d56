/-! ===== the searches ===== -/
def lexle (a b c a' b' c' : Int) : Prop := a < a' ∨ (a = a' ∧ (b < b' ∨ (b = b' ∧ c ≤ c')))
/-- Least holds the least of the candidates, or nothing -/
def LM (C : Int → Int → Int → Prop) (M : Mem) : Prop := (M 33 0 = 0 ∧ ∀ a b c, ¬ C a b c) ∨ (M 33 0 ≠ 0 ∧ C (M 33 1) (M 33 2) (M 33 3) ∧ ∀ a b c, C a b c → lexle (M 33 1) (M 33 2) (M 33 3) a b c)
theorem LM_clear {M : Mem} : LM (fun _ _ _ => False) (up2 (up2 (up2 (up2 M 33 0 0) 33 1 0) 33 2 0) 33 3 0) := by
  refine Or.inl ⟨?_, fun _ _ _ h => h⟩
  rw [up2_j (by decide), up2_j (by decide), up2_j (by decide), up2_eq]
theorem LM_eq {C C' : Int → Int → Int → Prop} {M M1 : Mem} (h : LM C M) (hM : M1 33 = M 33) (hC : ∀ a b c, C' a b c ↔ C a b c) : LM C' M1 := by
  unfold LM at h ⊢
  rw [hM]
  rcases h with ⟨h1, h2⟩ | ⟨h1, h2, h3⟩
  · exact Or.inl ⟨h1, fun a b c q => h2 a b c ((hC a b c).mp q)⟩
  · exact Or.inr ⟨h1, (hC _ _ _).mpr h2, fun a b c q => h3 a b c ((hC a b c).mp q)⟩
theorem offM_o {M : Mem} {x y z : Int} {o : Nat} (h : o ≠ 33) : offM M x y z o = M o := by
  funext j
  unfold offM
  split
  · rw [up2_o h, up2_o h, up2_o h, up2_o h]
  · rfl
theorem LM_offer {C C' : Int → Int → Int → Prop} {M : Mem} {x y z : Int} (h : LM C M) (hC : ∀ a b c, C' a b c ↔ C a b c ∨ (a = x ∧ b = y ∧ c = z)) : LM C' (offM M x y z) := by
  unfold offM
  split
  next hq =>
    have e0 : (up2 (up2 (up2 (up2 M 33 0 1) 33 1 x) 33 2 y) 33 3 z) 33 0 = 1 := by rw [up2_j (by decide), up2_j (by decide), up2_j (by decide), up2_eq]
    have e1 : (up2 (up2 (up2 (up2 M 33 0 1) 33 1 x) 33 2 y) 33 3 z) 33 1 = x := by rw [up2_j (by decide), up2_j (by decide), up2_eq]
    have e2 : (up2 (up2 (up2 (up2 M 33 0 1) 33 1 x) 33 2 y) 33 3 z) 33 2 = y := by rw [up2_j (by decide), up2_eq]
    have e3 : (up2 (up2 (up2 (up2 M 33 0 1) 33 1 x) 33 2 y) 33 3 z) 33 3 = z := by rw [up2_eq]
    refine Or.inr ⟨by rw [e0]; decide, by rw [e1, e2, e3, hC]; exact Or.inr ⟨rfl, rfl, rfl⟩, fun a b c q => ?_⟩
    rw [e1, e2, e3]
    rcases (hC a b c).mp q with q | ⟨rfl, rfl, rfl⟩
    · rcases h with ⟨h1, h2⟩ | ⟨h1, h2, h3⟩
      · exact absurd q (h2 a b c)
      · have := h3 a b c q
        unfold lexle at this ⊢
        omega
    · unfold lexle
      omega
  next hq =>
    rcases h with ⟨h1, h2⟩ | ⟨h1, h2, h3⟩
    · exact absurd (Or.inl h1) hq
    · refine Or.inr ⟨h1, (hC _ _ _).mpr (Or.inl h2), fun a b c q => ?_⟩
      rcases (hC a b c).mp q with q | ⟨rfl, rfl, rfl⟩
      · exact h3 a b c q
      · unfold lexle
        omega
/-- the candidates for a payment among the sets below lim -/
def CF (w : Nat → Int) (mine theirs n : Nat) (price : Int) (lim : Nat) (k a b : Int) : Prop := ∃ s : Nat, s < lim ∧ s &&& (mine ||| theirs) = s ∧ setW (sgn w theirs) s n = price ∧ k = (popN s 10 : Nat) ∧ a = (s &&& mine : Nat) ∧ b = (s &&& theirs : Nat)
theorem CF_no {w : Nat → Int} {mine theirs n i : Nat} {price : Int} (h : ¬ (i &&& (mine ||| theirs) = i ∧ setW (sgn w theirs) i n = price)) : ∀ k a b, CF w mine theirs n price (i + 1) k a b ↔ CF w mine theirs n price i k a b := by
  intro k a b
  constructor
  · rintro ⟨s, h1, h2, h3, h4⟩
    refine ⟨s, ?_, h2, h3, h4⟩
    rcases Nat.lt_or_ge s i with q | q
    · exact q
    · have : s = i := by omega
      subst this
      exact absurd ⟨h2, h3⟩ h
  · rintro ⟨s, h1, h2⟩
    exact ⟨s, by omega, h2⟩
theorem CF_yes {w : Nat → Int} {mine theirs n i : Nat} {price : Int} (h1 : i &&& (mine ||| theirs) = i) (h2 : setW (sgn w theirs) i n = price) : ∀ k a b, CF w mine theirs n price (i + 1) k a b ↔ CF w mine theirs n price i k a b ∨ (k = (popN i 10 : Nat) ∧ a = (i &&& mine : Nat) ∧ b = (i &&& theirs : Nat)) := by
  intro k a b
  constructor
  · rintro ⟨s, q1, q2, q3, q4⟩
    rcases Nat.lt_or_ge s i with q | q
    · exact Or.inl ⟨s, q, q2, q3, q4⟩
    · have : s = i := by omega
      subst this
      exact Or.inr q4
  · rintro (⟨s, q1, q2⟩ | q)
    · exact ⟨s, by omega, q2⟩
    · exact ⟨i, by omega, h1, h2, q⟩
/-- the candidates for what is too much -/
def CT (w : Nat → Int) (mine n : Nat) (price : Int) (lim : Nat) (k a b : Int) : Prop := ∃ s : Nat, s < lim ∧ s &&& mine = s ∧ price ≤ setW w s n ∧ k = setW w s n ∧ a = (popN s 10 : Nat) ∧ b = (s : Int)
theorem CT_no {w : Nat → Int} {mine n i : Nat} {price : Int} (h : ¬ (i &&& mine = i ∧ price ≤ setW w i n)) : ∀ k a b, CT w mine n price (i + 1) k a b ↔ CT w mine n price i k a b := by
  intro k a b
  constructor
  · rintro ⟨s, h1, h2, h3, h4⟩
    refine ⟨s, ?_, h2, h3, h4⟩
    rcases Nat.lt_or_ge s i with q | q
    · exact q
    · have : s = i := by omega
      subst this
      exact absurd ⟨h2, h3⟩ h
  · rintro ⟨s, h1, h2⟩
    exact ⟨s, by omega, h2⟩
theorem CT_yes {w : Nat → Int} {mine n i : Nat} {price : Int} (h1 : i &&& mine = i) (h2 : price ≤ setW w i n) : ∀ k a b, CT w mine n price (i + 1) k a b ↔ CT w mine n price i k a b ∨ (k = setW w i n ∧ a = (popN i 10 : Nat) ∧ b = (i : Int)) := by
  intro k a b
  constructor
  · rintro ⟨s, q1, q2, q3, q4⟩
    rcases Nat.lt_or_ge s i with q | q
    · exact Or.inl ⟨s, q, q2, q3, q4⟩
    · have : s = i := by omega
      subst this
      exact Or.inr q4
  · rintro (⟨s, q1, q2⟩ | q)
    · exact ⟨s, by omega, q2⟩
    · exact ⟨i, by omega, h1, h2, q⟩
/-- what a search may write -/
def keep2 (M M1 : Mem) : Prop := (∀ o, o ≠ 33 → o ≠ 35 → M1 o = M o) ∧ M1 35 0 = 0
section SK
variable {X : Scr} {M : Mem}
theorem seekFewest_n {n : Nat} {p q price : Int} (hX : XT M n) (h0 : M 35 0 = 0) :
    Call X mX8_seekFewest [vr 0, vi p, vi q, vi price] M (fun r M1 => r = none ∧ keep2 M M1 ∧ LM (CF (xw M) (own (xo M) p n) (own (xo M) q n) n price (2 ^ n)) M1) := by
  have h10 := hX.1
  have hp2 := p2_le h10
  obtain ⟨mine, hmi⟩ : ∃ m, m = own (xo M) p n := ⟨_, rfl⟩
  obtain ⟨theirs, hth⟩ : ∃ m, m = own (xo M) q n := ⟨_, rfl⟩
  have lmi : mine < 2 ^ n := by rw [hmi]; exact own_lt _ _ _
  have lth : theirs < 2 ^ n := by rw [hth]; exact own_lt _ _ _
  have lor : mine ||| theirs < 2 ^ n := Nat.or_lt_two_pow lmi lth
  rw [← hmi, ← hth]
  refine kX8_seekFewest_0 (ownedBy_n (n := n) (by omega) h10 hX.2.1) (on ?_)
  refine kX8_seekFewest_8 (ownedBy_n (n := n) (by omega) h10 hX.2.1) (on ?_)
  have e1 : own (fun j => M (oC 0) (15 * j + 3)) p n = mine := hmi.symm
  have e2 : own (fun j => M (oC 0) (15 * j + 3)) q n = theirs := hth.symm
  rw [e1, e2]
  refine kX8_seekFewest_18 (weigh_n (c := theirs) hX h0 (by omega)) ?_
  rintro M1 ⟨-, g1, g2⟩
  rw [zor_n (by omega) (by omega)]
  refine kX8_seekFewest_35 clear_n (on0 ?_)
  refine kX8_seekFewest_42 ?_
  have go : ∀ i, i ≤ 2 ^ n → ∀ M2 : Mem, (∀ o, o ≠ 33 → M2 o = M1 o) → LM (CF (xw M) mine theirs n price i) M2 → Runs X mX8_seekFewest 45 [(0, vr 0), (3, vi price), (4, vi (mine : Int)), (5, vi (theirs : Int)), (6, vi (zxor ((mine ||| theirs : Nat) : Int) (-1))), (7, vi (i : Int))] [] M2 (fun r M1 => r = none ∧ keep2 M M1 ∧ LM (CF (xw M) mine theirs n price (2 ^ n)) M1) := by
    have hn2 : ∀ M2 : Mem, (∀ o, o ≠ 33 → M2 o = M1 o) → M2 (oT 0) 1 = (n : Int) := fun M2 hk => by
      rw [hk _ (by unfold oT; decide), g1 _ (by unfold oT; decide)]; exact hX.2.1
    refine up_loop (n := 2 ^ n) ?_ ?_
    · intro M2 hk hL
      refine kX8_seekFewest_45 (setsOf_n (hn2 M2 hk) h10) (on ?_)
      refine kX8_seekFewest_51 (fun h => ?_) (fun h => by omega)
      refine kX8_seekFewest_101 ⟨rfl, ⟨fun o ho1 ho2 => by rw [hk o ho1, g1 o ho2], ?_⟩, hL⟩
      rw [hk _ (by decide), g2 0 (Nat.two_pow_pos n), setW_0]
    · intro i hi ih M2 hk hL
      refine kX8_seekFewest_45 (setsOf_n (hn2 M2 hk) h10) (on ?_)
      refine kX8_seekFewest_51 (fun h => by omega) (fun h => ?_)
      have eb : M2 35 ((i : Int)).toNat = setW (sgn (xw M) theirs) i n := by
        rw [hk _ (by decide), show ((i : Int)).toNat = i by omega, g2 i hi]
      refine kX8_seekFewest_54 (fun h2 => ?_) (fun h2 => ?_)
      · have hno : ¬ i &&& (mine ||| theirs) = i := fun z => h2 ((outside_n (by omega) (by omega)).mpr z)
        refine kX8_seekFewest_95 ?_
        rw [cast1]
        exact ih M2 hk (LM_eq hL rfl (CF_no (fun z => hno z.1)))
      · have hin := (outside_n (by omega) (by omega)).mp h2
        refine kX8_seekFewest_62 (fun h3 => ?_) (fun h3 => ?_)
        · rw [eb] at h3
          refine kX8_seekFewest_95 ?_
          rw [cast1]
          exact ih M2 hk (LM_eq hL rfl (CF_no (fun z => h3 z.2)))
        · rw [eb] at h3
          refine kX8_seekFewest_73 (bitCount_n (by omega)) (on ?_)
          refine kX8_seekFewest_82 offer_n (on0 ?_)
          refine kX8_seekFewest_95 ?_
          rw [cast1, zand_n (by omega), zand_n (by omega)]
          exact ih _ (fun o ho => by rw [offM_o ho]; exact hk o ho) (LM_offer hL (CF_yes hin h3))
  refine go 0 (Nat.zero_le _) _ (fun o ho => ?_) (LM_eq LM_clear rfl (fun a b c => ?_))
  · funext j
    rw [up2_o ho, up2_o ho, up2_o ho, up2_o ho]
  · constructor
    · rintro ⟨s, h, -⟩
      omega
    · intro h
      exact h.elim
theorem sgn_0 {w : Nat → Int} : sgn w 0 = w := by
  funext t
  unfold sgn
  rw [Nat.zero_testBit]
  rfl
theorem seekTooMuch_n {n mine : Nat} {price : Int} (hX : XT M n) (h0 : M 35 0 = 0) (lmi : mine < 2 ^ n) :
    Call X mX8_seekTooMuch [vr 0, vi (mine : Int), vi price] M (fun r M1 => r = none ∧ keep2 M M1 ∧ LM (CT (xw M) mine n price (2 ^ n)) M1) := by
  have h10 := hX.1
  have hp2 := p2_le h10
  refine kX8_seekTooMuch_0 (weigh_n (c := 0) hX h0 (by omega)) ?_
  rintro M1 ⟨-, g1, g2⟩
  rw [sgn_0] at g2
  refine kX8_seekTooMuch_5 clear_n (on0 ?_)
  refine kX8_seekTooMuch_12 ?_
  have go : ∀ i, i ≤ 2 ^ n → ∀ M2 : Mem, (∀ o, o ≠ 33 → M2 o = M1 o) → LM (CT (xw M) mine n price i) M2 → Runs X mX8_seekTooMuch 14 [(0, vr 0), (1, vi (mine : Int)), (2, vi price), (3, vi (i : Int))] [] M2 (fun r M1 => r = none ∧ keep2 M M1 ∧ LM (CT (xw M) mine n price (2 ^ n)) M1) := by
    have hn2 : ∀ M2 : Mem, (∀ o, o ≠ 33 → M2 o = M1 o) → M2 (oT 0) 1 = (n : Int) := fun M2 hk => by
      rw [hk _ (by unfold oT; decide), g1 _ (by unfold oT; decide)]; exact hX.2.1
    refine up_loop (n := 2 ^ n) ?_ ?_
    · intro M2 hk hL
      refine kX8_seekTooMuch_14 (setsOf_n (hn2 M2 hk) h10) (on ?_)
      refine kX8_seekTooMuch_19 (fun h => ?_) (fun h => by omega)
      refine kX8_seekTooMuch_64 ⟨rfl, ⟨fun o ho1 ho2 => by rw [hk o ho1, g1 o ho2], ?_⟩, hL⟩
      rw [hk _ (by decide), g2 0 (Nat.two_pow_pos n), setW_0]
    · intro i hi ih M2 hk hL
      refine kX8_seekTooMuch_14 (setsOf_n (hn2 M2 hk) h10) (on ?_)
      refine kX8_seekTooMuch_19 (fun h => by omega) (fun h => ?_)
      have eb : M2 35 ((i : Int)).toNat = setW (xw M) i n := by
        rw [hk _ (by decide), show ((i : Int)).toNat = i by omega, g2 i hi]
      refine kX8_seekTooMuch_22 (fun h2 => ?_) (fun h2 => ?_)
      · have hno : ¬ i &&& mine = i := fun z => h2 ((outside_n (by omega) (by omega)).mpr z)
        refine kX8_seekTooMuch_58 ?_
        rw [cast1]
        exact ih M2 hk (LM_eq hL rfl (CT_no (fun z => hno z.1)))
      · have hin := (outside_n (by omega) (by omega)).mp h2
        refine kX8_seekTooMuch_30 (fun h3 => ?_) (fun h3 => ?_)
        · rw [eb] at h3
          refine kX8_seekTooMuch_58 ?_
          rw [cast1]
          exact ih M2 hk (LM_eq hL rfl (CT_no (fun z => by have := z.2; omega)))
        · rw [eb] at h3
          refine kX8_seekTooMuch_40 (bitCount_n (by omega)) (on ?_)
          refine kX8_seekTooMuch_54 offer_n (on0 ?_)
          refine kX8_seekTooMuch_58 ?_
          rw [cast1, eb]
          exact ih _ (fun o ho => by rw [offM_o ho]; exact hk o ho) (LM_offer hL (CT_yes hin h3))
  refine go 0 (Nat.zero_le _) _ (fun o ho => ?_) (LM_eq LM_clear rfl (fun a b c => ?_))
  · funext j
    rw [up2_o ho, up2_o ho, up2_o ho, up2_o ho]
  · constructor
    · rintro ⟨s, h, -⟩
      omega
    · intro h
      exact h.elim
-- ===== teeth that go over
/-- a tooth handled that goes over to p -/
def ho1 (M : Mem) (C k : Nat) (p : Int) : Mem := pass (up2 M C (15 * k + 2) (min 99 (M C (15 * k + 2) + 1))) C k p
def hoM (M : Mem) (C s : Nat) (p : Int) : Nat → Mem
  | 0 => M
  | k + 1 => if s.testBit k then ho1 (hoM M C s p k) C k p else hoM M C s p k
theorem pass_o {M : Mem} {C k o : Nat} {p : Int} (h : o ≠ C) : pass M C k p o = M o := by
  funext j
  unfold pass
  split
  · rw [up2_o h, up2_o h, up2_o h]
  · rw [up2_o h]
theorem ho1_o {M : Mem} {C k o : Nat} {p : Int} (h : o ≠ C) : ho1 M C k p o = M o := by
  unfold ho1
  rw [pass_o h]
  funext j
  rw [up2_o h]
/-- the cells of another tooth stay -/
theorem pass_c {M : Mem} {C k j : Nat} {p : Int} (h6 : 0 ≤ M C (15 * k + 6)) (h : j < 15 * k ∨ 15 * k + 15 ≤ j) : pass M C k p C j = M C j := by
  unfold pass
  split
  next hq =>
    rw [up2_j (by omega), up2_j (by omega), up2_j (by omega)]
  next hq => rw [up2_j (by omega)]
theorem ho1_c {M : Mem} {C k j : Nat} {p : Int} (h6 : 0 ≤ M C (15 * k + 6)) (h : j < 15 * k ∨ 15 * k + 15 ≤ j) : ho1 M C k p C j = M C j := by
  unfold ho1
  rw [pass_c (by rw [up2_j (by omega)]; exact h6) h, up2_j (by omega)]
theorem hoM_o {M : Mem} {C s o : Nat} {p : Int} (h : o ≠ C) : ∀ k, hoM M C s p k o = M o
  | 0 => rfl
  | k + 1 => by
    unfold hoM
    split
    · rw [ho1_o h, hoM_o h k]
    · exact hoM_o h k
theorem hoM_c {M : Mem} {C s : Nat} {p : Int} : ∀ (k : Nat), (∀ t, t < k → 0 ≤ M C (15 * t + 6)) → ∀ j, 15 * k ≤ j → hoM M C s p k C j = M C j
  | 0, _, _, _ => rfl
  | k + 1, h, j, hj => by
    have ih := hoM_c (s := s) (p := p) k (fun t ht => h t (by omega))
    unfold hoM
    split
    · rw [ho1_c (by rw [ih _ (by omega)]; exact h k (by omega)) (Or.inr (by omega)), ih j (by omega)]
    · exact ih j (by omega)
theorem handOver_n {n s : Nat} {p : Int} (hX : XT M n) (hs : s < 2147483648) : Call X mX8_handOver [vr 0, vi (s : Int), vi p] M (ret0 (hoM M (oC 0) s p n)) := by
  have h10 := hX.1
  refine kX8_handOver_0 ?_
  have hT : ∀ k, hoM M (oC 0) s p k (oT 0) 1 = (n : Int) := fun k => by rw [hoM_o oTC k]; exact hX.2.1
  refine up_loop (n := n) (G := fun k => Runs X mX8_handOver 2 [(0, vr 0), (1, vi (s : Int)), (2, vi p), (3, vi (k : Int))] [] (hoM M (oC 0) s p k) (ret0 (hoM M (oC 0) s p n))) ?_ ?_ 0 (Nat.zero_le _)
  · exact kX8_handOver_2 (fun h => kX8_handOver_45 ⟨rfl, rfl⟩) (fun h => by rw [hT] at h; omega)
  · intro k hk ih
    have hc := hX.2.2.2.2 k hk
    have e2 : hoM M (oC 0) s p k (oC 0) (15 * k + 2) = M (oC 0) (15 * k + 2) := hoM_c k (fun t ht => by have := hX.2.2.2.2 t (by omega); omega) _ (by omega)
    have e6 : hoM M (oC 0) s p k (oC 0) (15 * k + 6) = M (oC 0) (15 * k + 6) := hoM_c k (fun t ht => by have := hX.2.2.2.2 t (by omega); omega) _ (by omega)
    have e : hoM M (oC 0) s p (k + 1) = if s.testBit k then ho1 (hoM M (oC 0) s p k) (oC 0) k p else hoM M (oC 0) s p k := rfl
    refine kX8_handOver_2 (fun h => by rw [hT] at h; omega) (fun h => ?_)
    refine kX8_handOver_13 (fun h2 => ?_) (fun h2 => ?_)
    · rw [e, if_neg (by rw [(bit_ne hs (by omega)).mp h2]; decide), ← cast1] at ih
      exact kX8_handOver_39 ih
    · rw [e, if_pos ((bit_eq hs (by omega)).mp h2), ← cast1] at ih
      refine kX8_handOver_22 (wearDown_n (by omega) (by omega) (by rw [e2]; omega) (by rw [e2]; omega)) (on0 ?_)
      refine kX8_handOver_30 (passTo_n (by omega) (by omega) (by rw [up2_j (by omega), e6]; omega)) (on0 ?_)
      exact kX8_handOver_39 ih
-- ===== seeds
def drw (x : Int) : Int := wrapL (wrapL (x * 6364136223846793005) + 1442695040888963407)
theorem drawFrom_n {x : Int} : Call X mX8_drawFrom [vl x] M (retL (drw x) M) := kX8_drawFrom_0 ⟨rfl, rfl⟩
theorem qushr_33 (x : Int) : 0 ≤ qushr x 33 ∧ qushr x 33 < 2147483648 := by
  unfold qushr
  have e : ((Int64.ofInt x).toUInt64 >>> ((Int32.ofInt 33).toInt64.toUInt64 &&& Int64.toUInt64 63)).toInt64.toInt = ((Int64.ofInt x).toBitVec >>> (33 : Nat)).toInt := rfl
  rw [e, BitVec.toInt_ushiftRight_of_lt (by decide)]
  have h := (Int64.ofInt x).toBitVec.isLt
  rw [Nat.shiftRight_eq_div_pow]
  omega
/-- size and side of a tooth drawn -/
def dsz (x : Int) : Int := qushr x 33 % 9 + 1
def dlf (x : Int) : Int := if qushr x 33 / 9 % 2 = 0 then 1 else 0
theorem l2i_n {x : Int} (h : inI x) : l2i x = x := i32_t h
theorem addDrawn_n {n : Nat} {p x : Int} (hn : n < 10) (hM : M (oT 0) 1 = (n : Int)) : Call X mX8_addDrawn [vr 0, vi p, vl x] M (ret0 (addM M 0 n (dsz x) (dlf x) p)) := by
  have h1 := qushr_33 x
  have e : l2i (qushr x 33 % 9) = qushr x 33 % 9 := l2i_n ⟨by omega, by omega⟩
  refine kX8_addDrawn_0 (fun h => ?_) (fun h => ?_) (h3 := by rw [e]; omega)
  · refine kX8_addDrawn_38 (kX8_addDrawn_39 (add_n (by omega) hn hM) (on (kX8_addDrawn_43 ⟨rfl, ?_⟩)))
    rw [e, show dlf x = 0 by unfold dlf; rw [if_neg h]]
    rfl
  · refine kX8_addDrawn_34 (kX8_addDrawn_39 (add_n (by omega) hn hM) (on (kX8_addDrawn_43 ⟨rfl, ?_⟩)))
    rw [e, show dlf x = 1 by unfold dlf; rw [if_pos h]]
    rfl
end SK
