/-! ===== how class and model belong together ===== -/
def PR (C sz lf wr ow fk tr tc : Nat → Int) (n : Nat) : Prop := ∀ t, t < n → (C (15 * t) = sz t ∧ C (15 * t + 1) = lf t ∧ C (15 * t + 2) = wr t ∧ C (15 * t + 3) = ow t ∧ C (15 * t + 4) = fk t ∧ C (15 * t + 6) = tr t) ∧ ((1 ≤ sz t ∧ sz t ≤ 9) ∧ (0 ≤ lf t ∧ lf t ≤ 1) ∧ (0 ≤ wr t ∧ wr t ≤ 99) ∧ (0 ≤ ow t ∧ ow t ≤ 3) ∧ (0 ≤ fk t ∧ fk t ≤ 1) ∧ 1 ≤ tr t ∧ tr t ≤ 8) ∧ ∀ i : Nat, (i : Int) < tr t → C (15 * t + 7 + i) = tc (8 * t + i)
theorem PR_eq {C sz lf wr ow fk tr tc C' sz' lf' wr' ow' fk' tr' tc' : Nat → Int} {n m : Nat} (h : PR C sz lf wr ow fk tr tc n) (hm : m ≤ n) (hC : ∀ j, j < 15 * m → j % 15 ≠ 5 → C' j = C j) (hv : ∀ t, t < m → sz' t = sz t ∧ lf' t = lf t ∧ wr' t = wr t ∧ ow' t = ow t ∧ fk' t = fk t ∧ tr' t = tr t) (ht : ∀ j, j < 8 * m → tc' j = tc j) : PR C' sz' lf' wr' ow' fk' tr' tc' m := by
  intro t hl
  obtain ⟨a, b, c⟩ := h t (by omega)
  obtain ⟨v1, v2, v3, v4, v5, v6⟩ := hv t hl
  rw [v1, v2, v3, v4, v5, v6, hC (15 * t) (by omega) (by omega), hC (15 * t + 1) (by omega) (by omega), hC (15 * t + 2) (by omega) (by omega), hC (15 * t + 3) (by omega) (by omega), hC (15 * t + 4) (by omega) (by omega), hC (15 * t + 6) (by omega) (by omega)]
  refine ⟨a, b, fun i hi => ?_⟩
  rw [hC _ (by omega) (by omega), ht _ (by omega)]
  exact c i hi
def SR (C sh : Nat → Int) (n : Nat) : Prop := ∀ t, t < n → C (15 * t + 5) = sh t ∧ 0 ≤ sh t ∧ sh t ≤ 99
def bk (A : Nat → Int) (o : Nat) (j : Nat) : Nat → Int := fun t => A (o + j + t)
def PRb (C A : Nat → Int) (o : Nat) (lf fk : Nat → Int) (m : Nat) : Prop := PR C (bk A o 1) lf (bk A o 11) (bk A o 21) fk (bk A o 31) (bk A o 41) m
def BkR (M : Mem) (w : Nat) (A : Nat → Int) (o b n : Nat) (lf fk : Nat → Int) : Prop := ∀ i, i < b → ∃ m : Nat, m ≤ n ∧ M (oT (9 * w + 1 + i)) 1 = (m : Int) ∧ A (o + 121 * i) = (m : Int) ∧ PRb (M (oC (9 * w + 1 + i))) A (o + 121 * i) lf fk m
def RtR (g d u v : Nat → Int) : Prop := ∀ k, k < 16 → (g k = u k ∧ 1 ≤ u k ∧ u k ≤ 99) ∧ (d k = v k ∧ 1 ≤ v k ∧ v k ≤ 99)
def SL (M : Mem) (s : Nat) : Prop := ∃ n b : Nat, (n ≤ 10 ∧ M (oT (9 * (s + 1))) 1 = (n : Int) ∧ M 333 (121 * s) = (n : Int)) ∧ PRb (M (oC (9 * (s + 1)))) (M 333) (121 * s) (bk (M 334) (30 * s) 10) (bk (M 334) (30 * s) 20) n ∧ SR (M (oC (9 * (s + 1)))) (bk (M 334) (30 * s) 0) n ∧ (b ≤ 8 ∧ M (oB (s + 1)) 1 = (b : Int) ∧ M 338 s = (b : Int)) ∧ BkR M (s + 1) (M 335) (968 * s) b n (bk (M 334) (30 * s) 10) (bk (M 334) (30 * s) 20) ∧ RtR (M (oG (s + 1))) (M (oN (s + 1))) (bk (M 336) (32 * s) 0) (bk (M 336) (32 * s) 16)
def RX (M : Mem) (g L : Nat) : Prop := (g ≤ 4 ∧ M 3 2 = (g : Int) ∧ M 200 15 = (g : Int)) ∧ (L ≤ 72 ∧ M 1 1 = (L : Int) ∧ M 200 2 = (L : Int)) ∧ (M 0 6 = M 200 4 ∧ 0 ≤ M 200 4 ∧ M 200 4 ≤ 9) ∧ (M 0 7 = M 200 5 ∧ 1 ≤ M 200 5 ∧ M 200 5 ≤ 9) ∧ (∀ k, k < g → (M 4 k = M 316 k ∧ 0 ≤ M 316 k ∧ M 316 k ≤ 99) ∧ M 5 k = M 317 k ∧ 0 ≤ M 317 k ∧ M 317 k ≤ 9) ∧ (∀ j, j < 72 → M 301 j = bytF M j) ∧ RtR (M (oG 0)) (M (oN 0)) (M 331) (M 332) ∧ M 35 0 = 0 ∧ ∀ s, s < 2 → M (oS s) 3 = M 337 s ∧ (M 337 s ≠ 0 → SL M s)
def RM (M : Mem) (n : Nat) : Prop := (n ≤ 10 ∧ M (oT 0) 1 = (n : Int) ∧ M 200 6 = (n : Int)) ∧ PR (M (oC 0)) (M 307) (M 308) (M 309) (M 310) (M 311) (M 313) (M 314) n ∧ SR (M (oC 0)) (M 312) n
def RB (M : Mem) (n b : Nat) : Prop := (b ≤ 8 ∧ M (oB 0) 1 = (b : Int) ∧ M 200 30 = (b : Int)) ∧ BkR M 0 (M 329) 0 b n (M 308) (M 311)
def RRp (M : Mem) (n b g L : Nat) : Prop := RM M n ∧ RB M n b ∧ RX M g L
def RR (M : Mem) : Prop := ∃ n b g L, RRp M n b g L
/-- cells that nothing hangs on between two calls -/
def unw (o j : Nat) : Prop := o = 33 ∨ o = 34 ∨ (o = 35 ∧ j ≠ 0) ∨ o = 36 ∨ (o = 200 ∧ (j = 0 ∨ j = 3 ∨ j = 18 ∨ j = 19 ∨ j = 20 ∨ j = 21 ∨ j = 39 ∨ j = 40 ∨ j = 41 ∨ j = 44 ∨ j = 45 ∨ j = 46)) ∨ (322 ≤ o ∧ o ≤ 328) ∨ o = 342 ∨ o = 343 ∨ o = 347
/-- the cells of the teeth and of the bargains -/
def mbo (o j : Nat) : Prop := (100 ≤ o ∧ o < 118) ∨ o = 20 ∨ o = 329 ∨ (307 ≤ o ∧ o ≤ 314) ∨ (o = 200 ∧ (j = 6 ∨ j = 30))
theorem RX_eq {M M2 : Mem} {g L : Nat} (h : RX M g L) (hq : ∀ o j, ¬ unw o j → ¬ mbo o j → M2 o j = M o j) : RX M2 g L := by
  have e : ∀ o, (o < 33 ∨ (117 < o ∧ o < 200) ∨ (200 < o ∧ o < 307) ∨ (314 < o ∧ o < 322) ∨ (329 < o ∧ o < 342)) → o ≠ 20 → M2 o = M o := by
    intro o ho h20
    funext j
    refine hq o j ?_ ?_
    · unfold unw; omega
    · unfold mbo; omega
  have e2 : ∀ j, (j = 15 ∨ j = 2 ∨ j = 4 ∨ j = 5) → M2 200 j = M 200 j := by
    intro j hj
    refine hq 200 j ?_ ?_
    · unfold unw; omega
    · unfold mbo; omega
  have e35 : M2 35 0 = M 35 0 := hq 35 0 (by unfold unw; omega) (by unfold mbo; omega)
  unfold RX SL BkR at h ⊢
  have eS : ∀ s, s < 2 → M2 (oS s) = M (oS s) := fun s hs => e _ (by unfold oS; omega) (by unfold oS; omega)
  have eT : ∀ s i, s < 2 → M2 (oT (9 * (s + 1) + i)) = M (oT (9 * (s + 1) + i)) ∨ 27 ≤ 9 * (s + 1) + i := fun s i hs => by
    by_cases hk : 27 ≤ 9 * (s + 1) + i
    · exact Or.inr hk
    · exact Or.inl (e _ (by unfold oT; omega) (by unfold oT; omega))
  have eb : bytF M2 = bytF M := bytF_eq (e 2 (by omega) (by omega))
  rw [e 3 (by omega) (by omega), e 1 (by omega) (by omega), e 0 (by omega) (by omega), e 4 (by omega) (by omega), e 5 (by omega) (by omega), e 316 (by omega) (by omega), e 317 (by omega) (by omega), e 301 (by omega) (by omega), e 337 (by omega) (by omega), e2 15 (by omega), e2 2 (by omega), e2 4 (by omega), e2 5 (by omega), e35, eb, e (oG 0) (by unfold oG; omega) (by unfold oG; omega), e (oN 0) (by unfold oN; omega) (by unfold oN; omega), e 331 (by omega) (by omega), e 332 (by omega) (by omega)]
  obtain ⟨h1, h2, h3, h4, h5, h6, h7, h8, h9⟩ := h
  refine ⟨h1, h2, h3, h4, h5, h6, h7, h8, fun s hs => ?_⟩
  rw [eS s hs]
  refine ⟨(h9 s hs).1, fun hk => ?_⟩
  obtain ⟨n, b, a1, a2, a3, a4, a5, a6⟩ := (h9 s hs).2 hk
  rw [e 333 (by omega) (by omega), e 334 (by omega) (by omega), e 335 (by omega) (by omega), e 336 (by omega) (by omega), e 338 (by omega) (by omega)]
  rw [e (oT (9 * (s + 1))) (by unfold oT; omega) (by unfold oT; omega), e (oC (9 * (s + 1))) (by unfold oC; omega) (by unfold oC; omega), e (oB (s + 1)) (by unfold oB; omega) (by unfold oB; omega), e (oG (s + 1)) (by unfold oG; omega) (by unfold oG; omega), e (oN (s + 1)) (by unfold oN; omega) (by unfold oN; omega)]
  refine ⟨n, b, a1, a2, a3, a4, fun i hi => ?_, a6⟩
  rw [e (oT (9 * (s + 1) + 1 + i)) (by unfold oT; omega) (by unfold oT; omega), e (oC (9 * (s + 1) + 1 + i)) (by unfold oC; omega) (by unfold oC; omega)]
  exact a5 i hi
def quiet (M M2 : Mem) : Prop := ∀ o j, ¬ unw o j → M2 o j = M o j
theorem quiet_o {M M2 : Mem} (h : quiet M M2) {o : Nat} (ho : ∀ j, ¬ unw o j) : M2 o = M o := funext (fun j => h o j (ho j))
theorem quiet_refl (M : Mem) : quiet M M := fun _ _ _ => rfl
theorem quiet_trans {M M1 M2 : Mem} (h : quiet M M1) (h2 : quiet M1 M2) : quiet M M2 := fun o j hu => (h2 o j hu).trans (h o j hu)
theorem RR_quiet {M M2 : Mem} {n b g L : Nat} (h : RRp M n b g L) (hq : quiet M M2) : RRp M2 n b g L := by
  obtain ⟨h1, h2, h3⟩ := h
  have e : ∀ o, ((99 < o ∧ o < 118) ∨ o = 20 ∨ (306 < o ∧ o < 315) ∨ o = 329) → M2 o = M o := fun o ho => quiet_o hq (fun j => by unfold unw; omega)
  have e6 : M2 200 6 = M 200 6 := hq 200 6 (by unfold unw; omega)
  have e30 : M2 200 30 = M 200 30 := hq 200 30 (by unfold unw; omega)
  refine ⟨?_, ?_, RX_eq h3 (fun o j hu _ => hq o j hu)⟩
  · unfold RM at h1 ⊢
    rw [e (oT 0) (by unfold oT; omega), e (oC 0) (by unfold oC; omega), e6, e 307 (by omega), e 308 (by omega), e 309 (by omega), e 310 (by omega), e 311 (by omega), e 312 (by omega), e 313 (by omega), e 314 (by omega)]
    exact h1
  · unfold RB BkR at h2 ⊢
    rw [e (oB 0) (by unfold oB; omega), e30, e 329 (by omega), e 308 (by omega), e 311 (by omega)]
    refine ⟨h2.1, fun i hi => ?_⟩
    rw [e (oT (9 * 0 + 1 + i)) (by unfold oT; omega), e (oC (9 * 0 + 1 + i)) (by unfold oC; omega)]
    exact h2.2 i hi
theorem BkR_eq {M M2 : Mem} {w : Nat} {A A2 : Nat → Int} {o b n n2 : Nat} {lf fk lf2 fk2 : Nat → Int} (h : BkR M w A o b n lf fk) (hA : ∀ j, o ≤ j → A2 j = A j) (hn : n ≤ n2) (hv : ∀ t, t < n → lf2 t = lf t ∧ fk2 t = fk t) (hT : ∀ i, i < b → M2 (oT (9 * w + 1 + i)) = M (oT (9 * w + 1 + i)) ∧ M2 (oC (9 * w + 1 + i)) = M (oC (9 * w + 1 + i))) : BkR M2 w A2 o b n2 lf2 fk2 := by
  intro i hi
  obtain ⟨m, h1, h2, h3, h4⟩ := h i hi
  obtain ⟨t1, t2⟩ := hT i hi
  refine ⟨m, by omega, by rw [t1]; exact h2, by rw [hA _ (by omega)]; exact h3, ?_⟩
  unfold PRb at h4 ⊢
  rw [t2]
  refine PR_eq h4 (Nat.le_refl m) (fun j _ _ => rfl) (fun t ht => ?_) (fun j _ => ?_)
  · obtain ⟨v1, v2⟩ := hv t (by omega)
    unfold bk
    exact ⟨hA _ (by omega), v1, hA _ (by omega), hA _ (by omega), v2, hA _ (by omega)⟩
  · unfold bk
    exact hA _ (by omega)
/-- the teeth alone have changed -/
def mno (o j : Nat) : Prop := o = 100 ∨ o = 101 ∨ (307 ≤ o ∧ o ≤ 314) ∨ (o = 200 ∧ j = 6)
theorem RR_main {M M2 : Mem} {n n2 b g L : Nat} (h : RRp M n b g L) (hq : ∀ o j, ¬ unw o j → ¬ mno o j → M2 o j = M o j) (hM : RM M2 n2) (hn : n ≤ n2) (hv : ∀ t, t < n → M2 308 t = M 308 t ∧ M2 311 t = M 311 t) : RRp M2 n2 b g L := by
  obtain ⟨h1, h2, h3⟩ := h
  refine ⟨hM, ?_, RX_eq h3 (fun o j hu hm => hq o j hu (by unfold mbo at hm; unfold mno; omega))⟩
  have e : ∀ o, ((101 < o ∧ o < 118) ∨ o = 20 ∨ o = 329) → M2 o = M o := fun o ho => funext (fun j => hq o j (by unfold unw; omega) (by unfold mno; omega))
  obtain ⟨a1, a2⟩ := h2
  refine ⟨?_, BkR_eq a2 (fun j _ => by rw [e 329 (by omega)]) hn hv (fun i hi => ⟨e _ (by unfold oT; omega), e _ (by unfold oC; omega)⟩)⟩
  rw [e (oB 0) (by unfold oB; omega), hq 200 30 (by unfold unw; omega) (by unfold mno; omega)]
  exact a1
theorem RR_XT {M : Mem} {n b g L : Nat} (h : RRp M n b g L) : XT M n := by
  obtain ⟨⟨⟨a1, a2, a3⟩, a4, a5⟩, h2, ⟨b1, b2, b3, b4, b5⟩⟩ := h
  refine ⟨a1, a2, by omega, by omega, fun t ht => ?_⟩
  obtain ⟨⟨c1, c2, c3, c4, c5, c6⟩, d, -⟩ := a4 t ht
  obtain ⟨s1, s2⟩ := a5 t ht
  rw [c1, c2, c3, c4, c5, c6, s1]
  exact ⟨d.1, d.2.1, d.2.2.1, d.2.2.2.1, d.2.2.2.2.1, s2, d.2.2.2.2.2⟩
theorem RR_MT {M : Mem} {n b g L : Nat} (h : RRp M n b g L) : MT M n := by
  obtain ⟨⟨⟨a1, a2, a3⟩, a4, a5⟩, h2, ⟨b1, b2, b3, b4, b5⟩⟩ := h
  refine ⟨a1, a3, by omega, by omega, fun t ht => ?_⟩
  obtain ⟨-, d, -⟩ := a4 t ht
  obtain ⟨s1, s2⟩ := a5 t ht
  exact ⟨d.1, d.2.1, d.2.2.1, d.2.2.2.1, d.2.2.2.2.1, s2, d.2.2.2.2.2⟩
theorem RR_w {M : Mem} {n b g L : Nat} (h : RRp M n b g L) : ∀ t, t < n → xw M t = mw M t ∧ ∀ w, xwb M t w = mwb M t w := by
  obtain ⟨⟨⟨a1, a2, a3⟩, a4, a5⟩, h2, ⟨b1, b2, b3, b4, b5⟩⟩ := h
  intro t ht
  obtain ⟨⟨c1, c2, c3, c4, c5, c6⟩, d, -⟩ := a4 t ht
  unfold xw mw xwb mwb
  rw [c1, c2, c3, b3.1, b4.1]
  exact ⟨rfl, fun _ => rfl⟩
theorem RR_o {M : Mem} {n b g L : Nat} (h : RRp M n b g L) : ∀ t, t < n → xo M t = M 310 t := by
  intro t ht
  obtain ⟨⟨c1, c2, c3, c4, c5, c6⟩, d, -⟩ := h.1.2.1 t ht
  exact c4
-- ===== one call of the law
/-- class and model answer alike, and belong together afterwards -/
def Agree (X : Scr) (mx mm : MR) (ax am : List AV) (M : Mem) : Prop := ∃ Q1, Call X mx ax M Q1 ∧ ∀ r M1, Q1 r M1 → Call X mm am M1 (fun r' M2 => r' = r ∧ RR M2)
/-- what a call that changes nothing leaves -/
def asks (M : Mem) (r0 : AV) : Option AV → Mem → Prop := fun r M1 => r = some r0 ∧ quiet M M1
theorem Agree.ask {X : Scr} {mx mm : MR} {ax am : List AV} {M : Mem} {r0 : AV} (h : RR M) (hx : Call X mx ax M (asks M r0)) (hm : ∀ M1, quiet M M1 → RR M1 → Call X mm am M1 (asks M1 r0)) : Agree X mx mm ax am M := by
  refine ⟨_, hx, ?_⟩
  rintro r M1 ⟨rfl, hq⟩
  obtain ⟨n, b, g, L, hR⟩ := h
  have hR1 := RR_quiet hR hq
  exact (hm M1 hq ⟨n, b, g, L, hR1⟩).mono (fun r' M2 h' => ⟨h'.1, n, b, g, L, RR_quiet hR1 h'.2⟩)
