/-! ===== the market taken over, here and there ===== -/
section ML
variable {X : Scr} {M : Mem} {P : Option AV → Mem → Prop}
theorem mmarketA {n : Nat} (hn : n ≤ 10) (hM : M 200 6 = (n : Int)) (hr : ∀ t, t < n → (0 ≤ M 323 t ∧ M 323 t ≤ 1) ∧ 0 ≤ M 326 t ∧ M 326 t ≤ 1) (kk : ∀ M2 : Mem, (∀ o, o < 307 ∨ 314 < o → M2 o = M o) → (∀ t, t < n → (M2 307 t = M 322 t ∧ M2 308 t = M 323 t ∧ M2 309 t = M 324 t ∧ M2 310 t = M 325 t ∧ M2 311 t = M 326 t) ∧ M2 312 t = M 324 t ∧ M2 313 t = 1 ∧ M2 314 (8 * t) = M 325 t) → Runs X mX9_market 130 [(0, vr 200)] [] M2 P) : Runs X mX9_market 51 [(0, vr 200), (1, vi 0)] [] M P := by
  have q : ∀ (o r : Nat), r ≠ o → ∀ (A : Mem) (i j : Nat) (v : Int), (up2 A o i v) r j = A r j := fun o r h A i j v => up2_o h
  have go : ∀ k, k ≤ n → ∀ M2 : Mem, (∀ o, o < 307 ∨ 314 < o → M2 o = M o) → (∀ t, t < k → (M2 307 t = M 322 t ∧ M2 308 t = M 323 t ∧ M2 309 t = M 324 t ∧ M2 310 t = M 325 t ∧ M2 311 t = M 326 t) ∧ M2 312 t = M 324 t ∧ M2 313 t = 1 ∧ M2 314 (8 * t) = M 325 t) → Runs X mX9_market 51 [(0, vr 200), (1, vi (k : Int))] [] M2 P := by
    refine up_loop (n := n) ?_ ?_
    · intro M2 k1 k2
      have e : M2 200 6 = (n : Int) := by rw [k1 200 (by decide)]; exact hM
      exact kX9_market_51 (fun q => kk M2 k1 k2) (fun q => by rw [e] at q; omega)
    · intro k hk ih M2 k1 k2
      have e : M2 200 6 = (n : Int) := by rw [k1 200 (by decide)]; exact hM
      have ek : ((k : Int)).toNat = k := by omega
      have f : ∀ o, 314 < o → M2 o = M o := fun o ho => k1 o (Or.inr ho)
      have sm : up2 (up2 (up2 (up2 (up2 M2 307 (k : Int).toNat (M2 322 (k : Int).toNat)) 308 (k : Int).toNat ((up2 M2 307 (k : Int).toNat (M2 322 (k : Int).toNat)) 323 (k : Int).toNat)) 309 (k : Int).toNat ((up2 (up2 M2 307 (k : Int).toNat (M2 322 (k : Int).toNat)) 308 (k : Int).toNat ((up2 M2 307 (k : Int).toNat (M2 322 (k : Int).toNat)) 323 (k : Int).toNat)) 324 (k : Int).toNat)) 310 (k : Int).toNat ((up2 (up2 (up2 M2 307 (k : Int).toNat (M2 322 (k : Int).toNat)) 308 (k : Int).toNat ((up2 M2 307 (k : Int).toNat (M2 322 (k : Int).toNat)) 323 (k : Int).toNat)) 309 (k : Int).toNat ((up2 (up2 M2 307 (k : Int).toNat (M2 322 (k : Int).toNat)) 308 (k : Int).toNat ((up2 M2 307 (k : Int).toNat (M2 322 (k : Int).toNat)) 323 (k : Int).toNat)) 324 (k : Int).toNat)) 325 (k : Int).toNat)) 311 (k : Int).toNat ((up2 (up2 (up2 (up2 M2 307 (k : Int).toNat (M2 322 (k : Int).toNat)) 308 (k : Int).toNat ((up2 M2 307 (k : Int).toNat (M2 322 (k : Int).toNat)) 323 (k : Int).toNat)) 309 (k : Int).toNat ((up2 (up2 M2 307 (k : Int).toNat (M2 322 (k : Int).toNat)) 308 (k : Int).toNat ((up2 M2 307 (k : Int).toNat (M2 322 (k : Int).toNat)) 323 (k : Int).toNat)) 324 (k : Int).toNat)) 310 (k : Int).toNat ((up2 (up2 (up2 M2 307 (k : Int).toNat (M2 322 (k : Int).toNat)) 308 (k : Int).toNat ((up2 M2 307 (k : Int).toNat (M2 322 (k : Int).toNat)) 323 (k : Int).toNat)) 309 (k : Int).toNat ((up2 (up2 M2 307 (k : Int).toNat (M2 322 (k : Int).toNat)) 308 (k : Int).toNat ((up2 M2 307 (k : Int).toNat (M2 322 (k : Int).toNat)) 323 (k : Int).toNat)) 324 (k : Int).toNat)) 325 (k : Int).toNat)) 326 (k : Int).toNat) = up2 (up2 (up2 (up2 (up2 M2 307 k (M 322 k)) 308 k (M 323 k)) 309 k (M 324 k)) 310 k (M 325 k)) 311 k (M 326 k) := by
        rw [ek]
        simp only [q 307 323 (by decide), q 307 324 (by decide), q 307 325 (by decide), q 307 326 (by decide), q 308 324 (by decide), q 308 325 (by decide), q 308 326 (by decide), q 309 325 (by decide), q 309 326 (by decide), q 310 326 (by decide)]
        rw [f 322 (by decide), f 323 (by decide), f 324 (by decide), f 325 (by decide), f 326 (by decide)]
      obtain ⟨r1, r2⟩ := hr k hk
      refine kX9_market_51 (fun q => by rw [e] at q; omega) (fun _ => ?_)
      refine kX9_market_59 (Q := ret0 (comeM (up2 (up2 (up2 (up2 (up2 M2 307 k (M 322 k)) 308 k (M 323 k)) 309 k (M 324 k)) 310 k (M 325 k)) 311 k (M 326 k)) k)) (h3 := ?_) (h4 := ?_) ?_ (on0 ?_)
      · rw [sm]
        exact come_n (by omega)
      · refine kX9_market_124 ?_
        rw [cast1]
        have c309 : (up2 (up2 (up2 (up2 (up2 M2 307 k (M 322 k)) 308 k (M 323 k)) 309 k (M 324 k)) 310 k (M 325 k)) 311 k (M 326 k)) 309 k = M 324 k := by rw [up2_o (by decide), up2_o (by decide), up2_eq]
        have c310 : (up2 (up2 (up2 (up2 (up2 M2 307 k (M 322 k)) 308 k (M 323 k)) 309 k (M 324 k)) 310 k (M 325 k)) 311 k (M 326 k)) 310 k = M 325 k := by rw [up2_o (by decide), up2_eq]
        unfold comeM
        rw [c309, c310]
        refine ih _ (fun o ho => ?_) (all_S.mpr ⟨fun t ht => ?_, ⟨?_, ?_, ?_, ?_, ?_⟩, ?_, ?_, ?_⟩)
        · funext j
          rw [up2_o (by omega), up2_o (by omega), up2_o (by omega), up2_o (by omega), up2_o (by omega), up2_o (by omega), up2_o (by omega), up2_o (by omega), k1 o ho]
        · obtain ⟨⟨h1, h2, h3, h4, h5⟩, h6, h7, h8⟩ := k2 t ht
          refine ⟨⟨?_, ?_, ?_, ?_, ?_⟩, ?_, ?_, ?_⟩
          · rw [up2_o (by decide), up2_o (by decide), up2_o (by decide), up2_o (by decide), up2_o (by decide), up2_o (by decide), up2_o (by decide), up2_j (by omega)]; exact h1
          · rw [up2_o (by decide), up2_o (by decide), up2_o (by decide), up2_o (by decide), up2_o (by decide), up2_o (by decide), up2_j (by omega), up2_o (by decide)]; exact h2
          · rw [up2_o (by decide), up2_o (by decide), up2_o (by decide), up2_o (by decide), up2_o (by decide), up2_j (by omega), up2_o (by decide), up2_o (by decide)]; exact h3
          · rw [up2_o (by decide), up2_o (by decide), up2_o (by decide), up2_o (by decide), up2_j (by omega), up2_o (by decide), up2_o (by decide), up2_o (by decide)]; exact h4
          · rw [up2_o (by decide), up2_o (by decide), up2_o (by decide), up2_j (by omega), up2_o (by decide), up2_o (by decide), up2_o (by decide), up2_o (by decide)]; exact h5
          · rw [up2_o (by decide), up2_o (by decide), up2_j (by omega), up2_o (by decide), up2_o (by decide), up2_o (by decide), up2_o (by decide), up2_o (by decide)]; exact h6
          · rw [up2_o (by decide), up2_j (by omega), up2_o (by decide), up2_o (by decide), up2_o (by decide), up2_o (by decide), up2_o (by decide), up2_o (by decide)]; exact h7
          · rw [up2_j (by omega), up2_o (by decide), up2_o (by decide), up2_o (by decide), up2_o (by decide), up2_o (by decide), up2_o (by decide), up2_o (by decide)]; exact h8
        · rw [up2_o (by decide), up2_o (by decide), up2_o (by decide), up2_o (by decide), up2_o (by decide), up2_o (by decide), up2_o (by decide), up2_eq]
        · rw [up2_o (by decide), up2_o (by decide), up2_o (by decide), up2_o (by decide), up2_o (by decide), up2_o (by decide), up2_eq]
        · rw [up2_o (by decide), up2_o (by decide), up2_o (by decide)]; exact c309
        · rw [up2_o (by decide), up2_o (by decide), up2_o (by decide)]; exact c310
        · rw [up2_o (by decide), up2_o (by decide), up2_o (by decide), up2_eq]
        · rw [up2_o (by decide), up2_o (by decide), up2_eq]
        · rw [up2_o (by decide), up2_eq]
        · rw [up2_eq]
      · rw [ek, q 307 323 (by decide), f 323 (by decide)]
        exact r1
      · rw [ek]
        simp only [q 307 323 (by decide), q 307 324 (by decide), q 307 325 (by decide), q 307 326 (by decide), q 308 324 (by decide), q 308 325 (by decide), q 308 326 (by decide), q 309 325 (by decide), q 309 326 (by decide), q 310 326 (by decide)]
        rw [f 326 (by decide)]
        exact r2
  exact go 0 (Nat.zero_le _) M (fun o _ => rfl) (fun t ht => by omega)
theorem mmarketB {g : Nat} (hg : g ≤ 4) (hM : M 200 15 = (g : Int)) (kk : ∀ M2 : Mem, (∀ o, o ≠ 316 → o ≠ 317 → M2 o = M o) → (∀ t, t < g → M2 316 t = M 327 t ∧ M2 317 t = M 328 t) → Runs X mX9_market 170 [(0, vr 200)] [] M2 P) : Runs X mX9_market 130 [(0, vr 200)] [] M P := by
  refine kX9_market_130 ?_
  have go : ∀ k, k ≤ g → ∀ M2 : Mem, (∀ o, o ≠ 316 → o ≠ 317 → M2 o = M o) → (∀ t, t < k → M2 316 t = M 327 t ∧ M2 317 t = M 328 t) → Runs X mX9_market 132 [(0, vr 200), (1, vi (k : Int))] [] M2 P := by
    refine up_loop (n := g) ?_ ?_
    · intro M2 k1 k2
      have e : M2 200 15 = (g : Int) := by rw [k1 200 (by decide) (by decide)]; exact hM
      exact kX9_market_132 (fun q => kk M2 k1 k2) (fun q => by rw [e] at q; omega)
    · intro k hk ih M2 k1 k2
      have e : M2 200 15 = (g : Int) := by rw [k1 200 (by decide) (by decide)]; exact hM
      have ek : ((k : Int)).toNat = k := by omega
      have e2 : (up2 M2 316 k (M 327 k)) 328 k = M 328 k := by rw [up2_o (by decide), k1 328 (by decide) (by decide)]
      refine kX9_market_132 (fun q => by rw [e] at q; omega) (fun _ => kX9_market_140 ?_)
      rw [ek, k1 327 (by decide) (by decide), e2, cast1]
      refine ih _ (fun o o1 o2 => ?_) (all_S.mpr ⟨fun t ht => ?_, ?_, ?_⟩)
      · funext j
        rw [up2_o o2, up2_o o1, k1 o o1 o2]
      · obtain ⟨h1, h2⟩ := k2 t ht
        refine ⟨?_, ?_⟩
        · rw [up2_o (by decide), up2_j (by omega)]; exact h1
        · rw [up2_j (by omega), up2_o (by decide)]; exact h2
      · rw [up2_o (by decide), up2_eq]
      · rw [up2_eq]
  exact go 0 (Nat.zero_le _) M (fun o _ _ => rfl) (fun t ht => by omega)
end ML
/-- a tooth that the text tells lies within its bounds -/
theorem tIs_in {B : Nat → Int} {m i : Nat} {s l w p f : Int} (hp : pOK B m) (hi : i < m) (hT : isT (B (pos B i)) = true) (h : tIs B (pos B i) s l w p f) : (1 ≤ s ∧ s ≤ 9) ∧ (0 ≤ l ∧ l ≤ 1) ∧ (0 ≤ w ∧ w ≤ 99) ∧ (0 ≤ p ∧ p ≤ 3) ∧ 0 ≤ f ∧ f ≤ 1 := by
  rcases hp i hi with ⟨-, o1, o2, o3, o4⟩ | ⟨o1, -⟩
  · obtain ⟨e1, e2, e3, e4, e5⟩ := h
    subst e1 e2 e3 e4 e5
    refine ⟨o1, ?_, by omega, o4, ?_⟩ <;> split <;> omega
  · rw [o1] at hT
    exact absurd hT T71
theorem gIs_in {B : Nat → Int} {m i : Nat} {p u : Int} (hp : pOK B m) (hi : i < m) (hG : B (pos B i) = 71) (h : gIs B (pos B i) p u) : (0 ≤ p ∧ p ≤ 99) ∧ 0 ≤ u ∧ u ≤ 9 := by
  rcases hp i hi with ⟨o1, -⟩ | ⟨-, o1, o2, o3⟩
  · rw [hG] at o1
    exact absurd o1 T71
  · obtain ⟨e1, e2⟩ := h
    subst e1 e2
    have : (0 : Int) ≤ (if B (pos B i + 1) = 48 then 1 else 0) := by split <;> omega
    omega
theorem tIs_eq {B : Nat → Int} {q : Nat} {s l w p f s' l' w' p' f' : Int} (h : tIs B q s l w p f) (h2 : tIs B q s' l' w' p' f') : s = s' ∧ l = l' ∧ w = w' ∧ p = p' ∧ f = f' := by
  obtain ⟨a1, a2, a3, a4, a5⟩ := h
  obtain ⟨b1, b2, b3, b4, b5⟩ := h2
  rw [a1, a2, a3, a4, a5, b1, b2, b3, b4, b5]
  exact ⟨rfl, rfl, rfl, rfl, rfl⟩
section MN
variable {X : Scr} {M : Mem}
theorem ag_market (h : RR M) : Agree X mX8_market mX9_market [vr 0] [vr 200] M := by
  obtain ⟨n, b, g, L, hR⟩ := id h
  obtain ⟨hRM, hRB, ⟨x1, ⟨x2a, x2b, x2c⟩, x3, x4, x5, x6, x7, x8, x9⟩⟩ := id hR
  have hflt := RR_flt hR
  by_cases hV : fltV M L = -9
  · refine ⟨fun r M1 => ∃ m, pos (M 301) m = L ∧ XI M M1 (M 301) m ∧ r = some (vi (tcn (M 301) m : Nat)), ?_, ?_⟩
    · refine kX8_market_0 (faultPlace_n x2a x2b) (on ?_)
      rw [hflt]
      refine kX8_market_7 (fun _ => ?_) (fun q => absurd hV q)
      exact xmarket_n x2b x2a (fun j hj => (x6 j hj).symm) hV
    · rintro r M1 ⟨m, hm, hI, rfl⟩
      obtain ⟨i0, ⟨i1, i2⟩, ⟨i3, i4⟩, ⟨i5, i6⟩, i7, i8, i9, i10⟩ := hI
      obtain ⟨M0, hM0⟩ : ∃ M0, M0 = up2 M1 200 0 0 := ⟨_, rfl⟩
      have g0 : ∀ o, 200 < o → M0 o = M o := fun o ho => by
        rw [← i0 o (by omega) (by unfold oT; omega) (by unfold oC; omega) (by omega) (by omega) (by omega) (by unfold oB; omega), hM0]
        exact funext (fun j => up2_o (by omega))
      have g2 : ∀ j, j ≠ 0 → M0 200 j = M 200 j := fun j hj => by
        rw [← i0 200 (by omega) (by unfold oT; omega) (by unfold oC; omega) (by omega) (by omega) (by omega) (by unfold oB; omega), hM0, up2_j hj]
      have gl : ∀ o, o < 200 → M0 o = M1 o := fun o ho => by
        rw [hM0]
        exact funext (fun j => up2_o (by omega))
      have hV0 : fltV M0 L = -9 := by unfold fltV; rw [g0 301 (by decide)]; exact hV
      have hrm := mreadMarket_n (X := X) (M := M0) (L := L) (by rw [g2 2 (by decide)]; exact x2c) x2a (by rw [g0 301 (by decide)]; exact RR_B hR)
      refine kX9_market_0 (by rw [← hM0]; exact hrm) ?_
      rintro z M2 ⟨hz, hkeep, hI2⟩
      cases hz
      obtain ⟨m', hm', j1, j2, j3, j4, ⟨j5, j6⟩, ⟨j7, j8⟩, j9, j10, j11⟩ := hI2 hV0
      rw [g0 301 (by decide)] at hm' j1 j2 j3 j4 j5 j6 j7 j8 j9 j10 j11
      have hmm : m' = m := pos_inj (hm'.trans hm.symm)
      subst hmm
      obtain ⟨n', hn'⟩ : ∃ n', n' = tcn (M 301) m' := ⟨_, rfl⟩
      obtain ⟨g', hg'⟩ : ∃ g', g' = gcn (M 301) m' := ⟨_, rfl⟩
      rw [← hn'] at i3 i4 i9 j1 j2 ⊢
      rw [← hg'] at i5 i6 j3 j4
      have tel : ∀ t, t < n' → ∃ i, i < m' ∧ isT (M 301 (pos (M 301) i)) = true ∧ tcn (M 301) i = t := fun t ht => tcn_sur (by rw [← hn']; exact ht)
      refine kX9_market_9 (fun _ => ?_) (fun q => absurd hV0 q)
      refine kX9_market_17 ?_
      -- the four numbers
      have q18 : ∀ z, (up2 M2 200 4 z) 200 19 = M2 200 19 := fun z => up2_j (by decide)
      have q20 : ∀ z y, (up2 (up2 M2 200 4 z) 200 5 y) 200 20 = M2 200 20 := fun z y => by rw [up2_j (by decide), up2_j (by decide)]
      have q21 : ∀ z y x, (up2 (up2 (up2 M2 200 4 z) 200 5 y) 200 6 x) 200 21 = M2 200 21 := fun z y x => by rw [up2_j (by decide), up2_j (by decide), up2_j (by decide)]
      rw [q18, q20, q21, j1, j3, j5, j7]
      obtain ⟨M3, hM3⟩ : ∃ M3, M3 = up2 (up2 (up2 (up2 M2 200 4 (M 301 1 - 48)) 200 5 (M 301 2 - 48)) 200 6 (n' : Int)) 200 15 (g' : Int) := ⟨_, rfl⟩
      rw [← hM3]
      have o3 : ∀ o, o ≠ 200 → M3 o = M2 o := fun o ho => by
        rw [hM3]
        funext j
        rw [up2_o ho, up2_o ho, up2_o ho, up2_o ho]
      have h3 : ∀ j, j ≠ 4 → j ≠ 5 → j ≠ 6 → j ≠ 15 → M3 200 j = M2 200 j := fun j a1 a2 a3 a4 => by rw [hM3, up2_j a4, up2_j a3, up2_j a2, up2_j a1]
      have h34 : M3 200 4 = M 301 1 - 48 := by rw [hM3, up2_j (by decide), up2_j (by decide), up2_j (by decide), up2_eq]
      have h35 : M3 200 5 = M 301 2 - 48 := by rw [hM3, up2_j (by decide), up2_j (by decide), up2_eq]
      have h36 : M3 200 6 = (n' : Int) := by rw [hM3, up2_j (by decide), up2_eq]
      have h315 : M3 200 15 = (g' : Int) := by rw [hM3, up2_eq]
      have tm : ∀ t, t < n' → ∃ i, i < m' ∧ tcn (M 301) i = t ∧ ((1 ≤ M2 322 t ∧ M2 322 t ≤ 9) ∧ (0 ≤ M2 323 t ∧ M2 323 t ≤ 1) ∧ (0 ≤ M2 324 t ∧ M2 324 t ≤ 99) ∧ (0 ≤ M2 325 t ∧ M2 325 t ≤ 3) ∧ 0 ≤ M2 326 t ∧ M2 326 t ≤ 1) ∧ cl M1 0 t = M2 322 t ∧ cl M1 1 t = M2 323 t ∧ cl M1 2 t = M2 324 t ∧ cl M1 3 t = M2 325 t ∧ cl M1 4 t = M2 326 t := by
        intro t ht
        obtain ⟨i, t1, t2, t3⟩ := tel t ht
        have u1 := j9 i t1 t2
        have u2 := i8 i t1 t2
        rw [t3] at u1 u2
        exact ⟨i, t1, t3, tIs_in j11 t1 t2 u1, tIs_eq u2 u1⟩
      refine mmarketA j2 h36 (fun t ht => ?_) (fun M4 b1 b2 => ?_)
      · obtain ⟨i, -, -, ⟨-, u2, -, -, u5⟩, -⟩ := tm t ht
        rw [o3 323 (by decide), o3 326 (by decide)]
        exact ⟨u2, u5⟩
      · rw [o3 322 (by decide), o3 323 (by decide), o3 324 (by decide), o3 325 (by decide), o3 326 (by decide)] at b2
        refine mmarketB j4 (by rw [b1 200 (by decide)]; exact h315) (fun M5 c1 c2 => ?_)
        rw [b1 327 (by decide), b1 328 (by decide), o3 327 (by decide), o3 328 (by decide)] at c2
        obtain ⟨MF, hMF⟩ : ∃ MF, MF = up2 M5 200 30 0 := ⟨_, rfl⟩
        refine kX9_market_170 ?_
        rw [← hMF]
        have oF : ∀ o, o ≠ 200 → MF o = M5 o := fun o ho => by
          rw [hMF]
          exact funext (fun j => up2_o ho)
        have hF : ∀ j, j ≠ 30 → MF 200 j = M3 200 j := fun j hj => by rw [hMF, up2_j hj, c1 200 (by decide) (by decide), b1 200 (by decide)]
        -- everything else
        have e1 : ∀ o, o < 200 → MF o = M1 o := fun o ho => by
          rw [oF o (by omega), c1 o (by omega) (by omega), b1 o (by omega), o3 o (by omega), ← gl o ho]
          exact funext (fun j => hkeep o j (Or.inl (by omega)) (Or.inl (by omega)))
        have e2 : ∀ o, (200 < o ∧ o < 307) ∨ o = 315 ∨ (317 < o ∧ o < 322) ∨ 328 < o → MF o = M o := fun o ho => by
          rw [oF o (by omega), c1 o (by omega) (by omega), b1 o (by omega), o3 o (by omega), ← g0 o (by omega)]
          exact funext (fun j => hkeep o j (by omega) (Or.inl (by omega)))
        have e3 : ∀ o, o < 200 → o ≠ 0 → o ≠ oT 0 → o ≠ oC 0 → o ≠ 3 → o ≠ 4 → o ≠ 5 → o ≠ oB 0 → MF o = M o := fun o ho a1 a2 a3 a4 a5 a6 a7 => by rw [e1 o ho, i0 o a1 a2 a3 a4 a5 a6 a7]
        have e7 : ∀ o, 307 ≤ o → o ≤ 314 → MF o = M4 o := fun o h1 h2 => by rw [oF o (by omega), c1 o (by omega) (by omega)]
        refine ⟨by rw [hF 6 (by decide), h36], n', 0, g', L, ⟨⟨j2, ?_, ?_⟩, fun t ht => ?_, fun t ht => ?_⟩, ⟨⟨Nat.zero_le _, ?_, ?_⟩, fun i hi => absurd hi (Nat.not_lt_zero i)⟩, ⟨j4, ?_, ?_⟩, ⟨x2a, ?_, ?_⟩, ?_, ?_, fun k hk => ?_, ?_, ?_, ?_, slots_eq (fun o ho => ?_) x9⟩
        · rw [e1 _ (by unfold oT; decide)]; exact i3
        · rw [hF 6 (by decide)]; exact h36
        · obtain ⟨i, -, -, ⟨u1, u2, u3, u4, u5⟩, v1, v2, v3, v4, v5⟩ := tm t ht
          obtain ⟨⟨w1, w2, w3, w4, w5⟩, w6, w7, w8⟩ := b2 t ht
          obtain ⟨y1, y2, y3⟩ := i9 t ht
          rw [e1 (oC 0) (by unfold oC; decide), e7 307 (by decide) (by decide), e7 308 (by decide) (by decide), e7 309 (by decide) (by decide), e7 310 (by decide) (by decide), e7 311 (by decide) (by decide), e7 313 (by decide) (by decide), e7 314 (by decide) (by decide), w1, w2, w3, w4, w5, w7]
          unfold cl at v1 v2 v3 v4 v5 y1 y2 y3
          refine ⟨⟨v1, v2, v3, v4, v5, y2⟩, ⟨u1, u2, u3, u4, u5, by decide, by decide⟩, fun k hk => ?_⟩
          obtain rfl : k = 0 := by omega
          show M1 (oC 0) (15 * t + 7) = M4 314 (8 * t)
          rw [w8, y3, v4]
        · obtain ⟨i, -, -, ⟨u1, u2, u3, u4, u5⟩, v1, v2, v3, v4, v5⟩ := tm t ht
          obtain ⟨-, w6, w7, w8⟩ := b2 t ht
          obtain ⟨y1, y2, y3⟩ := i9 t ht
          rw [e1 (oC 0) (by unfold oC; decide), e7 312 (by decide) (by decide), w6]
          unfold cl at v3 y1
          exact ⟨y1.trans v3, u3⟩
        · rw [e1 _ (by unfold oB; decide)]; exact i7
        · rw [hMF, up2_eq]; rfl
        · rw [e1 3 (by decide)]; exact i5
        · rw [hF 15 (by decide)]; exact h315
        · rw [e3 1 (by decide) (by decide) (by unfold oT; decide) (by unfold oC; decide) (by decide) (by decide) (by decide) (by unfold oB; decide)]; exact x2b
        · rw [hF 2 (by decide), h3 2 (by decide) (by decide) (by decide) (by decide), hkeep 200 2 (Or.inl (by decide)) (Or.inr (by decide)), g2 2 (by decide)]; exact x2c
        · rw [e1 0 (by decide), hF 4 (by decide), h34]; exact ⟨i1, j6⟩
        · rw [e1 0 (by decide), hF 5 (by decide), h35]; exact ⟨i2, j8⟩
        · obtain ⟨i, t1, t2, t3⟩ := gcn_sur (show k < gcn (M 301) m' by rw [← hg']; exact hk)
          have u1 := j10 i t1 t2
          have u2 := i10 i t1 t2
          rw [t3] at u1 u2
          obtain ⟨r1, r2⟩ := gIs_in j11 t1 t2 u1
          obtain ⟨c3, c4⟩ := c2 k hk
          rw [e1 4 (by decide), e1 5 (by decide), oF 316 (by decide), oF 317 (by decide), c3, c4]
          exact ⟨⟨u2.1.trans u1.1.symm, r1⟩, u2.2.trans u1.2.symm, r2⟩
        · have eb : bytF MF = bytF M := bytF_eq (e3 2 (by decide) (by decide) (by unfold oT; decide) (by unfold oC; decide) (by decide) (by decide) (by decide) (by unfold oB; decide))
          rw [eb, e2 301 (by decide)]; exact x6
        · rw [e3 (oG 0) (by unfold oG; decide) (by unfold oG; decide) (by unfold oT oG; decide) (by unfold oC oG; decide) (by unfold oG; decide) (by unfold oG; decide) (by unfold oG; decide) (by unfold oB oG; decide), e3 (oN 0) (by unfold oN; decide) (by unfold oN; decide) (by unfold oT oN; decide) (by unfold oC oN; decide) (by unfold oN; decide) (by unfold oN; decide) (by unfold oN; decide) (by unfold oB oN; decide), e2 331 (by decide), e2 332 (by decide)]; exact x7
        · rw [e3 35 (by decide) (by decide) (by unfold oT; decide) (by unfold oC; decide) (by decide) (by decide) (by decide) (by unfold oB; decide)]; exact x8
        · unfold slo at ho
          by_cases h2 : o < 200
          · exact e3 o h2 (by omega) (by unfold oT; omega) (by unfold oC; omega) (by omega) (by omega) (by omega) (by unfold oB; omega)
          · exact e2 o (by omega)
  · have hR0 := RR_quiet hR q0
    refine Agree.ask0 (r0 := vi (-3)) h ?_ ?_
    · refine kX8_market_0 (faultPlace_n x2a x2b) (on ?_)
      rw [hflt]
      exact kX8_market_7 (fun q => absurd q hV) (fun _ => kX8_market_12 ⟨rfl, rfl⟩)
    · refine kX9_market_0 (mreadMarket_n hR0.2.2.2.1.2.2 hR0.2.2.2.1.1 (RR_B hR0)) ?_
      rintro z M1 ⟨hz, k, -⟩
      cases hz
      refine kX9_market_9 (fun q => absurd q hV) (fun _ => kX9_market_14 ⟨rfl, quiet_trans q0 (quiet_Rd k)⟩)
end MN
