/-! ===== gone on from ===== -/
def w01 (z : Int) : Int := if z = 1 then 1 else 0
section KR
variable {X : Scr} {M : Mem} {P : Option AV → Mem → Prop}
theorem againA {s : Nat} (hs : s < 2) (kk : ∀ M2 : Mem, (∀ o, o ≠ 308 → o ≠ 311 → o ≠ 312 → M2 o = M o) → (∀ t, t < 10 → M2 312 t = M 334 (30 * s + t) ∧ M2 308 t = w01 (M 334 (30 * s + 10 + t)) ∧ M2 311 t = w01 (M 334 (30 * s + 20 + t))) → Runs X mX9_again 143 [(0, vr 200), (1, vi (s : Int))] [] M2 P) : Runs X mX9_again 54 [(0, vr 200), (1, vi (s : Int))] [] M P := by
  refine kX9_again_54 ?_
  have go : ∀ k, k ≤ 10 → ∀ M2 : Mem, (∀ o, o ≠ 308 → o ≠ 311 → o ≠ 312 → M2 o = M o) → (∀ t, t < k → M2 312 t = M 334 (30 * s + t) ∧ M2 308 t = w01 (M 334 (30 * s + 10 + t)) ∧ M2 311 t = w01 (M 334 (30 * s + 20 + t))) → Runs X mX9_again 56 [(0, vr 200), (1, vi (s : Int)), (2, vi (k : Int))] [] M2 P := by
    refine up_loop (n := 10) ?_ ?_
    · intro M2 k1 k2
      exact kX9_again_56 (fun q => kk M2 k1 k2) (fun q => by omega)
    · intro k hk ih M2 k1 k2
      have ek : ((k : Int)).toNat = k := by omega
      have e0 : (30 * (s : Int) + (k : Int)).toNat = 30 * s + k := by omega
      have e1 : (30 * (s : Int) + 10 + (k : Int)).toNat = 30 * s + 10 + k := by omega
      have e2 : (30 * (s : Int) + 20 + (k : Int)).toNat = 30 * s + 20 + k := by omega
      have e334 : M2 334 = M 334 := k1 334 (by decide) (by decide) (by decide)
      have last : ∀ z y : Int, z = w01 (M 334 (30 * s + 10 + k)) → y = w01 (M 334 (30 * s + 20 + k)) → (0 ≤ y ∧ y ≤ 1) → Runs X mX9_again 136 [(0, vr 200), (1, vi (s : Int)), (2, vi (k : Int))] [vi y, vi (k : Int), vr 311] (up2 (up2 M2 312 k (M 334 (30 * s + k))) 308 k z) P := by
        intro z y hz hy hy1
        refine kX9_again_136 ?_
        rw [ek, cast1]
        refine ih _ (fun o o1 o2 o3 => ?_) (all_S.mpr ⟨fun t ht => ?_, ?_, ?_, ?_⟩)
        · funext j
          rw [up2_o o2, up2_o o1, up2_o o3, k1 o o1 o2 o3]
        · obtain ⟨h1, h2, h3⟩ := k2 t ht
          refine ⟨?_, ?_, ?_⟩
          · rw [up2_o (by decide), up2_o (by decide), up2_j (by omega)]; exact h1
          · rw [up2_o (by decide), up2_j (by omega), up2_o (by decide)]; exact h2
          · rw [up2_j (by omega), up2_o (by decide), up2_o (by decide)]; exact h3
        · rw [up2_o (by decide), up2_o (by decide), up2_eq]
        · rw [up2_o (by decide), up2_eq, hz]
        · rw [up2_eq, hy]
      have mid : ∀ z : Int, z = w01 (M 334 (30 * s + 10 + k)) → (0 ≤ z ∧ z ≤ 1) → Runs X mX9_again 107 [(0, vr 200), (1, vi (s : Int)), (2, vi (k : Int))] [vi z, vi (k : Int), vr 308] (up2 M2 312 k (M 334 (30 * s + k))) P := by
        intro z hz hz1
        have hv : ∀ q : Int, (up2 (up2 M2 312 k (M 334 (30 * s + k))) 308 k q) 334 (30 * s + 20 + k) = M 334 (30 * s + 20 + k) := fun q => by rw [up2_o (by decide), up2_o (by decide), e334]
        refine kX9_again_107 (fun q => kX9_again_135 ?_) (fun q => kX9_again_131 ?_)
        · rw [e2, ek, hv] at q
          rw [ek]
          exact last z 0 hz (by unfold w01; rw [if_neg q]) (by decide)
        · rw [e2, ek, hv] at q
          rw [ek]
          exact last z 1 hz (by unfold w01; rw [if_pos q]) (by decide)
      have hv : (up2 M2 312 k (M 334 (30 * s + k))) 334 (30 * s + 10 + k) = M 334 (30 * s + 10 + k) := by rw [up2_o (by decide), e334]
      refine kX9_again_56 (fun q => by omega) (fun q => ?_)
      refine kX9_again_62 (fun q => kX9_again_106 ?_) (fun q => kX9_again_102 ?_)
      · rw [e0, e1, ek, e334, hv] at q
        rw [e0, ek, e334]
        exact mid 0 (by unfold w01; rw [if_neg q]) (by decide)
      · rw [e0, e1, ek, e334, hv] at q
        rw [e0, ek, e334]
        exact mid 1 (by unfold w01; rw [if_pos q]) (by decide)
  exact go 0 (Nat.zero_le _) M (fun o _ _ _ => rfl) (fun t ht => by omega)
theorem againB {s : Nat} (hs : s < 2) (kk : ∀ M2 : Mem, (∀ o, o ≠ 329 → M2 o = M o) → (∀ t, t < 968 → M2 329 t = M 335 (968 * s + t)) → Runs X mX9_again 176 [(0, vr 200), (1, vi (s : Int))] [] M2 P) : Runs X mX9_again 143 [(0, vr 200), (1, vi (s : Int))] [] M P := by
  refine kX9_again_143 ?_
  have go : ∀ k, k ≤ 968 → ∀ M2 : Mem, (∀ o, o ≠ 329 → M2 o = M o) → (∀ t, t < k → M2 329 t = M 335 (968 * s + t)) → Runs X mX9_again 145 [(0, vr 200), (1, vi (s : Int)), (2, vi (k : Int))] [] M2 P := by
    refine up_loop (n := 968) ?_ ?_
    · intro M2 k1 k2
      exact kX9_again_145 (fun q => kk M2 k1 k2) (fun q => by omega)
    · intro k hk ih M2 k1 k2
      have ek : ((k : Int)).toNat = k := by omega
      have e0 : (968 * (s : Int) + (k : Int)).toNat = 968 * s + k := by omega
      refine kX9_again_145 (fun q => by omega) (fun q => kX9_again_152 ?_)
      rw [e0, ek, cast1, k1 335 (by decide)]
      refine ih _ (fun o ho => ?_) (all_S.mpr ⟨fun t ht => ?_, ?_⟩)
      · funext j
        rw [up2_o ho, k1 o ho]
      · rw [up2_j (by omega)]; exact k2 t ht
      · rw [up2_eq]
  exact go 0 (Nat.zero_le _) M (fun o _ => rfl) (fun t ht => by omega)
theorem againC {s : Nat} (hs : s < 2) (kk : ∀ M2 : Mem, (∀ o, o ≠ 331 → o ≠ 332 → M2 o = M o) → (∀ t, t < 16 → M2 331 t = M 336 (32 * s + t) ∧ M2 332 t = M 336 (32 * s + 16 + t)) → Runs X mX9_again 227 [(0, vr 200), (1, vi (s : Int))] [] M2 P) : Runs X mX9_again 176 [(0, vr 200), (1, vi (s : Int))] [] M P := by
  refine kX9_again_176 ?_
  have go : ∀ k, k ≤ 16 → ∀ M2 : Mem, (∀ o, o ≠ 331 → o ≠ 332 → M2 o = M o) → (∀ t, t < k → M2 331 t = M 336 (32 * s + t) ∧ M2 332 t = M 336 (32 * s + 16 + t)) → Runs X mX9_again 178 [(0, vr 200), (1, vi (s : Int)), (2, vi (k : Int))] [] M2 P := by
    refine up_loop (n := 16) ?_ ?_
    · intro M2 k1 k2
      exact kX9_again_178 (fun q => kk M2 k1 k2) (fun q => by omega)
    · intro k hk ih M2 k1 k2
      have ek : ((k : Int)).toNat = k := by omega
      have e0 : (32 * (s : Int) + (k : Int)).toNat = 32 * s + k := by omega
      have e1 : (32 * (s : Int) + 16 + (k : Int)).toNat = 32 * s + 16 + k := by omega
      refine kX9_again_178 (fun q => by omega) (fun q => kX9_again_184 ?_)
      have e2 : (up2 M2 331 k (M 336 (32 * s + k))) 336 (32 * s + 16 + k) = M 336 (32 * s + 16 + k) := by rw [up2_o (by decide), k1 336 (by decide) (by decide)]
      rw [e0, e1, ek, cast1, k1 336 (by decide) (by decide), e2]
      refine ih _ (fun o o1 o2 => ?_) (all_S.mpr ⟨fun t ht => ?_, ?_, ?_⟩)
      · funext j
        rw [up2_o o2, up2_o o1, k1 o o1 o2]
      · obtain ⟨h1, h2⟩ := k2 t ht
        refine ⟨?_, ?_⟩
        · rw [up2_o (by decide), up2_j (by omega)]; exact h1
        · rw [up2_j (by omega), up2_o (by decide)]; exact h2
      · rw [up2_o (by decide), up2_eq]
      · rw [up2_eq]
  exact go 0 (Nat.zero_le _) M (fun o _ _ => rfl) (fun t ht => by omega)
end KR
/-- what the model has written, when it has gone on from a slot -/
def againT (M M2 : Mem) (s m : Nat) : Prop := (∀ o, o < 200 ∨ (200 < o ∧ o < 307) ∨ (314 < o ∧ o ≠ 329 ∧ o ≠ 331 ∧ o ≠ 332) → M2 o = M o) ∧ (∀ t, t < m → M2 307 t = M 333 (121 * s + 1 + t) ∧ M2 309 t = M 333 (121 * s + 11 + t) ∧ M2 310 t = M 333 (121 * s + 21 + t) ∧ M2 313 t = M 333 (121 * s + 31 + t)) ∧ (∀ j, j < 8 * m → M2 314 j = M 333 (121 * s + 41 + j)) ∧ (∀ t, t < 10 → M2 312 t = M 334 (30 * s + t) ∧ M2 308 t = w01 (M 334 (30 * s + 10 + t)) ∧ M2 311 t = w01 (M 334 (30 * s + 20 + t))) ∧ (∀ t, t < 968 → M2 329 t = M 335 (968 * s + t)) ∧ (∀ t, t < 16 → M2 331 t = M 336 (32 * s + t) ∧ M2 332 t = M 336 (32 * s + 16 + t)) ∧ M2 200 6 = (m : Int) ∧ M2 200 30 = M 338 s ∧ ∀ j, j ≠ 6 → j ≠ 30 → M2 200 j = M 200 j
section KS
variable {X : Scr} {M : Mem}
theorem magain_n {s m : Nat} (hs : s < 2) (hm : M 333 (121 * s) = (m : Int)) (hm10 : m ≤ 10) : Runs X mX9_again 29 [(0, vr 200), (1, vi (s : Int))] [] M (fun r M2 => r = some (vi (m : Int)) ∧ againT M M2 s m) := by
  obtain ⟨P, hP⟩ : ∃ P : Option AV → Mem → Prop, P = fun r M2 => r = some (vi (m : Int)) ∧ againT M M2 s m := ⟨_, rfl⟩
  rw [← hP]
  have es : ((s : Int)).toNat = s := by omega
  have ea : 121 * (s : Int) = ((121 * s : Nat) : Int) := by omega
  have ea2 : (121 * (s : Int)).toNat = 121 * s := by omega
  have u : ∀ o, o ≠ 200 → (up2 M 200 6 (m : Int)) o = M o := fun o ho => funext (fun j => up2_o ho)
  refine kX9_again_29 (by rw [ea2, hm, ea]; exact take_n (a := 121 * s) (n1 := 242) (m := m) rfl (by decide) (by omega) (by decide) (by rw [u 333 (by decide)]; exact hm) hm10) ?_
  rintro M3 ⟨-, a1, a2, a3, a4, a5⟩
  rw [u 333 (by decide)] at a2 a4
  refine againA hs (fun M4 b1 b2 => ?_)
  refine againB hs (fun M5 c1 c2 => ?_)
  refine againC hs (fun M6 d1 d2 => ?_)
  refine kX9_again_227 ?_
  rw [es, hP]
  have f : ∀ o, o ≠ 200 → (up2 M6 200 30 (M6 338 s)) o = M6 o := fun o ho => funext (fun j => up2_o ho)
  have e3 : ∀ o, 200 < o → (o < 307 ∨ 314 < o) → M3 o = M o := fun o o1 o2 => by rw [a1 o (by omega) (by omega) (by omega) (by omega) (by omega), u o (by omega)]
  have e6 : ∀ j, M6 200 j = (up2 M 200 6 (m : Int)) 200 j := fun j => by rw [d1 200 (by decide) (by decide), c1 200 (by decide), b1 200 (by decide) (by decide) (by decide), a1 200 (by decide) (by decide) (by decide) (by decide) (by decide)]
  have e338 : M6 338 = M 338 := by rw [d1 338 (by decide) (by decide), c1 338 (by decide), b1 338 (by decide) (by decide) (by decide), e3 338 (by decide) (by decide)]
  have h6 : (up2 M6 200 30 (M6 338 s)) 200 6 = (m : Int) := by rw [up2_j (by decide), e6, up2_eq]
  refine ⟨by rw [h6], fun o ho => ?_, fun t ht => ?_, fun j hj => ?_, ?_, ?_, ?_, h6, ?_, fun j j1 j2 => ?_⟩
  · rw [f o (by omega), d1 o (by omega) (by omega), c1 o (by omega), b1 o (by omega) (by omega) (by omega), a1 o (by omega) (by omega) (by omega) (by omega) (by omega), u o (by omega)]
  · have k : ∀ o, (o = 307 ∨ o = 309 ∨ o = 310 ∨ o = 313) → (up2 M6 200 30 (M6 338 s)) o = M3 o := fun o ho => by rw [f o (by omega), d1 o (by omega) (by omega), c1 o (by omega), b1 o (by omega) (by omega) (by omega)]
    rw [k 307 (by decide), k 309 (by decide), k 310 (by decide), k 313 (by decide)]
    exact a2 t ht
  · rw [f 314 (by decide), d1 314 (by decide) (by decide), c1 314 (by decide), b1 314 (by decide) (by decide) (by decide)]
    exact a4 j hj
  · rw [f 312 (by decide), d1 312 (by decide) (by decide), c1 312 (by decide), f 308 (by decide), d1 308 (by decide) (by decide), c1 308 (by decide), f 311 (by decide), d1 311 (by decide) (by decide), c1 311 (by decide)]
    rw [e3 334 (by decide) (by decide)] at b2
    exact b2
  · rw [f 329 (by decide), d1 329 (by decide) (by decide)]
    rw [b1 335 (by decide) (by decide) (by decide), e3 335 (by decide) (by decide)] at c2
    exact c2
  · rw [f 331 (by decide), f 332 (by decide)]
    rw [c1 336 (by decide), b1 336 (by decide) (by decide) (by decide), e3 336 (by decide) (by decide)] at d2
    exact d2
  · rw [up2_eq, e338]
  · rw [up2_j j2, e6, up2_j j1]
theorem ag_again {i : Int} (h : RR M) : Agree X mX8_again mX9_again [vr 0, vi i] [vr 200, vi i] M := by
  obtain ⟨n, b, g, L, hR⟩ := id h
  by_cases hi : 0 ≤ i ∧ i < 2
  · obtain ⟨s, rfl⟩ : ∃ s : Nat, i = (s : Int) := ⟨i.toNat, by omega⟩
    have hs : s < 2 := by omega
    have es : ((s : Int)).toNat = s := by omega
    obtain ⟨hRM, hRB, ⟨x1, x2, x3, x4, x5, x6, x7, x8, x9⟩⟩ := id hR
    by_cases hk : M 337 s = 0
    · refine Agree.ask0 (r0 := vi (-3)) h ?_ ?_
      · refine kX8_again_0 isSlot_n (on ?_)
        refine kX8_again_5 (fun _ => ?_) (fun q => absurd hi (b2i_d0.mp q))
        refine kX8_again_10 (fun q => ?_) (fun q => kX8_again_22 ⟨rfl, rfl⟩)
        rw [es, (x9 s hs).1] at q
        exact absurd hk q
      · refine kX9_again_0 in_n (on ?_)
        refine kX9_again_12 (fun _ => ?_) (fun q => absurd (by omega) (b2i_d0.mp q))
        refine kX9_again_17 (fun q => ?_) (fun q => kX9_again_26 ⟨rfl, q0⟩)
        rw [es, up2_o (by decide)] at q
        exact absurd hk q
    · obtain ⟨m, c, hW, w3, w8⟩ := SL_W.mp ((x9 s hs).2 hk)
      have hm10 : m ≤ 10 := hW.1.1
      have hc8 : c ≤ 8 := hW.2.2.2.1.1
      have hcB := hW.2.2.2.1.2
      obtain ⟨MC, hMC⟩ : ∃ MC, MC = givM M s c := ⟨_, rfl⟩
      have hcp := cpW (M := M) (w := 0) (v := s + 1) (b := c) (by decide) (by omega) (by omega) hc8
      have eg : givM M s c = rcopM (bcp (up2 (copT M (9 * 0) (9 * (s + 1))) (oB 0) 1 c) 0 (s + 1) c) 0 (s + 1) := rfl
      rw [← eg, ← hMC] at hcp
      obtain ⟨w1, w2⟩ := hcp
      refine ⟨fun r M1 => r = some (vi (m : Int)) ∧ M1 = MC, ?_, ?_⟩
      · refine kX8_again_0 isSlot_n (on ?_)
        refine kX8_again_5 (fun _ => ?_) (fun q => absurd hi (b2i_d0.mp q))
        refine kX8_again_10 (fun q => ?_) (fun q => ?_)
        · refine kX8_again_25 (by rw [es]; exact giveOut_n hs hcB hc8) (on0 ?_)
          refine kX8_again_46 ⟨?_, hMC.symm⟩
          have := w2.1
          rw [show 9 * 0 = 0 from rfl] at this
          rw [← hMC, this, hW.1.2]
        · rw [es, (x9 s hs).1] at q
          exact absurd q hk
      · rintro r M1 ⟨rfl, hM1⟩
        obtain ⟨M0, hM0⟩ : ∃ M0, M0 = up2 M1 200 0 0 := ⟨_, rfl⟩
        have g0 : ∀ o, 200 < o → M0 o = M o := fun o ho => by
          rw [← w1 o (by unfold inW; omega), ← hM1, hM0]
          exact funext (fun j => up2_o (by omega))
        have g2 : ∀ j, j ≠ 0 → M0 200 j = M 200 j := fun j hj => by
          rw [← w1 200 (by unfold inW; omega), ← hM1, hM0, up2_j hj]
        have gl : ∀ o, o < 200 → M0 o = MC o := fun o ho => by
          rw [← hM1, hM0]
          exact funext (fun j => up2_o (by omega))
        refine kX9_again_0 in_n (on ?_)
        rw [← hM0]
        refine kX9_again_12 (fun _ => ?_) (fun q => absurd (by omega) (b2i_d0.mp q))
        refine kX9_again_17 (fun _ => ?_) (fun q => by rw [es, g0 337 (by decide)] at q; exact absurd q hk)
        refine (magain_n hs (by rw [g0 333 (by decide)]; exact w3) hm10).mono ?_
        rintro r' M2 ⟨rfl, hK⟩
        obtain ⟨k0, k1, k2, k3, k4, k5, k6, k7, k8⟩ := hK
        rw [g0 333 (by decide)] at k1 k2
        rw [g0 334 (by decide)] at k3
        rw [g0 335 (by decide)] at k4
        rw [g0 336 (by decide)] at k5
        rw [g0 338 (by decide)] at k7
        have q1 : ∀ o, o < 200 → M2 o = MC o := fun o ho => by rw [k0 o (Or.inl ho), gl o ho]
        have q2 : ∀ o, (200 < o ∧ o < 307) ∨ (314 < o ∧ o ≠ 329 ∧ o ≠ 331 ∧ o ≠ 332) → M2 o = M o := fun o ho => by rw [k0 o (Or.inr ho), g0 o (by omega)]
        have q3 : ∀ j, j ≠ 0 → j ≠ 6 → j ≠ 30 → M2 200 j = M 200 j := fun j j0 j1 j2 => by rw [k8 j j1 j2, g2 j j0]
        have q4 : ∀ o, o < 200 → ¬ inW 0 o → M2 o = M o := fun o ho h1 => by rw [q1 o ho, w1 o h1]
        refine ⟨rfl, m, c, g, L, ?_⟩
        have hMW : MWw M2 m c := by
          unfold SLw at hW
          unfold MWw
          refine WR_cp (M2 := M2) (w := 0) hW ?_ (fun t ht => ?_) (fun j hj => ?_) (fun j hj => ?_) (fun j hj => ?_)
          · obtain ⟨c1, c2, c3, c4, c5⟩ := w2
            refine ⟨?_, fun j hj => ?_, ?_, fun k hk => ⟨?_, fun j hj => ?_⟩, fun j hj => ⟨?_, ?_⟩⟩
            · rw [q1 _ (by unfold oT; omega)]; exact c1
            · rw [q1 _ (by unfold oC; omega)]; exact c2 j hj
            · rw [q1 _ (by unfold oB; omega)]; exact c3
            · rw [q1 _ (by unfold oT; omega)]; exact (c4 k hk).1
            · rw [q1 _ (by unfold oC; omega)]; exact (c4 k hk).2 j hj
            · rw [q1 _ (by unfold oG; omega)]; exact (c5 j hj).1
            · rw [q1 _ (by unfold oN; omega)]; exact (c5 j hj).2
          · obtain ⟨-, ⟨-, d2, -, -, d5, -⟩, -⟩ := hW.2.1 t ht
            obtain ⟨f1, f2, f3, f4⟩ := k1 t ht
            obtain ⟨f5, f6, f7⟩ := k3 t (by omega)
            unfold bk at d2 d5 ⊢
            refine ⟨⟨f1, ?_, f2, f3, ?_, f4⟩, f5⟩
            · rw [f6]; unfold w01; split <;> omega
            · rw [f7]; unfold w01; split <;> omega
          · unfold bk
            exact k2 j hj
          · rw [Nat.zero_add]
            exact k4 j hj
          · unfold bk
            exact k5 j hj
        obtain ⟨r1, r2, r3⟩ := MW_W.mp ⟨hMW, k6, by rw [k7]; exact w8⟩
        refine ⟨r1, r2, ?_, ?_, ?_, ?_, ?_, ?_, r3, ?_, slots_eq (fun o ho => ?_) x9⟩
        · rw [q4 3 (by decide) (by unfold inW; omega), q3 15 (by decide) (by decide) (by decide)]; exact x1
        · rw [q4 1 (by decide) (by unfold inW; omega), q3 2 (by decide) (by decide) (by decide)]; exact x2
        · rw [q4 0 (by decide) (by unfold inW; omega), q3 4 (by decide) (by decide) (by decide)]; exact x3
        · rw [q4 0 (by decide) (by unfold inW; omega), q3 5 (by decide) (by decide) (by decide)]; exact x4
        · rw [q4 4 (by decide) (by unfold inW; omega), q4 5 (by decide) (by unfold inW; omega), q2 316 (by decide), q2 317 (by decide)]; exact x5
        · have eb : bytF M2 = bytF M := bytF_eq (q4 2 (by decide) (by unfold inW; omega))
          rw [eb, q2 301 (by decide)]; exact x6
        · rw [q4 35 (by decide) (by unfold inW; omega)]; exact x8
        · unfold slo at ho
          by_cases h2 : o < 200
          · exact q4 o h2 (by unfold inW; omega)
          · exact q2 o (by omega)
  · refine Agree.ask0 (r0 := vi (-1)) h ?_ ?_
    · refine kX8_again_0 isSlot_n (on ?_)
      exact kX8_again_5 (fun q => absurd (b2i_d1.mp q) hi) (fun _ => kX8_again_8 ⟨rfl, rfl⟩)
    · refine kX9_again_0 in_n (on ?_)
      exact kX9_again_12 (fun q => absurd (b2i_d1.mp q) (by omega)) (fun _ => kX9_again_15 ⟨rfl, q0⟩)
end KS
