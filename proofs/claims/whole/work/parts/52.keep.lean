/-! ===== kept ===== -/
def v01 (z : Int) : Int := if z = 0 then 0 else 1
section KP
variable {X : Scr} {M : Mem} {P : Option AV → Mem → Prop}
theorem keepA {s : Nat} (hs : s < 2) (kk : ∀ M2 : Mem, (∀ o, o ≠ 334 → M2 o = M o) → (∀ t, t < 10 → M2 334 (30 * s + t) = M 312 t ∧ M2 334 (30 * s + 10 + t) = v01 (M 308 t) ∧ M2 334 (30 * s + 20 + t) = v01 (M 311 t)) → (∀ j, (j < 30 * s ∨ 30 * s + 30 ≤ j) → M2 334 j = M 334 j) → Runs X mX9_keep 123 [(0, vr 200), (1, vi (s : Int))] [] M2 P) : Runs X mX9_keep 36 [(0, vr 200), (1, vi (s : Int))] [] M P := by
  refine kX9_keep_36 ?_
  have go : ∀ k, k ≤ 10 → ∀ M2 : Mem, (∀ o, o ≠ 334 → M2 o = M o) → (∀ t, t < k → M2 334 (30 * s + t) = M 312 t ∧ M2 334 (30 * s + 10 + t) = v01 (M 308 t) ∧ M2 334 (30 * s + 20 + t) = v01 (M 311 t)) → (∀ j, (j < 30 * s ∨ 30 * s + 30 ≤ j) → M2 334 j = M 334 j) → Runs X mX9_keep 38 [(0, vr 200), (1, vi (s : Int)), (2, vi (k : Int))] [] M2 P := by
    refine up_loop (n := 10) ?_ ?_
    · intro M2 k1 k2 k3
      exact kX9_keep_38 (fun q => kk M2 k1 k2 k3) (fun q => by omega)
    · intro k hk ih M2 k1 k2 k3
      have ek : ((k : Int)).toNat = k := by omega
      have e0 : (30 * (s : Int) + (k : Int)).toNat = 30 * s + k := by omega
      have e1 : (30 * (s : Int) + 10 + (k : Int)).toNat = 30 * s + 10 + k := by omega
      have e2 : (30 * (s : Int) + 20 + (k : Int)).toNat = 30 * s + 20 + k := by omega
      have last : ∀ z y : Int, z = v01 (M 308 k) → y = v01 (M 311 k) → Runs X mX9_keep 116 [(0, vr 200), (1, vi (s : Int)), (2, vi (k : Int))] [vi y, vi (30 * (s : Int) + 20 + (k : Int)), vr 334] (up2 (up2 M2 334 (30 * s + k) (M 312 k)) 334 (30 * s + 10 + k) z) P := by
        intro z y hz hy
        refine kX9_keep_116 ?_
        rw [e2, cast1]
        refine ih _ (fun o ho => ?_) (all_S.mpr ⟨fun t ht => ?_, ?_, ?_, ?_⟩) (fun j hj => ?_)
        · funext j
          rw [up2_o ho, up2_o ho, up2_o ho, k1 o ho]
        · obtain ⟨h1, h2, h3⟩ := k2 t ht
          refine ⟨?_, ?_, ?_⟩ <;> rw [up2_j (by omega), up2_j (by omega), up2_j (by omega)]
          · exact h1
          · exact h2
          · exact h3
        · rw [up2_j (by omega), up2_j (by omega), up2_eq]
        · rw [up2_j (by omega), up2_eq, hz]
        · rw [up2_eq, hy]
        · rw [up2_j (by omega), up2_j (by omega), up2_j (by omega)]; exact k3 j hj
      have mid : ∀ z : Int, z = v01 (M 308 k) → Runs X mX9_keep 88 [(0, vr 200), (1, vi (s : Int)), (2, vi (k : Int))] [vi z, vi (30 * (s : Int) + 10 + (k : Int)), vr 334] (up2 M2 334 (30 * s + k) (M 312 k)) P := by
        intro z hz
        have hv : ∀ q : Int, (up2 (up2 M2 334 (30 * s + k) (M 312 k)) 334 (30 * s + 10 + k) q) 311 k = M 311 k := fun q => by rw [up2_o (by decide), up2_o (by decide), k1 311 (by decide)]
        refine kX9_keep_88 (fun q => kX9_keep_115 ?_) (fun q => kX9_keep_111 ?_)
        · rw [e1, ek, hv] at q
          rw [e1]
          exact last z 0 hz (by unfold v01; rw [if_pos q])
        · rw [e1, ek, hv] at q
          rw [e1]
          exact last z 1 hz (by unfold v01; rw [if_neg q])
      have hv : (up2 M2 334 (30 * s + k) (M 312 k)) 308 k = M 308 k := by rw [up2_o (by decide), k1 308 (by decide)]
      refine kX9_keep_38 (fun q => by omega) (fun q => ?_)
      refine kX9_keep_44 (fun q => kX9_keep_87 ?_) (fun q => kX9_keep_83 ?_)
      · rw [e0, ek, k1 312 (by decide), hv] at q
        rw [e0, ek, k1 312 (by decide)]
        exact mid 0 (by unfold v01; rw [if_pos q])
      · rw [e0, ek, k1 312 (by decide), hv] at q
        rw [e0, ek, k1 312 (by decide)]
        exact mid 1 (by unfold v01; rw [if_neg q])
  exact go 0 (Nat.zero_le _) M (fun o _ => rfl) (fun t ht => by omega) (fun j _ => rfl)
theorem keepB {s : Nat} (hs : s < 2) (kk : ∀ M2 : Mem, (∀ o, o ≠ 335 → M2 o = M o) → (∀ t, t < 968 → M2 335 (968 * s + t) = M 329 t) → (∀ j, (j < 968 * s ∨ 968 * s + 968 ≤ j) → M2 335 j = M 335 j) → Runs X mX9_keep 156 [(0, vr 200), (1, vi (s : Int))] [] M2 P) : Runs X mX9_keep 123 [(0, vr 200), (1, vi (s : Int))] [] M P := by
  refine kX9_keep_123 ?_
  have go : ∀ k, k ≤ 968 → ∀ M2 : Mem, (∀ o, o ≠ 335 → M2 o = M o) → (∀ t, t < k → M2 335 (968 * s + t) = M 329 t) → (∀ j, (j < 968 * s ∨ 968 * s + 968 ≤ j) → M2 335 j = M 335 j) → Runs X mX9_keep 125 [(0, vr 200), (1, vi (s : Int)), (2, vi (k : Int))] [] M2 P := by
    refine up_loop (n := 968) ?_ ?_
    · intro M2 k1 k2 k3
      exact kX9_keep_125 (fun q => kk M2 k1 k2 k3) (fun q => by omega)
    · intro k hk ih M2 k1 k2 k3
      have ek : ((k : Int)).toNat = k := by omega
      have e0 : (968 * (s : Int) + (k : Int)).toNat = 968 * s + k := by omega
      refine kX9_keep_125 (fun q => by omega) (fun q => kX9_keep_132 ?_)
      rw [e0, ek, cast1, k1 329 (by decide)]
      refine ih _ (fun o ho => ?_) (all_S.mpr ⟨fun t ht => ?_, ?_⟩) (fun j hj => ?_)
      · funext j
        rw [up2_o ho, k1 o ho]
      · rw [up2_j (by omega)]; exact k2 t ht
      · rw [up2_eq]
      · rw [up2_j (by omega)]; exact k3 j hj
  exact go 0 (Nat.zero_le _) M (fun o _ => rfl) (fun t ht => by omega) (fun j _ => rfl)
theorem keepC {s : Nat} (hs : s < 2) (kk : ∀ M2 : Mem, (∀ o, o ≠ 336 → M2 o = M o) → (∀ t, t < 16 → M2 336 (32 * s + t) = M 331 t ∧ M2 336 (32 * s + 16 + t) = M 332 t) → (∀ j, (j < 32 * s ∨ 32 * s + 32 ≤ j) → M2 336 j = M 336 j) → Runs X mX9_keep 207 [(0, vr 200), (1, vi (s : Int))] [] M2 P) : Runs X mX9_keep 156 [(0, vr 200), (1, vi (s : Int))] [] M P := by
  refine kX9_keep_156 ?_
  have go : ∀ k, k ≤ 16 → ∀ M2 : Mem, (∀ o, o ≠ 336 → M2 o = M o) → (∀ t, t < k → M2 336 (32 * s + t) = M 331 t ∧ M2 336 (32 * s + 16 + t) = M 332 t) → (∀ j, (j < 32 * s ∨ 32 * s + 32 ≤ j) → M2 336 j = M 336 j) → Runs X mX9_keep 158 [(0, vr 200), (1, vi (s : Int)), (2, vi (k : Int))] [] M2 P := by
    refine up_loop (n := 16) ?_ ?_
    · intro M2 k1 k2 k3
      exact kX9_keep_158 (fun q => kk M2 k1 k2 k3) (fun q => by omega)
    · intro k hk ih M2 k1 k2 k3
      have ek : ((k : Int)).toNat = k := by omega
      have e0 : (32 * (s : Int) + (k : Int)).toNat = 32 * s + k := by omega
      have e1 : (32 * (s : Int) + 16 + (k : Int)).toNat = 32 * s + 16 + k := by omega
      refine kX9_keep_158 (fun q => by omega) (fun q => kX9_keep_164 ?_)
      have e2 : (up2 M2 336 (32 * s + k) (M 331 k)) 332 k = M 332 k := by rw [up2_o (by decide), k1 332 (by decide)]
      rw [e0, e1, ek, cast1, k1 331 (by decide), e2]
      refine ih _ (fun o ho => ?_) (all_S.mpr ⟨fun t ht => ?_, ?_, ?_⟩) (fun j hj => ?_)
      · funext j
        rw [up2_o ho, up2_o ho, k1 o ho]
      · obtain ⟨h1, h2⟩ := k2 t ht
        refine ⟨?_, ?_⟩ <;> rw [up2_j (by omega), up2_j (by omega)]
        · exact h1
        · exact h2
      · rw [up2_j (by omega), up2_eq]
      · rw [up2_eq]
      · rw [up2_j (by omega), up2_j (by omega)]; exact k3 j hj
  exact go 0 (Nat.zero_le _) M (fun o _ => rfl) (fun t ht => by omega) (fun j _ => rfl)
end KP
/-- what the model has written, when it has kept -/
def keepT (M M2 : Mem) (s : Nat) : Prop := (∀ o, o < 333 ∨ 338 < o → M2 o = M o) ∧ (M2 333 (121 * s) = M 200 6 ∧ (∀ t, t < 10 → M2 333 (121 * s + 1 + t) = M 307 t ∧ M2 333 (121 * s + 11 + t) = M 309 t ∧ M2 333 (121 * s + 21 + t) = M 310 t ∧ M2 333 (121 * s + 31 + t) = M 313 t) ∧ (∀ k, k < 80 → M2 333 (121 * s + 41 + k) = M 314 k) ∧ ∀ j, (j < 121 * s ∨ 121 * s + 121 ≤ j) → M2 333 j = M 333 j) ∧ ((∀ t, t < 10 → M2 334 (30 * s + t) = M 312 t ∧ M2 334 (30 * s + 10 + t) = v01 (M 308 t) ∧ M2 334 (30 * s + 20 + t) = v01 (M 311 t)) ∧ ∀ j, (j < 30 * s ∨ 30 * s + 30 ≤ j) → M2 334 j = M 334 j) ∧ ((∀ t, t < 968 → M2 335 (968 * s + t) = M 329 t) ∧ ∀ j, (j < 968 * s ∨ 968 * s + 968 ≤ j) → M2 335 j = M 335 j) ∧ ((∀ t, t < 16 → M2 336 (32 * s + t) = M 331 t ∧ M2 336 (32 * s + 16 + t) = M 332 t) ∧ ∀ j, (j < 32 * s ∨ 32 * s + 32 ≤ j) → M2 336 j = M 336 j) ∧ (M2 337 s = 1 ∧ ∀ j, j ≠ s → M2 337 j = M 337 j) ∧ M2 338 s = M 200 30 ∧ ∀ j, j ≠ s → M2 338 j = M 338 j
section KQ
variable {X : Scr} {M : Mem}
theorem mkeep_n {s : Nat} (hs : s < 2) : Runs X mX9_keep 17 [(0, vr 200), (1, vi (s : Int))] [] M (fun r M2 => r = some (vi (M 200 6)) ∧ keepT M M2 s) := by
  obtain ⟨P, hP⟩ : ∃ P : Option AV → Mem → Prop, P = fun r M2 => r = some (vi (M 200 6)) ∧ keepT M M2 s := ⟨_, rfl⟩
  rw [← hP]
  have es : ((s : Int)).toNat = s := by omega
  have ea : 121 * (s : Int) = ((121 * s : Nat) : Int) := by omega
  refine kX9_keep_17 (by rw [ea, es]; exact lay_n (a := 121 * s) (n1 := 242) rfl (by decide) (by omega) (by decide)) ?_
  rintro M3 ⟨-, a1, a2, a3, a4, a5⟩
  have u : ∀ o, o ≠ 337 → (up2 M 337 s 1) o = M o := fun o ho => funext (fun j => up2_o ho)
  rw [u 200 (by decide)] at a2
  rw [u 307 (by decide), u 309 (by decide), u 310 (by decide), u 313 (by decide)] at a3
  rw [u 314 (by decide)] at a4
  rw [u 333 (by decide)] at a5
  refine keepA hs (fun M4 b1 b2 b3 => ?_)
  refine keepB hs (fun M5 c1 c2 c3 => ?_)
  refine keepC hs (fun M6 d1 d2 d3 => ?_)
  have e6 : ∀ o, o ≠ 333 → o ≠ 334 → o ≠ 335 → o ≠ 336 → o ≠ 337 → M6 o = M o := fun o o1 o2 o3 o4 o5 => by rw [d1 o o4, c1 o o3, b1 o o2, a1 o o1, u o o5]
  have e5 : ∀ o, o ≠ 333 → o ≠ 334 → o ≠ 335 → o ≠ 337 → M5 o = M o := fun o o1 o2 o3 o5 => by rw [c1 o o3, b1 o o2, a1 o o1, u o o5]
  have e4 : ∀ o, o ≠ 333 → o ≠ 334 → o ≠ 337 → M4 o = M o := fun o o1 o2 o5 => by rw [b1 o o2, a1 o o1, u o o5]
  have e3 : ∀ o, o ≠ 333 → o ≠ 337 → M3 o = M o := fun o o1 o5 => by rw [a1 o o1, u o o5]
  refine kX9_keep_207 ?_
  rw [es, hP]
  have f : ∀ o, o ≠ 338 → (up2 M6 338 s (M6 200 30)) o = M6 o := fun o ho => funext (fun j => up2_o ho)
  refine ⟨by rw [f 200 (by decide), e6 200 (by decide) (by decide) (by decide) (by decide) (by decide)], fun o ho => ?_, ?_, ?_, ?_, ?_, ?_, ?_⟩
  · rw [f o (by omega), e6 o (by omega) (by omega) (by omega) (by omega) (by omega)]
  · rw [f 333 (by decide), d1 333 (by decide), c1 333 (by decide), b1 333 (by decide)]
    exact ⟨a2, a3, a4, a5⟩
  · rw [f 334 (by decide), d1 334 (by decide), c1 334 (by decide)]
    rw [e3 312 (by decide) (by decide), e3 308 (by decide) (by decide), e3 311 (by decide) (by decide)] at b2
    rw [e3 334 (by decide) (by decide)] at b3
    exact ⟨b2, b3⟩
  · rw [f 335 (by decide), d1 335 (by decide)]
    rw [e4 329 (by decide) (by decide) (by decide)] at c2
    rw [e4 335 (by decide) (by decide) (by decide)] at c3
    exact ⟨c2, c3⟩
  · rw [f 336 (by decide)]
    rw [e5 331 (by decide) (by decide) (by decide) (by decide), e5 332 (by decide) (by decide) (by decide) (by decide)] at d2
    rw [e5 336 (by decide) (by decide) (by decide) (by decide)] at d3
    exact ⟨d2, d3⟩
  · rw [f 337 (by decide), d1 337 (by decide), c1 337 (by decide), b1 337 (by decide), a1 337 (by decide)]
    exact ⟨up2_eq, fun j hj => up2_j hj⟩
  · rw [up2_eq, e6 200 (by decide) (by decide) (by decide) (by decide) (by decide)]
    refine ⟨rfl, fun j hj => ?_⟩
    rw [up2_j hj, e6 338 (by decide) (by decide) (by decide) (by decide) (by decide)]
theorem ag_keep {i : Int} (h : RR M) : Agree X mX8_keep mX9_keep [vr 0, vi i] [vr 200, vi i] M := by
  obtain ⟨n, b, g, L, hR⟩ := id h
  by_cases hi : 0 ≤ i ∧ i < 2
  · obtain ⟨s, rfl⟩ : ∃ s : Nat, i = (s : Int) := ⟨i.toNat, by omega⟩
    have hs : s < 2 := by omega
    have es : ((s : Int)).toNat = s := by omega
    obtain ⟨hRM, hRB, ⟨x1, x2, x3, x4, x5, x6, x7, x8, x9⟩⟩ := id hR
    obtain ⟨hW, w6, w30⟩ := MW_W.mpr ⟨hRM, hRB, x7⟩
    have b1 := hRB.1.1
    have b2 := hRB.1.2.1
    have a2 := hRM.1.2.1
    obtain ⟨MC, hMC⟩ : ∃ MC, MC = rcopM (bcp (up2 (copT M (9 * (s + 1)) 0) (oB (s + 1)) 1 b) (s + 1) 0 b) (s + 1) 0 := ⟨_, rfl⟩
    have hcp := cpW (M := M) (w := s + 1) (v := 0) (b := b) (by omega) (by decide) (by omega) b1
    rw [show 9 * 0 = 0 from rfl, ← hMC] at hcp
    obtain ⟨w1, w2⟩ := hcp
    have eT : takM M s b = up2 MC (oS s) 3 1 := by rw [hMC]; rfl
    have t1 : ∀ o, ¬ inW (s + 1) o → o ≠ oS s → takM M s b o = M o := fun o o1 o2 => by
      rw [eT, ← w1 o o1]
      exact funext (fun j => up2_o o2)
    have t2 : ∀ o, o ≠ oS s → takM M s b o = MC o := fun o o2 => by
      rw [eT]
      exact funext (fun j => up2_o o2)
    refine ⟨fun r M1 => r = some (vi (n : Int)) ∧ M1 = takM M s b, ?_, ?_⟩
    · refine kX8_keep_0 isSlot_n (on ?_)
      refine kX8_keep_5 (fun _ => ?_) (fun q => absurd hi (b2i_d0.mp q))
      refine kX8_keep_10 (by rw [es]; exact takeIn_n hs b2 b1) (on0 ?_)
      refine kX8_keep_31 ⟨?_, rfl⟩
      rw [t1 (oT 0) (by unfold inW oT; omega) (by unfold oT oS; omega), a2]
    · rintro r M1 ⟨rfl, hM1⟩
      refine kX9_keep_0 in_n (on ?_)
      refine kX9_keep_12 (fun _ => ?_) (fun q => absurd (by omega) (b2i_d0.mp q))
      refine (mkeep_n hs).mono ?_
      rintro r' M2 ⟨rfl, hK⟩
      obtain ⟨M0, hM0⟩ : ∃ M0, M0 = up2 M1 200 0 0 := ⟨_, rfl⟩
      rw [← hM0] at hK ⊢
      -- the model's half before
      have g0 : ∀ o, 200 < o → M0 o = M o := fun o ho => by
        rw [← t1 o (by unfold inW; omega) (by unfold oS; omega), ← hM1, hM0]
        exact funext (fun j => up2_o (by omega))
      have g2 : ∀ j, j ≠ 0 → M0 200 j = M 200 j := fun j hj => by
        rw [← t1 200 (by unfold inW; omega) (by unfold oS; omega), ← hM1, hM0, up2_j hj]
      have gl : ∀ o, o < 200 → M0 o = takM M s b o := fun o ho => by
        rw [← hM1, hM0]
        exact funext (fun j => up2_o (by omega))
      obtain ⟨k0, ⟨k1, k2, k3, k4⟩, ⟨k5, k6⟩, ⟨k7, k8⟩, ⟨k9, k10⟩, ⟨k11, k12⟩, k13, k14⟩ := hK
      rw [g2 6 (by decide)] at k1
      rw [g0 307 (by decide), g0 309 (by decide), g0 310 (by decide), g0 313 (by decide)] at k2
      rw [g0 314 (by decide)] at k3
      rw [g0 333 (by decide)] at k4
      rw [g0 312 (by decide), g0 308 (by decide), g0 311 (by decide)] at k5
      rw [g0 334 (by decide)] at k6
      rw [g0 329 (by decide)] at k7
      rw [g0 335 (by decide)] at k8
      rw [g0 331 (by decide), g0 332 (by decide)] at k9
      rw [g0 336 (by decide)] at k10
      rw [g0 337 (by decide)] at k12
      rw [g2 30 (by decide)] at k13
      rw [g0 338 (by decide)] at k14
      have q1 : ∀ o, o < 200 → M2 o = takM M s b o := fun o ho => by rw [k0 o (Or.inl (by omega)), gl o ho]
      have q2 : ∀ o, 200 < o → (o < 333 ∨ 338 < o) → M2 o = M o := fun o ho h2 => by rw [k0 o h2, g0 o ho]
      have q3 : ∀ j, j ≠ 0 → M2 200 j = M 200 j := fun j hj => by rw [k0 200 (Or.inl (by decide)), g2 j hj]
      have q4 : ∀ o, o < 200 → ¬ inW (s + 1) o → o ≠ oS s → M2 o = M o := fun o ho h1 h2 => by rw [q1 o ho, t1 o h1 h2]
      refine ⟨by rw [g2 6 (by decide), w6], n, b, g, L, ?_⟩
      obtain ⟨r1, r2⟩ := RMB_eq (M2 := M2) (fun o j hm => by
        unfold mbo at hm
        by_cases h1 : o = 200
        · subst h1
          exact q3 j (by omega)
        · by_cases h2 : o < 200
          · rw [q4 o h2 (by unfold inW; omega) (by unfold oS; omega)]
          · rw [q2 o (by omega) (by omega)]) ⟨hRM, hRB⟩
      have hSs : SL M2 s := by
        refine SL_W.mpr ⟨n, b, ?_, by rw [k1, w6], by rw [k13, w30]⟩
        unfold MWw at hW
        unfold SLw
        have hn := hW.1.1
        refine WR_cp (M2 := M2) (w := s + 1) hW ?_ (fun t ht => ?_) (fun j hj => ?_) (fun j hj => ?_) (fun j hj => ?_)
        · obtain ⟨c1, c2, c3, c4, c5⟩ := w2
          refine ⟨?_, fun j hj => ?_, ?_, fun k hk => ⟨?_, fun j hj => ?_⟩, fun j hj => ⟨?_, ?_⟩⟩
          · rw [q1 _ (by unfold oT; omega), t2 _ (by unfold oT oS; omega)]; exact c1
          · rw [q1 _ (by unfold oC; omega), t2 _ (by unfold oC oS; omega)]; exact c2 j hj
          · rw [q1 _ (by unfold oB; omega), t2 _ (by unfold oB oS; omega)]; exact c3
          · rw [q1 _ (by unfold oT; omega), t2 _ (by unfold oT oS; omega)]; exact (c4 k hk).1
          · rw [q1 _ (by unfold oC; omega), t2 _ (by unfold oC oS; omega)]; exact (c4 k hk).2 j hj
          · rw [q1 _ (by unfold oG; omega), t2 _ (by unfold oG oS; omega)]; exact (c5 j hj).1
          · rw [q1 _ (by unfold oN; omega), t2 _ (by unfold oN oS; omega)]; exact (c5 j hj).2
        · obtain ⟨-, d, -⟩ := hRM.2.1 t ht
          obtain ⟨f1, f2, f3, f4⟩ := k2 t (by omega)
          obtain ⟨f5, f6, f7⟩ := k5 t (by omega)
          unfold bk
          refine ⟨⟨f1, ?_, f2, f3, ?_, f4⟩, f5⟩
          · rw [f6]; unfold v01; split <;> omega
          · rw [f7]; unfold v01; split <;> omega
        · unfold bk
          exact k3 j (by omega)
        · rw [Nat.zero_add]
          exact k7 j hj
        · unfold bk
          exact k9 j hj
      refine ⟨r1, r2, ?_, ?_, ?_, ?_, ?_, ?_, ?_, ?_, fun s2 hs2 => ?_⟩
      · rw [q4 3 (by decide) (by unfold inW; omega) (by unfold oS; omega), q3 15 (by decide)]; exact x1
      · rw [q4 1 (by decide) (by unfold inW; omega) (by unfold oS; omega), q3 2 (by decide)]; exact x2
      · rw [q4 0 (by decide) (by unfold inW; omega) (by unfold oS; omega), q3 4 (by decide)]; exact x3
      · rw [q4 0 (by decide) (by unfold inW; omega) (by unfold oS; omega), q3 5 (by decide)]; exact x4
      · rw [q4 4 (by decide) (by unfold inW; omega) (by unfold oS; omega), q4 5 (by decide) (by unfold inW; omega) (by unfold oS; omega), q2 316 (by decide) (by decide), q2 317 (by decide) (by decide)]; exact x5
      · have eb : bytF M2 = bytF M := bytF_eq (q4 2 (by decide) (by unfold inW; omega) (by unfold oS; omega))
        rw [eb, q2 301 (by decide) (by decide)]; exact x6
      · rw [q4 (oG 0) (by unfold oG; omega) (by unfold inW oG; omega) (by unfold oS oG; omega), q4 (oN 0) (by unfold oN; omega) (by unfold inW oN; omega) (by unfold oS oN; omega), q2 331 (by decide) (by decide), q2 332 (by decide) (by decide)]; exact x7
      · rw [q4 35 (by decide) (by unfold inW; omega) (by unfold oS; omega)]; exact x8
      · by_cases he : s2 = s
        · subst he
          refine ⟨?_, fun _ => hSs⟩
          rw [k11, q1 _ (by unfold oS; omega), eT, up2_eq]
        · rw [k12 s2 he, q4 (oS s2) (by unfold oS; omega) (by unfold inW oS; omega) (by unfold oS; omega)]
          refine ⟨(x9 s2 hs2).1, fun hk => ?_⟩
          refine SL_other hs2 ((x9 s2 hs2).2 hk) (fun o ho => ?_) (fun j h1 h2 => k4 j (by omega)) (fun j h1 h2 => k6 j (by omega)) (fun j h1 h2 => k8 j (by omega)) (fun j h1 h2 => k10 j (by omega)) (k14 s2 he)
          unfold inW at ho
          exact q4 o (by omega) (by unfold inW; omega) (by unfold oS; omega)
  · refine Agree.ask0 (r0 := vi (-1)) h ?_ ?_
    · refine kX8_keep_0 isSlot_n (on ?_)
      exact kX8_keep_5 (fun q => absurd (b2i_d1.mp q) hi) (fun _ => kX8_keep_8 ⟨rfl, rfl⟩)
    · refine kX9_keep_0 in_n (on ?_)
      exact kX9_keep_12 (fun q => absurd (b2i_d1.mp q) (by omega)) (fun _ => kX9_keep_15 ⟨rfl, q0⟩)
end KQ
