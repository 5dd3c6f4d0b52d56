/-! ===== the model's pages ===== -/
section PG
variable {X : Scr} {M : Mem}
theorem lay_n {p a n1 : Nat} (hk : kd p = some (.inr (.int, n1))) (hp : p ≠ 200 ∧ (p < 307 ∨ 314 < p)) (ha : a + 121 ≤ n1) (hn1 : n1 ≤ 1936) : Call X mX9_lay [vr 200, vr p, vi (a : Int)] M (fun r M1 => r = none ∧ (∀ o, o ≠ p → M1 o = M o) ∧ M1 p a = M 200 6 ∧ (∀ t, t < 10 → M1 p (a + 1 + t) = M 307 t ∧ M1 p (a + 11 + t) = M 309 t ∧ M1 p (a + 21 + t) = M 310 t ∧ M1 p (a + 31 + t) = M 313 t) ∧ (∀ k, k < 80 → M1 p (a + 41 + k) = M 314 k) ∧ ∀ j, (j < a ∨ a + 121 ≤ j) → M1 p j = M p j) := by
  obtain ⟨P, hP⟩ : ∃ P : Option AV → Mem → Prop, P = fun r M1 => r = none ∧ (∀ o, o ≠ p → M1 o = M o) ∧ M1 p a = M 200 6 ∧ (∀ t, t < 10 → M1 p (a + 1 + t) = M 307 t ∧ M1 p (a + 11 + t) = M 309 t ∧ M1 p (a + 21 + t) = M 310 t ∧ M1 p (a + 31 + t) = M 313 t) ∧ (∀ k, k < 80 → M1 p (a + 41 + k) = M 314 k) ∧ ∀ j, (j < a ∨ a + 121 ≤ j) → M1 p j = M p j := ⟨_, rfl⟩
  rw [← hP]
  have ea : ((a : Int)).toNat = a := by omega
  refine kX9_lay_0 (hk_p1 := hk) ?_
  rw [ea]
  -- the traces
  have second : ∀ k, k ≤ 80 → ∀ M2 : Mem, (∀ o, o ≠ p → M2 o = M o) → M2 p a = M 200 6 → (∀ t, t < 10 → M2 p (a + 1 + t) = M 307 t ∧ M2 p (a + 11 + t) = M 309 t ∧ M2 p (a + 21 + t) = M 310 t ∧ M2 p (a + 31 + t) = M 313 t) → (∀ i, i < k → M2 p (a + 41 + i) = M 314 i) → (∀ j, (j < a ∨ a + 121 ≤ j) → M2 p j = M p j) → Runs X mX9_lay 78 [(0, vr 200), (1, vr p), (2, vi (a : Int)), (3, vi (k : Int))] [] M2 P := by
    refine up_loop (n := 80) ?_ ?_
    · intro M2 k1 k2 k3 k4 k5
      refine kX9_lay_78 (hk_p1 := hk) (fun q => kX9_lay_104 ?_) (fun q => by omega)
      rw [hP]
      exact ⟨rfl, k1, k2, k3, k4, k5⟩
    · intro k hk2 ih M2 k1 k2 k3 k4 k5
      have e1 : ((a : Int) + 41 + (k : Int)).toNat = a + 41 + k := by omega
      refine kX9_lay_78 (hk_p1 := hk) (fun q => by omega) (fun q => kX9_lay_84 (hk_p1 := hk) ?_)
      rw [e1, show ((k : Int)).toNat = k by omega, cast1, k1 314 (by omega)]
      refine ih _ (fun o ho => ?_) ?_ (fun t ht => ?_) (all_S.mpr ⟨fun i hi => ?_, ?_⟩) (fun j hj => ?_)
      · funext j
        rw [up2_o ho, k1 o ho]
      · rw [up2_j (by omega)]; exact k2
      · rw [up2_j (by omega), up2_j (by omega), up2_j (by omega), up2_j (by omega)]; exact k3 t ht
      · rw [up2_j (by omega)]; exact k4 i hi
      · rw [up2_eq]
      · rw [up2_j (by omega)]; exact k5 j hj
  have first : ∀ k, k ≤ 10 → ∀ M2 : Mem, (∀ o, o ≠ p → M2 o = M o) → M2 p a = M 200 6 → (∀ t, t < k → M2 p (a + 1 + t) = M 307 t ∧ M2 p (a + 11 + t) = M 309 t ∧ M2 p (a + 21 + t) = M 310 t ∧ M2 p (a + 31 + t) = M 313 t) → (∀ j, (j < a ∨ a + 121 ≤ j) → M2 p j = M p j) → Runs X mX9_lay 9 [(0, vr 200), (1, vr p), (2, vi (a : Int)), (3, vi (k : Int))] [] M2 P := by
    refine up_loop (n := 10) ?_ ?_
    · intro M2 k1 k2 k3 k5
      refine kX9_lay_9 (hk_p1 := hk) (fun q => kX9_lay_76 (hk_p1 := hk) ?_) (fun q => by omega)
      exact second 0 (Nat.zero_le _) M2 k1 k2 k3 (fun i hi => by omega) k5
    · intro k hk2 ih M2 k1 k2 k3 k5
      have e1 : ((a : Int) + 1 + (k : Int)).toNat = a + 1 + k := by omega
      have e2 : ((a : Int) + 11 + (k : Int)).toNat = a + 11 + k := by omega
      have e3 : ((a : Int) + 21 + (k : Int)).toNat = a + 21 + k := by omega
      have e4 : ((a : Int) + 31 + (k : Int)).toNat = a + 31 + k := by omega
      refine kX9_lay_9 (hk_p1 := hk) (fun q => by omega) (fun q => kX9_lay_15 (hk_p1 := hk) ?_)
      rw [e1, e2, e3, e4, show ((k : Int)).toNat = k by omega, cast1]
      rw [up2_o (o := p) (o' := 309) (by omega), up2_o (o := p) (o' := 310) (by omega), up2_o (o := p) (o' := 310) (by omega), up2_o (o := p) (o' := 313) (by omega), up2_o (o := p) (o' := 313) (by omega), up2_o (o := p) (o' := 313) (by omega), k1 307 (by omega), k1 309 (by omega), k1 310 (by omega), k1 313 (by omega)]
      refine ih _ (fun o ho => ?_) ?_ (all_S.mpr ⟨fun t ht => ?_, ?_⟩) (fun j hj => ?_)
      · funext j
        rw [up2_o ho, up2_o ho, up2_o ho, up2_o ho, k1 o ho]
      · rw [up2_j (by omega), up2_j (by omega), up2_j (by omega), up2_j (by omega)]; exact k2
      · have h3 := k3 t ht
        refine ⟨?_, ?_, ?_, ?_⟩ <;> rw [up2_j (by omega), up2_j (by omega), up2_j (by omega), up2_j (by omega)]
        · exact h3.1
        · exact h3.2.1
        · exact h3.2.2.1
        · exact h3.2.2.2
      · refine ⟨?_, ?_, ?_, ?_⟩
        · rw [up2_j (by omega), up2_j (by omega), up2_j (by omega), up2_eq]
        · rw [up2_j (by omega), up2_j (by omega), up2_eq]
        · rw [up2_j (by omega), up2_eq]
        · rw [up2_eq]
      · rw [up2_j (by omega), up2_j (by omega), up2_j (by omega), up2_j (by omega)]; exact k5 j hj
  refine first 0 (Nat.zero_le _) _ (fun o ho => ?_) up2_eq (fun t ht => by omega) (fun j hj => ?_)
  · funext j
    rw [up2_o ho]
  · rw [up2_j (by omega)]
end PG
