/-! ===== the model's pages ===== -/
section PG
variable {X : Scr} {M : Mem}
theorem lay_n {p a n1 : Nat} (hk : kd p = some (.inr (.int, n1))) (hp : p ≠ 200 ∧ (p < 307 ∨ 314 < p)) (ha : a + 121 ≤ n1) (hn1 : n1 ≤ 1936) : Call X mX9_lay [vr 200, vr p, vi (a : Int)] M (fun r M1 => r = none ∧ (∀ o, o ≠ p → M1 o = M o) ∧ M1 p a = M 200 6 ∧ (∀ t, t < 10 → M1 p (a + 1 + t) = M 307 t ∧ M1 p (a + 11 + t) = M 309 t ∧ M1 p (a + 21 + t) = M 310 t ∧ M1 p (a + 31 + t) = M 313 t) ∧ (∀ k, k < 80 → M1 p (a + 41 + k) = M 314 k) ∧ ∀ j, (j < a ∨ a + 121 ≤ j) → M1 p j = M p j) := by
  obtain ⟨P, hP⟩ : ∃ P : Option AV → Mem → Prop, P = fun r M1 => r = none ∧ (∀ o, o ≠ p → M1 o = M o) ∧ M1 p a = M 200 6 ∧ (∀ t, t < 10 → M1 p (a + 1 + t) = M 307 t ∧ M1 p (a + 11 + t) = M 309 t ∧ M1 p (a + 21 + t) = M 310 t ∧ M1 p (a + 31 + t) = M 313 t) ∧ (∀ k, k < 80 → M1 p (a + 41 + k) = M 314 k) ∧ ∀ j, (j < a ∨ a + 121 ≤ j) → M1 p j = M p j := ⟨_, rfl⟩
  rw [← hP]
  have ea : ((a : Int)).toNat = a := by omega
  refine kX9_lay_0 (hk_p1 := hk) ?_
  rw [ea]
  -- the traces
  have second : ∀ k, k ≤ 80 → ∀ M2 : Mem, (∀ o, o ≠ p → M2 o = M o) → M2 p a = M 200 6 → (∀ t, t < 10 → M2 p (a + 1 + t) = M 307 t ∧ M2 p (a + 11 + t) = M 309 t ∧ M2 p (a + 21 + t) = M 310 t ∧ M2 p (a + 31 + t) = M 313 t) → (∀ i, i < k → M2 p (a + 41 + i) = M 314 i) → (∀ j, (j < a ∨ a + 121 ≤ j) → M2 p j = M p j) → Runs X mX9_lay 78 [(0, vr 200), (1, vr p), (2, vi (a : Int)), (3, vi (k : Int))] [] M2 P := by
    refine up_loop (n := 80) ?_ ?_
    · intro M2 k1 k2 k3 k4 k5
      refine kX9_lay_78 (hk_p1 := hk) (fun q => kX9_lay_104 ?_) (fun q => by omega)
      rw [hP]
      exact ⟨rfl, k1, k2, k3, k4, k5⟩
    · intro k hk2 ih M2 k1 k2 k3 k4 k5
      have e1 : ((a : Int) + 41 + (k : Int)).toNat = a + 41 + k := by omega
      refine kX9_lay_78 (hk_p1 := hk) (fun q => by omega) (fun q => kX9_lay_84 (hk_p1 := hk) ?_)
      rw [e1, show ((k : Int)).toNat = k by omega, cast1, k1 314 (by omega)]
      refine ih _ (fun o ho => ?_) ?_ (fun t ht => ?_) (all_S.mpr ⟨fun i hi => ?_, ?_⟩) (fun j hj => ?_)
      · funext j
        rw [up2_o ho, k1 o ho]
      · rw [up2_j (by omega)]; exact k2
      · rw [up2_j (by omega), up2_j (by omega), up2_j (by omega), up2_j (by omega)]; exact k3 t ht
      · rw [up2_j (by omega)]; exact k4 i hi
      · rw [up2_eq]
      · rw [up2_j (by omega)]; exact k5 j hj
  have first : ∀ k, k ≤ 10 → ∀ M2 : Mem, (∀ o, o ≠ p → M2 o = M o) → M2 p a = M 200 6 → (∀ t, t < k → M2 p (a + 1 + t) = M 307 t ∧ M2 p (a + 11 + t) = M 309 t ∧ M2 p (a + 21 + t) = M 310 t ∧ M2 p (a + 31 + t) = M 313 t) → (∀ j, (j < a ∨ a + 121 ≤ j) → M2 p j = M p j) → Runs X mX9_lay 9 [(0, vr 200), (1, vr p), (2, vi (a : Int)), (3, vi (k : Int))] [] M2 P := by
    refine up_loop (n := 10) ?_ ?_
    · intro M2 k1 k2 k3 k5
      refine kX9_lay_9 (hk_p1 := hk) (fun q => kX9_lay_76 (hk_p1 := hk) ?_) (fun q => by omega)
      exact second 0 (Nat.zero_le _) M2 k1 k2 k3 (fun i hi => by omega) k5
    · intro k hk2 ih M2 k1 k2 k3 k5
      have e1 : ((a : Int) + 1 + (k : Int)).toNat = a + 1 + k := by omega
      have e2 : ((a : Int) + 11 + (k : Int)).toNat = a + 11 + k := by omega
      have e3 : ((a : Int) + 21 + (k : Int)).toNat = a + 21 + k := by omega
      have e4 : ((a : Int) + 31 + (k : Int)).toNat = a + 31 + k := by omega
      refine kX9_lay_9 (hk_p1 := hk) (fun q => by omega) (fun q => kX9_lay_15 (hk_p1 := hk) ?_)
      rw [e1, e2, e3, e4, show ((k : Int)).toNat = k by omega, cast1]
      rw [up2_o (o := p) (o' := 309) (by omega), up2_o (o := p) (o' := 310) (by omega), up2_o (o := p) (o' := 310) (by omega), up2_o (o := p) (o' := 313) (by omega), up2_o (o := p) (o' := 313) (by omega), up2_o (o := p) (o' := 313) (by omega), k1 307 (by omega), k1 309 (by omega), k1 310 (by omega), k1 313 (by omega)]
      refine ih _ (fun o ho => ?_) ?_ (all_S.mpr ⟨fun t ht => ?_, ?_⟩) (fun j hj => ?_)
      · funext j
        rw [up2_o ho, up2_o ho, up2_o ho, up2_o ho, k1 o ho]
      · rw [up2_j (by omega), up2_j (by omega), up2_j (by omega), up2_j (by omega)]; exact k2
      · have h3 := k3 t ht
        refine ⟨?_, ?_, ?_, ?_⟩ <;> rw [up2_j (by omega), up2_j (by omega), up2_j (by omega), up2_j (by omega)]
        · exact h3.1
        · exact h3.2.1
        · exact h3.2.2.1
        · exact h3.2.2.2
      · refine ⟨?_, ?_, ?_, ?_⟩
        · rw [up2_j (by omega), up2_j (by omega), up2_j (by omega), up2_eq]
        · rw [up2_j (by omega), up2_j (by omega), up2_eq]
        · rw [up2_j (by omega), up2_eq]
        · rw [up2_eq]
      · rw [up2_j (by omega), up2_j (by omega), up2_j (by omega), up2_j (by omega)]; exact k5 j hj
  refine first 0 (Nat.zero_le _) _ (fun o ho => ?_) up2_eq (fun t ht => by omega) (fun j hj => ?_)
  · funext j
    rw [up2_o ho]
  · rw [up2_j (by omega)]
/-- the first m teeth of a page have come into the rows of teeth -/
def took (M M1 : Mem) (p a m : Nat) : Prop := (∀ o, o ≠ 307 → o ≠ 309 → o ≠ 310 → o ≠ 313 → o ≠ 314 → M1 o = M o) ∧ (∀ t, t < m → M1 307 t = M p (a + 1 + t) ∧ M1 309 t = M p (a + 11 + t) ∧ M1 310 t = M p (a + 21 + t) ∧ M1 313 t = M p (a + 31 + t)) ∧ (∀ t, m ≤ t → M1 307 t = M 307 t ∧ M1 309 t = M 309 t ∧ M1 310 t = M 310 t ∧ M1 313 t = M 313 t) ∧ (∀ j, j < 8 * m → M1 314 j = M p (a + 41 + j)) ∧ ∀ j, 8 * m ≤ j → M1 314 j = M 314 j
theorem take_n {p a n1 m : Nat} (hk : kd p = some (.inr (.int, n1))) (hp : p ≠ 200 ∧ (p < 307 ∨ 314 < p)) (ha : a + 121 ≤ n1) (hn1 : n1 ≤ 1936) (hm : M p a = (m : Int)) (hm10 : m ≤ 10) : Call X mX9_take [vr 200, vr p, vi (a : Int)] M (fun r M1 => r = none ∧ took M M1 p a m) := by
  obtain ⟨P, hP⟩ : ∃ P : Option AV → Mem → Prop, P = fun r M1 => r = none ∧ took M M1 p a m := ⟨_, rfl⟩
  rw [← hP]
  have ea : ((a : Int)).toNat = a := by omega
  refine kX9_take_0 (hk_p1 := hk) ?_
  have go : ∀ k, k ≤ m → ∀ M2 : Mem, took M M2 p a k → Runs X mX9_take 2 [(0, vr 200), (1, vr p), (2, vi (a : Int)), (3, vi (k : Int))] [] M2 P := by
    refine up_loop (n := m) ?_ ?_
    · intro M2 k1
      have e0 : M2 p ((a : Int)).toNat = (m : Int) := by rw [ea, k1.1 p (by omega) (by omega) (by omega) (by omega) (by omega)]; exact hm
      refine kX9_take_2 (hk_p1 := hk) (fun q => kX9_take_112 ?_) (fun q => by omega)
      rw [hP]
      exact ⟨rfl, k1⟩
    · intro k hk2 ih M2 k1
      have e0 : M2 p ((a : Int)).toNat = (m : Int) := by rw [ea, k1.1 p (by omega) (by omega) (by omega) (by omega) (by omega)]; exact hm
      have ep : M2 p = M p := k1.1 p (by omega) (by omega) (by omega) (by omega) (by omega)
      have e1 : ((a : Int) + 1 + (k : Int)).toNat = a + 1 + k := by omega
      have e2 : ((a : Int) + 11 + (k : Int)).toNat = a + 11 + k := by omega
      have e3 : ((a : Int) + 21 + (k : Int)).toNat = a + 21 + k := by omega
      have e4 : ((a : Int) + 31 + (k : Int)).toNat = a + 31 + k := by omega
      refine kX9_take_2 (hk_p1 := hk) (fun q => by omega) (fun q => kX9_take_9 (hk_p1 := hk) ?_)
      rw [e1, e2, e3, e4, show ((k : Int)).toNat = k by omega]
      rw [up2_o (o := 307) (o' := p) (by omega), up2_o (o := 309) (o' := p) (by omega), up2_o (o := 307) (o' := p) (by omega), up2_o (o := 310) (o' := p) (by omega), up2_o (o := 309) (o' := p) (by omega), up2_o (o := 307) (o' := p) (by omega), ep]
      obtain ⟨M3, hM3⟩ : ∃ M3, M3 = up2 (up2 (up2 (up2 M2 307 k (M p (a + 1 + k))) 309 k (M p (a + 11 + k))) 310 k (M p (a + 21 + k))) 313 k (M p (a + 31 + k)) := ⟨_, rfl⟩
      rw [← hM3]
      have inner : ∀ i, i ≤ 8 → ∀ M4 : Mem, (∀ o, o ≠ 314 → M4 o = M3 o) → (∀ j, j < 8 * k + i → M4 314 j = M p (a + 41 + j)) → (∀ j, 8 * k + i ≤ j → M4 314 j = M 314 j) → Runs X mX9_take 67 [(0, vr 200), (1, vr p), (2, vi (a : Int)), (3, vi (k : Int)), (4, vi (i : Int))] [] M4 P := by
        refine up_loop (n := 8) ?_ ?_
        · intro M4 j1 j2 j3
          refine kX9_take_67 (hk_p1 := hk) (fun q => kX9_take_106 (hk_p1 := hk) ?_) (fun q => by omega)
          rw [cast1]
          obtain ⟨t1, t2, t3, t4, t5⟩ := k1
          have c307 : ∀ t, M4 307 t = if t = k then M p (a + 1 + k) else M2 307 t := fun t => by
            rw [j1 307 (by decide), hM3, up2_o (by decide), up2_o (by decide), up2_o (by decide)]
            split
            · rename_i z; rw [z, up2_eq]
            · rename_i z; rw [up2_j z]
          have c309 : ∀ t, M4 309 t = if t = k then M p (a + 11 + k) else M2 309 t := fun t => by
            rw [j1 309 (by decide), hM3, up2_o (by decide), up2_o (by decide)]
            split
            · rename_i z; rw [z, up2_eq]
            · rename_i z; rw [up2_j z, up2_o (by decide)]
          have c310 : ∀ t, M4 310 t = if t = k then M p (a + 21 + k) else M2 310 t := fun t => by
            rw [j1 310 (by decide), hM3, up2_o (by decide)]
            split
            · rename_i z; rw [z, up2_eq]
            · rename_i z; rw [up2_j z, up2_o (by decide), up2_o (by decide)]
          have c313 : ∀ t, M4 313 t = if t = k then M p (a + 31 + k) else M2 313 t := fun t => by
            rw [j1 313 (by decide), hM3]
            split
            · rename_i z; rw [z, up2_eq]
            · rename_i z; rw [up2_j z, up2_o (by decide), up2_o (by decide), up2_o (by decide)]
          refine ih M4 ⟨fun o o1 o2 o3 o4 o5 => ?_, all_S.mpr ⟨fun t ht => ?_, ?_⟩, fun t ht => ?_, fun j hj => j2 j (by omega), fun j hj => j3 j (by omega)⟩
          · rw [j1 o o5, hM3]
            funext j
            rw [up2_o o4, up2_o o3, up2_o o2, up2_o o1, t1 o o1 o2 o3 o4 o5]
          · rw [c307, c309, c310, c313, if_neg (by omega), if_neg (by omega), if_neg (by omega), if_neg (by omega)]
            exact t2 t ht
          · rw [c307, c309, c310, c313, if_pos rfl, if_pos rfl, if_pos rfl, if_pos rfl]
            exact ⟨rfl, rfl, rfl, rfl⟩
          · rw [c307, c309, c310, c313, if_neg (by omega), if_neg (by omega), if_neg (by omega), if_neg (by omega)]
            exact t3 t (by omega)
        · intro i hi ih2 M4 j1 j2 j3
          have f1 : (8 * (k : Int) + (i : Int)).toNat = 8 * k + i := by omega
          have f2 : ((a : Int) + 41 + 8 * (k : Int) + (i : Int)).toNat = a + 41 + (8 * k + i) := by omega
          have f3 : M4 p = M p := by
            rw [j1 p (by omega), hM3]
            funext j
            rw [up2_o (by omega), up2_o (by omega), up2_o (by omega), up2_o (by omega), ep]
          refine kX9_take_67 (hk_p1 := hk) (fun q => by omega) (fun q => kX9_take_74 (hk_p1 := hk) ?_)
          rw [f1, f2, f3, cast1]
          refine ih2 _ (fun o ho => ?_) (fun j hj => ?_) (fun j hj => ?_)
          · funext j
            rw [up2_o ho, j1 o ho]
          · by_cases hq : j = 8 * k + i
            · rw [hq, up2_eq]
            · rw [up2_j hq]; exact j2 j (by omega)
          · rw [up2_j (by omega)]; exact j3 j (by omega)
      refine inner 0 (Nat.zero_le _) M3 (fun o _ => rfl) (fun j hj => ?_) (fun j hj => ?_)
      · rw [hM3, up2_o (by decide), up2_o (by decide), up2_o (by decide), up2_o (by decide)]
        exact k1.2.2.2.1 j (by omega)
      · rw [hM3, up2_o (by decide), up2_o (by decide), up2_o (by decide), up2_o (by decide)]
        exact k1.2.2.2.2 j (by omega)
  exact go 0 (Nat.zero_le _) M ⟨fun o _ _ _ _ _ => rfl, fun t ht => by omega, fun t _ => ⟨rfl, rfl, rfl, rfl⟩, fun j hj => by omega, fun j _ => rfl⟩
end PG
