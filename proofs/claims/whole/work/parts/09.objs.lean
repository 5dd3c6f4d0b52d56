/-! ===== the numbers of the objects that come in several ===== -/
def oT (t : Nat) : Nat := 100 + 2 * t
def oC (t : Nat) : Nat := 101 + 2 * t
def oR (w : Nat) : Nat := 10 + 3 * w
def oG (w : Nat) : Nat := 11 + 3 * w
def oN (w : Nat) : Nat := 12 + 3 * w
def oB (w : Nat) : Nat := 20 + 2 * w
def oA (w : Nat) : Nat := 21 + 2 * w
def oS (s : Nat) : Nat := 31 + s
theorem kd_oT {t : Nat} (h : t < 27) : kd (oT t) = some (.inl 6) := by unfold kd oT; rw [if_pos (by omega), if_pos (by omega)]
theorem kd_oC {t : Nat} (h : t < 27) : kd (oC t) = some (.inr (.int, 150)) := by unfold kd oC; rw [if_pos (by omega), if_neg (by omega)]
theorem kd_oR {w : Nat} (h : w < 3) : kd (oR w) = some (.inl 3) := by rcases (show w = 0 ∨ w = 1 ∨ w = 2 by omega) with rfl | rfl | rfl <;> rfl
theorem kd_oG {w : Nat} (h : w < 3) : kd (oG w) = some (.inr (.int, 16)) := by rcases (show w = 0 ∨ w = 1 ∨ w = 2 by omega) with rfl | rfl | rfl <;> rfl
theorem kd_oN {w : Nat} (h : w < 3) : kd (oN w) = some (.inr (.int, 16)) := by rcases (show w = 0 ∨ w = 1 ∨ w = 2 by omega) with rfl | rfl | rfl <;> rfl
theorem kd_oB {w : Nat} (h : w < 3) : kd (oB w) = some (.inl 0) := by rcases (show w = 0 ∨ w = 1 ∨ w = 2 by omega) with rfl | rfl | rfl <;> rfl
theorem kd_oA {w : Nat} (h : w < 3) : kd (oA w) = some (.inr (tyT, 8)) := by rcases (show w = 0 ∨ w = 1 ∨ w = 2 by omega) with rfl | rfl | rfl <;> rfl
theorem kd_oS {s : Nat} (h : s < 2) : kd (oS s) = some (.inl 5) := by rcases (show s = 0 ∨ s = 1 by omega) with rfl | rfl <;> rfl
theorem rf_oC {t : Nat} (h : t < 27) : rfs (oT t) 0 = some (oC t) := by
  unfold rfs oT oC
  rw [if_pos (by omega), if_pos ⟨by omega, rfl⟩]
  congr 1
  omega
theorem rf_oG {w : Nat} (h : w < 3) : rfs (oR w) 0 = some (oG w) := by rcases (show w = 0 ∨ w = 1 ∨ w = 2 by omega) with rfl | rfl | rfl <;> rfl
theorem rf_oN {w : Nat} (h : w < 3) : rfs (oR w) 1 = some (oN w) := by rcases (show w = 0 ∨ w = 1 ∨ w = 2 by omega) with rfl | rfl | rfl <;> rfl
theorem rf_oA {w : Nat} (h : w < 3) : rfs (oB w) 0 = some (oA w) := by rcases (show w = 0 ∨ w = 1 ∨ w = 2 by omega) with rfl | rfl | rfl <;> rfl
theorem rf_ah {w j : Nat} (h : w < 3) (hj : j < 8) : rfs (oA w) j = some (oT (9 * w + 1 + j)) := by
  rcases (show w = 0 ∨ w = 1 ∨ w = 2 by omega) with rfl | rfl | rfl <;>
    rcases (show j = 0 ∨ j = 1 ∨ j = 2 ∨ j = 3 ∨ j = 4 ∨ j = 5 ∨ j = 6 ∨ j = 7 by omega) with rfl | rfl | rfl | rfl | rfl | rfl | rfl | rfl <;> rfl
theorem rf_sl {j : Nat} (h : j < 2) : rfs 30 j = some (oS j) := by rcases (show j = 0 ∨ j = 1 by omega) with rfl | rfl <;> rfl
theorem rf_oS0 {s : Nat} (h : s < 2) : rfs (oS s) 0 = some (oT (9 * (s + 1))) := by rcases (show s = 0 ∨ s = 1 by omega) with rfl | rfl <;> rfl
theorem rf_oS1 {s : Nat} (h : s < 2) : rfs (oS s) 1 = some (oB (s + 1)) := by rcases (show s = 0 ∨ s = 1 by omega) with rfl | rfl <;> rfl
theorem rf_oS2 {s : Nat} (h : s < 2) : rfs (oS s) 2 = some (oR (s + 1)) := by rcases (show s = 0 ∨ s = 1 by omega) with rfl | rfl <;> rfl
theorem Runs.picks {X : Scr} {m : MR} {pc : Nat} {loc loc' : List (Nat × AV)} {st : List AV} {M : Mem} {P : Option AV → Mem → Prop} (ks : List Nat) (h : ks.filterMap (fun i => loc[i]?) = loc') (k : Runs X m pc loc' st M P) : Runs X m pc loc st M P := by
  refine Runs.pick (fun q hq => ?_) k
  subst h
  obtain ⟨i, -, hi⟩ := List.mem_filterMap.mp hq
  exact List.mem_of_getElem? hi
