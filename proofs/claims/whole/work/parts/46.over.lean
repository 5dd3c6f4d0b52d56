/-! ===== the model's teeth handed over ===== -/
/-- one tooth handed over -/
def go1 (M : Mem) (t : Nat) (to : Int) : Mem :=
  if M 313 t < 8 then up2 (up2 (up2 (up2 M 309 t (min 99 (M 309 t + 1))) 310 t to) 314 (8 * t + (M 313 t).toNat) to) 313 t (M 313 t + 1) else up2 (up2 M 309 t (min 99 (M 309 t + 1))) 310 t to
def goM (M : Mem) (s : Nat) (to : Int) : Nat → Mem
  | 0 => M
  | k + 1 => if s.testBit k = true then go1 (goM M s to k) k to else goM M s to k
theorem go1_o {M : Mem} {t o : Nat} {to : Int} (h : o ≠ 309) (h2 : o ≠ 310) (h3 : o ≠ 313) (h4 : o ≠ 314) : go1 M t to o = M o := by
  funext j
  unfold go1
  split
  · rw [up2_o h3, up2_o h4, up2_o h2, up2_o h]
  · rw [up2_o h2, up2_o h]
theorem go1_t {M : Mem} {t u : Nat} {to : Int} (h : u ≠ t) : go1 M t to 309 u = M 309 u ∧ go1 M t to 310 u = M 310 u ∧ go1 M t to 313 u = M 313 u := by
  unfold go1
  split
  · refine ⟨?_, ?_, ?_⟩
    · rw [up2_o (by decide), up2_o (by decide), up2_o (by decide), up2_j h]
    · rw [up2_o (by decide), up2_o (by decide), up2_j h, up2_o (by decide)]
    · rw [up2_j h, up2_o (by decide), up2_o (by decide), up2_o (by decide)]
  · refine ⟨?_, ?_, ?_⟩
    · rw [up2_o (by decide), up2_j h]
    · rw [up2_j h, up2_o (by decide)]
    · rw [up2_o (by decide), up2_o (by decide)]
theorem goM_o {M : Mem} {s o : Nat} {to : Int} (h : o ≠ 309) (h2 : o ≠ 310) (h3 : o ≠ 313) (h4 : o ≠ 314) : ∀ k, goM M s to k o = M o
  | 0 => rfl
  | k + 1 => by
    unfold goM
    split
    · rw [go1_o h h2 h3 h4]; exact goM_o h h2 h3 h4 k
    · exact goM_o h h2 h3 h4 k
theorem goM_t {M : Mem} {s : Nat} {to : Int} : ∀ (k u : Nat), k ≤ u → goM M s to k 309 u = M 309 u ∧ goM M s to k 310 u = M 310 u ∧ goM M s to k 313 u = M 313 u
  | 0, u, _ => ⟨rfl, rfl, rfl⟩
  | k + 1, u, h => by
    have ih := goM_t (M := M) (s := s) (to := to) k u (by omega)
    unfold goM
    split
    · obtain ⟨h1, h2, h3⟩ := go1_t (M := goM M s to k) (t := k) (u := u) (to := to) (by omega)
      rw [h1, h2, h3]
      exact ih
    · exact ih
section GO
variable {X : Scr} {M : Mem}
theorem goOver_n {n s : Nat} {to : Int} (h10 : n ≤ 10) (hM : M 200 6 = (n : Int)) (hs : s < 2147483648) (hr : ∀ t, t < n → (0 ≤ M 309 t ∧ M 309 t ≤ 99) ∧ 0 ≤ M 313 t ∧ M 313 t ≤ 8) : Call X mX9_goOver [vr 200, vi (s : Int), vi to] M (ret0 (goM M s to n)) := by
  refine kX9_goOver_0 ?_
  have eM : ∀ k, goM M s to k 200 6 = (n : Int) := fun k => by rw [goM_o (by decide) (by decide) (by decide) (by decide)]; exact hM
  refine up_loop (n := n) (G := fun k => Runs X mX9_goOver 2 [(0, vr 200), (1, vi (s : Int)), (2, vi to), (3, vi (k : Int))] [] (goM M s to k) (ret0 (goM M s to n))) ?_ ?_ 0 (Nat.zero_le _)
  · exact kX9_goOver_2 (fun q => kX9_goOver_74 ⟨rfl, rfl⟩) (fun q => by rw [eM] at q; omega)
  · intro k hk ih
    have ek : ((k : Int)).toNat = k := by omega
    obtain ⟨g1, g2, g3⟩ := goM_t (M := M) (s := s) (to := to) k k (Nat.le_refl k)
    have hrk := hr k hk
    have e : goM M s to (k + 1) = if s.testBit k = true then go1 (goM M s to k) k to else goM M s to k := rfl
    refine kX9_goOver_2 (fun q => by rw [eM] at q; omega) (fun q => ?_)
    refine kX9_goOver_10 (has_n hs (by omega)) (on ?_)
    refine kX9_goOver_15 (fun q2 => kX9_goOver_68 ?_) (fun q2 => ?_)
    · rw [cast1]
      rw [e, if_neg (by rw [b2i_0.mp q2]; decide)] at ih
      exact ih
    · rw [e, if_pos (b2i_1.mp q2)] at ih
      refine kX9_goOver_18 (goHandle_n (by omega) (by rw [g1]; exact hrk.1)) (on0 ?_)
      obtain ⟨MH, hMH⟩ : ∃ MH, MH = up2 (goM M s to k) 309 k (min 99 (goM M s to k 309 k + 1)) := ⟨_, rfl⟩
      rw [← hMH]
      have h313 : (up2 MH 310 k to) 313 k = goM M s to k 313 k := by rw [up2_o (by decide), hMH, up2_o (by decide)]
      refine kX9_goOver_23 (fun q3 => ?_) (fun q3 => ?_)
      · rw [ek, h313] at q3
        rw [ek]
        refine kX9_goOver_68 ?_
        rw [cast1]
        unfold go1 at ih
        rw [if_neg (by omega), ← hMH] at ih
        exact ih
      · rw [ek, h313] at q3
        rw [ek]
        have e1 : (8 * (k : Int) + (up2 MH 310 k to) 313 k).toNat = 8 * k + (goM M s to k 313 k).toNat := by rw [h313]; omega
        have e2 : ∀ j, (up2 (up2 MH 310 k to) 314 j to) 313 k = goM M s to k 313 k := fun j => by rw [up2_o (by decide), h313]
        refine kX9_goOver_41 (h4 := by rw [ek, h313]; omega) (h5 := by rw [ek, h313]; omega) (h6 := by rw [ek, h313]; omega) (h7 := by rw [ek, e1, e2]; omega) ?_
        rw [ek, e1, e2]
        refine kX9_goOver_68 ?_
        rw [cast1]
        unfold go1 at ih
        rw [if_pos q3, ← hMH] at ih
        exact ih
end GO
