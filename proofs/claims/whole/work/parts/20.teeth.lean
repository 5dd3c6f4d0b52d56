/-! ===== TeethForCoins$Teeth ===== -/
theorem oTC {t t' : Nat} : oT t ≠ oC t' := by unfold oT oC; omega
theorem oCT {t t' : Nat} : oC t ≠ oT t' := by unfold oT oC; omega
theorem oC_inj {t t' : Nat} : oC t = oC t' ↔ t = t' := by unfold oC; omega
theorem oT_inj {t t' : Nat} : oT t = oT t' ↔ t = t' := by unfold oT; omega
theorem up2_eq {M : Mem} {o j : Nat} {z : Int} : up2 M o j z o j = z := by simp [up2]
theorem up2_j {M : Mem} {o j j' : Nat} {z : Int} (h : j' ≠ j) : up2 M o j z o j' = M o j' := by simp [up2, h]
theorem up2_o {M : Mem} {o o' j j' : Nat} {z : Int} (h : o' ≠ o) : up2 M o j z o' j' = M o' j' := by simp [up2, h]
section TT
variable {X : Scr} {M : Mem}
theorem get_n {t k c : Nat} (ht : t < 27) (hk : k < 10) (hc : c < 15) : Call X mX6_get [vr (oT t), vi (k : Int), vi (c : Int)] M (retI (M (oC t) (15 * k + c)) M) := by
  refine kX6_get_0 (fun h => ?_) (fun h => ?_)
  · omega
  · refine kX6_get_11 (fun h => ?_) (fun h => ?_)
    · refine kX6_get_24 (kX6_get_30 ?_)
      rw [show ((k : Int) * 15 + (c : Int)).toNat = 15 * k + c by omega]
      exact ⟨rfl, rfl⟩
    · omega
theorem set_n {t k c : Nat} {v : Int} (ht : t < 27) (hk : k < 10) (hc : c < 15) : Call X mX6_set [vr (oT t), vi (k : Int), vi (c : Int), vi v] M (ret0 (up2 M (oC t) (15 * k + c) v)) := by
  refine kX6_set_0 (fun h => ?_) (fun h => ?_)
  · omega
  · refine kX6_set_13 (fun h => ?_) (fun h => ?_)
    · omega
    · refine kX6_set_23 (kX6_set_31 ?_)
      rw [show ((k : Int) * 15 + (c : Int)).toNat = 15 * k + c by omega]
      exact ⟨rfl, rfl⟩
/-- what it is when a tooth has another owner -/
def pass (M : Mem) (C k : Nat) (p : Int) : Mem :=
  if M C (15 * k + 6) < 8 then up2 (up2 (up2 M C (15 * k + 3) p) C (15 * k + 7 + (M C (15 * k + 6)).toNat) p) C (15 * k + 6) (M C (15 * k + 6) + 1) else up2 M C (15 * k + 3) p
theorem passTo_n {t k : Nat} {p : Int} (ht : t < 27) (hk : k < 10) (hr : 0 ≤ M (oC t) (15 * k + 6)) : Call X mX6_passTo [vr (oT t), vi (k : Int), vi p] M (ret0 (pass M (oC t) k p)) := by
  refine kX6_passTo_0 (set_n (c := 3) ht hk (by omega)) (on0 ?_)
  refine kX6_passTo_7 (get_n (c := 6) ht hk (by omega)) (on ?_)
  rw [up2_j (by omega)]
  obtain ⟨q, hq⟩ : ∃ q : Nat, M (oC t) (15 * k + 6) = (q : Int) := ⟨(M (oC t) (15 * k + 6)).toNat, by omega⟩
  refine kX6_passTo_14 (fun h => ?_) (fun h => ?_)
  · refine kX6_passTo_41 ?_
    unfold pass
    rw [if_neg (by omega)]
    exact ⟨rfl, rfl⟩
  · rw [hq] at h ⊢
    refine kX6_passTo_21 (by rw [show (7 : Int) + (q : Int) = ((7 + q : Nat) : Int) by omega]; exact set_n (c := 7 + q) ht hk (by omega)) (on0 ?_)
    refine kX6_passTo_31 (set_n (c := 6) ht hk (by omega)) (on0 ?_)
    refine kX6_passTo_41 ?_
    unfold pass
    rw [hq, if_pos h]
    refine ⟨rfl, ?_⟩
    rw [show ((q : Int)).toNat = q by omega, show 15 * k + (7 + q) = 15 * k + 7 + q by omega]
theorem traceOf_n {t k : Nat} {i : Int} (ht : t < 27) (hk : k < 10) (h8 : M (oC t) (15 * k + 6) ≤ 8) : Call X mX6_traceOf [vr (oT t), vi (k : Int), vi i] M (retI (if 0 ≤ i ∧ i < M (oC t) (15 * k + 6) then M (oC t) (15 * k + 7 + i.toNat) else -9) M) := by
  refine kX6_traceOf_0 (fun h => ?_) (fun h => ?_)
  · refine kX6_traceOf_15 (kX6_traceOf_29 ?_)
    rw [if_neg (by omega)]
    exact ⟨rfl, rfl⟩
  · refine kX6_traceOf_4 (get_n (c := 6) ht hk (by omega)) (on ?_)
    refine kX6_traceOf_12 (fun h2 => ?_) (fun h2 => ?_)
    · refine kX6_traceOf_20 (by rw [show (7 : Int) + i = ((7 + i.toNat : Nat) : Int) by omega]; exact get_n (c := 7 + i.toNat) ht hk (by omega)) (on ?_)
      refine kX6_traceOf_29 ?_
      rw [if_pos ⟨h, h2⟩, show 15 * k + (7 + i.toNat) = 15 * k + 7 + i.toNat by omega]
      exact ⟨rfl, rfl⟩
    · refine kX6_traceOf_15 (kX6_traceOf_29 ?_)
      rw [if_neg (by omega)]
      exact ⟨rfl, rfl⟩
theorem ownedBy_n {t n : Nat} {p : Int} (ht : t < 27) (hn : n ≤ 10) (hM : M (oT t) 1 = (n : Int)) : Call X mX6_ownedBy [vr (oT t), vi p] M (retI (own (fun j => M (oC t) (15 * j + 3)) p n : Nat) M) := by
  refine kX6_ownedBy_0 ?_
  refine up_loop (n := n) (G := fun k => Runs X mX6_ownedBy 4 [(0, vr (oT t)), (1, vi p), (2, vi ((own (fun j => M (oC t) (15 * j + 3)) p k : Nat) : Int)), (3, vi (k : Int))] [] M (retI (own (fun j => M (oC t) (15 * j + 3)) p n : Nat) M)) ?_ ?_ 0 (Nat.zero_le _)
  · refine kX6_ownedBy_4 (fun h => kX6_ownedBy_34 ⟨rfl, rfl⟩) (fun h => ?_)
    omega
  · intro k hk ih
    have hlt := own_lt (fun j => M (oC t) (15 * j + 3)) p k
    have h10 : (2 : Nat) ^ k ≤ 2 ^ 10 := Nat.pow_le_pow_right (by decide) (by omega)
    refine kX6_ownedBy_4 (fun h => ?_) (fun h => ?_)
    · omega
    · refine kX6_ownedBy_12 (get_n (c := 3) ht (by omega) (by omega)) (on ?_)
      refine kX6_ownedBy_18 (fun h2 => ?_) (fun h2 => ?_)
      · refine kX6_ownedBy_28 ?_
        rw [cast1]
        have e : own (fun j => M (oC t) (15 * j + 3)) p (k + 1) = own (fun j => M (oC t) (15 * j + 3)) p k := by
          show (if _ then _ else _) = _
          rw [if_neg h2]
        rw [e] at ih
        exact ih
      · refine kX6_ownedBy_22 (kX6_ownedBy_28 ?_)
        rw [cast1, one_shl (by omega), zor_n (by omega) (by omega)]
        have e : own (fun j => M (oC t) (15 * j + 3)) p (k + 1) = own (fun j => M (oC t) (15 * j + 3)) p k ||| 2 ^ k := by
          show (if _ then _ else _) = _
          rw [if_pos h2]
        rw [e] at ih
        exact ih
theorem wearDown_n {t k : Nat} (ht : t < 27) (hk : k < 10) (hr : M (oC t) (15 * k + 2) ≤ 1000) (hr2 : -1000 ≤ M (oC t) (15 * k + 2)) : Call X mX6_wearDown [vr (oT t), vi (k : Int)] M (ret0 (up2 M (oC t) (15 * k + 2) (min 99 (M (oC t) (15 * k + 2) + 1)))) := by
  refine kX6_wearDown_0 (get_n (c := 2) ht hk (by omega)) (on ?_)
  exact kX6_wearDown_11 (set_n (c := 2) ht hk (by omega)) (on0 (kX6_wearDown_19 ⟨rfl, rfl⟩))
def sumF (f : Nat → Int) : Nat → Int
  | 0 => 0
  | k + 1 => sumF f k + f k
theorem sumF_bound {f : Nat → Int} {B : Int} : ∀ {n : Nat}, (∀ t, t < n → 0 ≤ f t ∧ f t ≤ B) → 0 ≤ sumF f n ∧ sumF f n ≤ B * n
  | 0, _ => by simp [sumF]
  | k + 1, h => by
    have h1 := sumF_bound (n := k) (fun t ht => h t (by omega))
    have h2 := h k (by omega)
    have e : B * ((k + 1 : Nat) : Int) = B * (k : Int) + B := by rw [Int.natCast_succ, Int.mul_add, Int.mul_one]
    rw [e]
    unfold sumF
    omega
theorem sumF_congr {f g : Nat → Int} : ∀ {n : Nat}, (∀ t, t < n → f t = g t) → sumF f n = sumF g n
  | 0, _ => rfl
  | k + 1, h => by
    unfold sumF
    rw [sumF_congr (fun t ht => h t (by omega)), h k (by omega)]
theorem fakes_n {t n : Nat} (ht : t < 27) (hn : n ≤ 10) (hM : M (oT t) 1 = (n : Int)) (hf : ∀ j, j < n → 0 ≤ M (oC t) (15 * j + 4) ∧ M (oC t) (15 * j + 4) ≤ 1) : Call X mX6_fakes [vr (oT t)] M (retI (sumF (fun j => M (oC t) (15 * j + 4)) n) M) := by
  refine kX6_fakes_0 ?_
  refine up_loop (n := n) (G := fun k => Runs X mX6_fakes 4 [(0, vr (oT t)), (1, vi (sumF (fun j => M (oC t) (15 * j + 4)) k)), (2, vi (k : Int))] [] M (retI (sumF (fun j => M (oC t) (15 * j + 4)) n) M)) ?_ ?_ 0 (Nat.zero_le _)
  · exact kX6_fakes_4 (fun h => kX6_fakes_27 ⟨rfl, rfl⟩) (fun h => by omega)
  · intro k hk ih
    refine kX6_fakes_4 (fun h => by omega) (fun h => ?_)
    have hb := sumF_bound (f := fun j => M (oC t) (15 * j + 4)) (B := 1) (n := k) (fun j hj => hf j (by omega))
    have hb2 := hf k hk
    refine kX6_fakes_12 (get_n (c := 4) ht (by omega) (by omega)) (on ?_)
    refine kX6_fakes_19 ?_
    rw [cast1]
    exact ih
theorem wearTooMuch_n {t k : Nat} (ht : t < 27) (hk : k < 10) (hr : 0 ≤ M (oC t) (15 * k + 2) ∧ M (oC t) (15 * k + 2) ≤ 99) (hr2 : 0 ≤ M (oC t) (15 * k + 5) ∧ M (oC t) (15 * k + 5) ≤ 99) : Call X mX6_wearTooMuch [vr (oT t), vi (k : Int)] M (retI (max 0 (M (oC t) (15 * k + 2) - M (oC t) (15 * k + 5))) M) := by
  refine kX6_wearTooMuch_0 (get_n (c := 2) ht hk (by omega)) (on ?_)
  refine kX6_wearTooMuch_7 (get_n (c := 5) ht hk (by omega)) (on ?_)
  exact kX6_wearTooMuch_13 ⟨rfl, rfl⟩
/-- how much of a tooth's wear is too much, if it is p's -/
def tooW (M : Mem) (C : Nat) (p : Int) (j : Nat) : Int := if M C (15 * j + 3) = p then max 0 (M C (15 * j + 2) - M C (15 * j + 5)) else 0
theorem wearTooMuchOf_n {t n : Nat} {p : Int} (ht : t < 27) (hn : n ≤ 10) (hM : M (oT t) 1 = (n : Int)) (hr : ∀ k, k < n → (0 ≤ M (oC t) (15 * k + 2) ∧ M (oC t) (15 * k + 2) ≤ 99) ∧ 0 ≤ M (oC t) (15 * k + 5) ∧ M (oC t) (15 * k + 5) ≤ 99) : Call X mX6_wearTooMuchOf [vr (oT t), vi p] M (retI (sumF (tooW M (oC t) p) n) M) := by
  refine kX6_wearTooMuchOf_0 ?_
  refine up_loop (n := n) (G := fun k => Runs X mX6_wearTooMuchOf 4 [(0, vr (oT t)), (1, vi p), (2, vi (sumF (tooW M (oC t) p) k)), (3, vi (k : Int))] [] M (retI (sumF (tooW M (oC t) p) n) M)) ?_ ?_ 0 (Nat.zero_le _)
  · exact kX6_wearTooMuchOf_4 (fun h => kX6_wearTooMuchOf_36 ⟨rfl, rfl⟩) (fun h => by omega)
  · intro k hk ih
    have hw : ∀ j, j < n → 0 ≤ tooW M (oC t) p j ∧ tooW M (oC t) p j ≤ 99 := by
      intro j hj
      have := hr j hj
      unfold tooW
      split <;> omega
    have hb := sumF_bound (f := tooW M (oC t) p) (B := 99) (n := k) (fun j hj => hw j (by omega))
    have hwk := hw k hk
    refine kX6_wearTooMuchOf_4 (fun h => by omega) (fun h => ?_)
    refine kX6_wearTooMuchOf_12 (get_n (c := 3) ht (by omega) (by omega)) (on ?_)
    refine kX6_wearTooMuchOf_18 (fun h2 => ?_) (fun h2 => ?_)
    · refine kX6_wearTooMuchOf_30 ?_
      rw [cast1]
      have e : sumF (tooW M (oC t) p) (k + 1) = sumF (tooW M (oC t) p) k := by
        show _ + tooW M (oC t) p k = _
        unfold tooW; rw [if_neg h2, Int.add_zero]
      rw [e] at ih
      exact ih
    · have hk2 := hr k hk
      refine kX6_wearTooMuchOf_22 (wearTooMuch_n ht (by omega) hk2.1 hk2.2) (on ?_)
      have e : sumF (tooW M (oC t) p) (k + 1) = sumF (tooW M (oC t) p) k + max 0 (M (oC t) (15 * k + 2) - M (oC t) (15 * k + 5)) := by
        show _ + tooW M (oC t) p k = _
        unfold tooW; rw [if_pos h2]
      rw [e] at ih
      refine kX6_wearTooMuchOf_28 (kX6_wearTooMuchOf_30 ?_)
      rw [cast1]
      exact ih
theorem copyCells_n {t u a b : Nat} (ht : t < 27) (hu : u < 27) (h : a + b ≤ 150) : Call X mX6_copyCells [vr (oT t), vr (oT u), vi (a : Int), vi (b : Int)] M (ret0 (cpyM M (oC u) a (oC t) a b)) := by
  refine kX6_copyCells_0 (fun h1 => by omega) (fun h1 => ?_)
  refine kX6_copyCells_4 (fun h1 => by omega) (fun h1 => ?_)
  refine kX6_copyCells_8 (fun h1 => by omega) (fun h1 => ?_)
  refine kX6_copyCells_19 (fun h1 => by omega) (fun h1 => ?_)
  exact kX6_copyCells_30 (kX6_copyCells_44 ⟨rfl, rfl⟩)
/-- all of u's teeth, also in t -/
def copT (M : Mem) (t u : Nat) : Mem := cpyM (up2 M (oT t) 1 (M (oT u) 1)) (oC u) 0 (oC t) 0 150
theorem copyFrom_n {t u : Nat} (ht : t < 27) (hu : u < 27) : Call X mX6_copyFrom [vr (oT t), vr (oT u)] M (ret0 (copT M t u)) :=
  kX6_copyFrom_0 (copyCells_n (a := 0) (b := 150) ht hu (by omega)) (on0 (kX6_copyFrom_23 ⟨rfl, rfl⟩))
/-- n teeth of u, but what their wear should be, also in t -/
def tbM (M : Mem) (t u n : Nat) : Mem := fun o j => if o = oC t ∧ j < 15 * n ∧ j % 15 ≠ 5 then M (oC u) j else M o j
theorem tbM_0 {t u : Nat} : tbM M t u 0 = M := by
  funext o j
  unfold tbM
  rw [if_neg (by omega)]
theorem tbM_s {t u k : Nat} (htu : t ≠ u) : up2 (cpyM (tbM M t u k) (oC u) (15 * k) (oC t) (15 * k) 15) (oC t) (15 * k + 5) (tbM M t u k (oC t) (15 * k + 5)) = tbM M t u (k + 1) := by
  have hne : oC u ≠ oC t := fun h => htu (oC_inj.mp h).symm
  funext o j
  by_cases ho : o = oC t
  · subst ho
    by_cases hj : j = 15 * k + 5
    · subst hj
      rw [up2_eq]
      unfold tbM
      rw [if_neg (by omega), if_neg (by omega)]
    · rw [up2_j hj]
      unfold cpyM
      by_cases hr : 15 * k ≤ j ∧ j < 15 * k + 15
      · rw [if_pos ⟨rfl, hr⟩, show 15 * k + (j - 15 * k) = j by omega]
        unfold tbM
        rw [if_neg (fun h => hne h.1), if_pos ⟨rfl, by omega, by omega⟩]
      · rw [if_neg (fun h => hr h.2)]
        unfold tbM
        by_cases hq : j < 15 * k ∧ j % 15 ≠ 5
        · rw [if_pos ⟨rfl, hq.1, hq.2⟩, if_pos ⟨rfl, by omega, hq.2⟩]
        · rw [if_neg (fun h => hq h.2), if_neg (by omega)]
  · rw [up2_o ho, cpyM_ne _ ho]
    unfold tbM
    rw [if_neg (fun h => ho h.1), if_neg (fun h => ho h.1)]
theorem takeBack_n {t u n : Nat} (ht : t < 27) (hu : u < 27) (htu : t ≠ u) (hn : n ≤ 10) (hM : M (oT u) 1 = (n : Int)) : Call X mX6_takeBack [vr (oT t), vr (oT u)] M (ret0 (tbM M t u n)) := by
  refine kX6_takeBack_0 ?_
  have hT : ∀ k, tbM M t u k (oT u) 1 = (n : Int) := fun k => by
    unfold tbM
    rw [if_neg (fun h => oTC h.1)]
    exact hM
  have go := up_loop (n := n) (G := fun k => Runs X mX6_takeBack 7 [(0, vr (oT t)), (1, vr (oT u)), (2, vi (k : Int))] [] (tbM M t u k) (ret0 (tbM M t u n))) ?_ ?_ 0 (Nat.zero_le _)
  · rw [tbM_0] at go
    exact go
  · exact kX6_takeBack_7 (fun h => kX6_takeBack_46 ⟨rfl, rfl⟩) (fun h => by rw [hT] at h; omega)
  · intro k hk ih
    refine kX6_takeBack_7 (fun h => by rw [hT] at h; omega) (fun h => ?_)
    refine kX6_takeBack_15 (get_n (c := 5) ht (by omega) (by omega)) (on ?_)
    refine kX6_takeBack_21 (by rw [show (k : Int) * 15 = ((15 * k : Nat) : Int) by omega]; exact copyCells_n (a := 15 * k) (b := 15) ht hu (by omega)) (on0 ?_)
    refine kX6_takeBack_33 (set_n (c := 5) ht (by omega) (by omega)) (on0 ?_)
    rw [tbM_s htu]
    refine kX6_takeBack_40 ?_
    rw [cast1]
    exact ih
/-- a tooth more, of this size, side and owner -/
def addM (M : Mem) (t n : Nat) (s l p : Int) : Mem :=
  up2 (up2 (up2 (up2 (up2 (up2 (up2 (up2 (up2 (up2 M (oT t) 1 (n + 1)) (oC t) (15 * n) s) (oC t) (15 * n + 1) (if l = 0 then 0 else 1)) (oC t) (15 * n + 2) 0) (oC t) (15 * n + 4) 0) (oC t) (15 * n + 5) 0) (oC t) (15 * n + 6) 0) (oC t) (15 * n + 3) p) (oC t) (15 * n + 7) p) (oC t) (15 * n + 6) 1
theorem add_n {t n : Nat} {s l p : Int} (ht : t < 27) (hn : n < 10) (hM : M (oT t) 1 = (n : Int)) : Call X mX6_add [vr (oT t), vi s, vi l, vi p] M (retI n (addM M t n s l p)) := by
  refine kX6_add_0 (fun h => ?_) (fun h => by omega)
  rw [hM]
  refine kX6_add_16 (set_n (c := 0) ht hn (by omega)) (on0 ?_)
  rw [hM]
  have tail : ∀ M2 : Mem, Runs X mX6_add 50 [(0, vr (oT t)), (3, vi p), (4, vi (n : Int))] [] M2 (retI n (pass (up2 (up2 (up2 (up2 M2 (oC t) (15 * n + 2) 0) (oC t) (15 * n + 4) 0) (oC t) (15 * n + 5) 0) (oC t) (15 * n + 6) 0) (oC t) n p)) := by
    intro M2
    refine kX6_add_50 (set_n (c := 2) ht hn (by omega)) (on0 ?_)
    refine kX6_add_58 (set_n (c := 4) ht hn (by omega)) (on0 ?_)
    refine kX6_add_66 (set_n (c := 5) ht hn (by omega)) (on0 ?_)
    refine kX6_add_74 (set_n (c := 6) ht hn (by omega)) (on0 ?_)
    refine kX6_add_83 (passTo_n ht hn (by rw [up2_eq]; omega)) (on0 ?_)
    exact kX6_add_90 ⟨rfl, rfl⟩
  have e : ∀ M2 : Mem, pass (up2 M2 (oC t) (15 * n + 6) 0) (oC t) n p = up2 (up2 (up2 (up2 M2 (oC t) (15 * n + 6) 0) (oC t) (15 * n + 3) p) (oC t) (15 * n + 7) p) (oC t) (15 * n + 6) 1 := by
    intro M2
    unfold pass
    rw [up2_eq, if_pos (by omega)]
    rfl
  refine kX6_add_34 (fun h2 => ?_) (fun h2 => ?_)
  · refine kX6_add_46 (kX6_add_47 (set_n (c := 1) ht hn (by omega)) (on0 ?_))
    have k := tail (up2 (up2 (up2 M (oT t) 1 (n + 1)) (oC t) (15 * n) s) (oC t) (15 * n + 1) 0)
    rw [e] at k
    unfold addM
    rw [if_pos h2]
    exact k
  · refine kX6_add_42 (kX6_add_47 (set_n (c := 1) ht hn (by omega)) (on0 ?_))
    have k := tail (up2 (up2 (up2 M (oT t) 1 (n + 1)) (oC t) (15 * n) s) (oC t) (15 * n + 1) 1)
    rw [e] at k
    unfold addM
    rw [if_neg h2]
    exact k
end TT
