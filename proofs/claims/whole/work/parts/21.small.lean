/-! ===== the JDK's two, Goods, Least, Rates ===== -/
/-- how many of the first n bits -/
def popN (s : Nat) : Nat → Nat
  | 0 => 0
  | k + 1 => popN s k + (if s.testBit k then 1 else 0)
def bf1 (x : Int) : Int := x - zand (zushr x 1) 1431655765
def bf2 (x : Int) : Int := zand x 858993459 + zand (zushr x 2) 858993459
def bf3 (x : Int) : Int := zand (x + zushr x 4) 252645135
def bf4 (x : Int) : Int := x + zushr x 8
def bf5 (x : Int) : Int := x + zushr x 16
def bfOK (n : Nat) : Bool := decide (inI (bf1 n)) && decide (inI (bf2 (bf1 n))) && decide (inI (bf2 (bf1 n) + zushr (bf2 (bf1 n)) 4)) && decide (inI (bf4 (bf3 (bf2 (bf1 n))))) && decide (inI (bf5 (bf4 (bf3 (bf2 (bf1 n)))))) && decide (zand (bf5 (bf4 (bf3 (bf2 (bf1 n))))) 63 = (popN n 10 : Nat))
theorem bfs : ∀ n, n < 1024 → bfOK n = true := by decide +kernel
section SM
variable {X : Scr} {M : Mem}
theorem bitCount_n {n : Nat} (h : n < 1024) : Call X mJ6_bitCount_0f7a4 [vi (n : Int)] M (retI (popN n 10 : Nat) M) := by
  have hb := bfs n h
  unfold bfOK at hb
  simp only [Bool.and_eq_true, decide_eq_true_eq] at hb
  obtain ⟨⟨⟨⟨⟨h1, h2⟩, h3⟩, h4⟩, h5⟩, h6⟩ := hb
  refine kJ6_bitCount_0f7a4_0 ?_ (h1 := h1) (h2 := h2) (h3 := h3) (h4 := h4) (h5 := h5)
  exact ⟨by rw [← h6]; rfl, rfl⟩
def fillM (M : Mem) (p n : Nat) (v : Int) : Mem := fun o j => if o = p ∧ j < n then v else M o j
theorem fill_n {p n : Nat} {v : Int} (hk : kd p = some (.inr (.int, n))) (hn : n < 2147483647) : Call X mJ7_fill_53178 [vr p, vi v] M (ret0 (fillM M p n v)) := by
  refine kJ7_fill_53178_0 ?_ (hk_p0 := hk)
  have go := up_loop (n := n) (G := fun k => Runs X mJ7_fill_53178 5 [(0, vr p), (1, vi v), (2, vi (k : Int)), (3, vi (n : Int))] [] (fillM M p k v) (ret0 (fillM M p n v))) ?_ ?_ 0 (Nat.zero_le _)
  · have e : fillM M p 0 v = M := by
      funext o j
      unfold fillM
      rw [if_neg (by omega)]
    rw [e] at go
    exact go
  · exact kJ7_fill_53178_5 (fun h => kJ7_fill_53178_20 ⟨rfl, rfl⟩) (fun h => by omega) (hk_p0 := hk)
  · intro k hk2 ih
    refine kJ7_fill_53178_5 (fun h => by omega) (fun h => ?_) (hk_p0 := hk)
    refine kJ7_fill_53178_10 ?_ (hk_p0 := hk)
    have e : up2 (fillM M p k v) p ((k : Int)).toNat v = fillM M p (k + 1) v := by
      funext o j
      unfold up2 fillM
      by_cases ho : o = p
      · by_cases hj : j = k
        · rw [if_pos ⟨ho, by omega⟩, if_pos ⟨ho, by omega⟩]
        · rw [if_neg (by omega)]
          by_cases hl : j < k
          · rw [if_pos ⟨ho, hl⟩, if_pos ⟨ho, by omega⟩]
          · rw [if_neg (by omega), if_neg (by omega)]
      · rw [if_neg (fun h => ho h.1), if_neg (fun h => ho h.1), if_neg (fun h => ho h.1)]
    rw [e, cast1]
    exact ih
-- ===== Goods
theorem priceOf_n {k : Nat} (hk : k < 4) : Call X mX1_priceOf [vr 3, vi (k : Int)] M (retI (M 4 k) M) :=
  kX1_priceOf_0 (fun h => by omega) (fun h => kX1_priceOf_4 (fun h => kX1_priceOf_17 (kX1_priceOf_23 ⟨rfl, rfl⟩)) (fun h => by omega))
theorem useOf_n {k : Nat} (hk : k < 4) : Call X mX1_useOf [vr 3, vi (k : Int)] M (retI (M 5 k) M) :=
  kX1_useOf_0 (fun h => by omega) (fun h => kX1_useOf_4 (fun h => kX1_useOf_17 (kX1_useOf_23 ⟨rfl, rfl⟩)) (fun h => by omega))
theorem priceOfSet_n {s g : Nat} (hs : s < 16) (hg : M 3 2 = (g : Int)) (hg4 : g ≤ 4) (hp : ∀ k, k < g → 0 ≤ M 4 k ∧ M 4 k ≤ 99) : Call X mX1_priceOfSet [vr 3, vi (s : Int)] M (retI (setW (M 4) s g) M) := by
  refine kX1_priceOfSet_0 ?_
  refine up_loop (n := g) (G := fun k => Runs X mX1_priceOfSet 4 [(0, vr 3), (1, vi (s : Int)), (2, vi (setW (M 4) s k)), (3, vi (k : Int))] [] M (retI (setW (M 4) s g) M)) ?_ ?_ 0 (Nat.zero_le _)
  · exact kX1_priceOfSet_4 (fun h => kX1_priceOfSet_32 ⟨rfl, rfl⟩) (fun h => by omega)
  · intro k hk ih
    have hb := setW_bound (w := M 4) (s := s) (B := 99) (n := k) (fun t ht => hp t (by omega)) (by decide)
    have hpk := hp k hk
    refine kX1_priceOfSet_4 (fun h => by omega) (fun h => ?_)
    refine kX1_priceOfSet_12 (priceOf_n (by omega)) (on ?_)
    rw [bit_n (by omega) (by omega)]
    have e : setW (M 4) s (k + 1) = setW (M 4) s k + (if s.testBit k then (1 : Int) else 0) * M 4 k := by
      show _ + (if s.testBit k = true then M 4 k else 0) = _
      split <;> simp
    rw [e, ← cast1] at ih
    refine kX1_priceOfSet_23 ih (h1 := ?_) (h2 := ?_)
    · split <;> omega
    · split <;> omega
theorem useOfSet_n {s g : Nat} (hs : s < 16) (hg : M 3 2 = (g : Int)) (hg4 : g ≤ 4) (hp : ∀ k, k < g → 0 ≤ M 5 k ∧ M 5 k ≤ 9) : Call X mX1_useOfSet [vr 3, vi (s : Int)] M (retI (setW (M 5) s g) M) := by
  refine kX1_useOfSet_0 ?_
  refine up_loop (n := g) (G := fun k => Runs X mX1_useOfSet 4 [(0, vr 3), (1, vi (s : Int)), (2, vi (setW (M 5) s k)), (3, vi (k : Int))] [] M (retI (setW (M 5) s g) M)) ?_ ?_ 0 (Nat.zero_le _)
  · exact kX1_useOfSet_4 (fun h => kX1_useOfSet_32 ⟨rfl, rfl⟩) (fun h => by omega)
  · intro k hk ih
    have hb := setW_bound (w := M 5) (s := s) (B := 9) (n := k) (fun t ht => hp t (by omega)) (by decide)
    have hpk := hp k hk
    refine kX1_useOfSet_4 (fun h => by omega) (fun h => ?_)
    refine kX1_useOfSet_12 (useOf_n (by omega)) (on ?_)
    rw [bit_n (by omega) (by omega)]
    have e : setW (M 5) s (k + 1) = setW (M 5) s k + (if s.testBit k then (1 : Int) else 0) * M 5 k := by
      show _ + (if s.testBit k = true then M 5 k else 0) = _
      split <;> simp
    rw [e, ← cast1] at ih
    refine kX1_useOfSet_23 ih (h1 := ?_) (h2 := ?_)
    · split <;> omega
    · split <;> omega
def gaddM (M : Mem) (g : Nat) (p u : Int) : Mem := up2 (up2 (up2 M 4 g p) 5 g u) 3 2 (g + 1)
theorem gadd_n {g : Nat} {p u : Int} (hg : M 3 2 = (g : Int)) (hg4 : g < 4) : Call X mX1_add [vr 3, vi p, vi u] M (ret0 (gaddM M g p u)) := by
  refine kX1_add_0 (fun h => by omega) (fun h => ?_)
  refine kX1_add_7 (fun h => by omega) (fun h => ?_)
  refine kX1_add_19 (fun h => by omega) (fun h => ?_)
  have e1 : ∀ z : Int, up2 M 4 (M 3 2).toNat z 3 2 = (g : Int) := fun z => by rw [up2_o (by decide)]; exact hg
  have e2 : ∀ (z z' : Int) (q : Nat), up2 (up2 M 4 (M 3 2).toNat z) 5 q z' 3 2 = (g : Int) := fun z z' q => by rw [up2_o (by decide)]; exact e1 z
  refine kX1_add_31 (kX1_add_61 ⟨rfl, ?_⟩) (h3 := by rw [e1]; omega) (h4 := by rw [e1]; omega) (h5 := by rw [e2]; omega)
  rw [e2, e1, hg]
  rfl
-- ===== Least
theorem clear_n : Call X mX2_clear [vr 33] M (ret0 (up2 (up2 (up2 (up2 M 33 0 0) 33 1 0) 33 2 0) 33 3 0)) := kX2_clear_0 ⟨rfl, rfl⟩
def offM (M : Mem) (a b c : Int) : Mem := if M 33 0 = 0 ∨ a < M 33 1 ∨ (a = M 33 1 ∧ (b < M 33 2 ∨ (b = M 33 2 ∧ c < M 33 3))) then up2 (up2 (up2 (up2 M 33 0 1) 33 1 a) 33 2 b) 33 3 c else M
theorem offer_n {a b c : Int} : Call X mX2_offer [vr 33, vi a, vi b, vi c] M (ret0 (offM M a b c)) := by
  have yes : (M 33 0 = 0 ∨ a < M 33 1 ∨ (a = M 33 1 ∧ (b < M 33 2 ∨ (b = M 33 2 ∧ c < M 33 3)))) → Runs X mX2_offer 47 [(0, vr 33), (1, vi a), (2, vi b), (3, vi c)] [] M (ret0 (offM M a b c)) := by
    intro h
    refine kX2_offer_47 (kX2_offer_67 ⟨rfl, ?_⟩)
    unfold offM
    rw [if_pos h]
  have no : ¬ (M 33 0 = 0 ∨ a < M 33 1 ∨ (a = M 33 1 ∧ (b < M 33 2 ∨ (b = M 33 2 ∧ c < M 33 3)))) → Runs X mX2_offer 67 [] [] M (ret0 (offM M a b c)) := by
    intro h
    refine kX2_offer_67 ⟨rfl, ?_⟩
    unfold offM
    rw [if_neg h]
  refine kX2_offer_0 (fun h => yes (by omega)) (fun h => ?_)
  refine kX2_offer_7 (fun h => yes (by omega)) (fun h => ?_)
  refine kX2_offer_15 (fun h => no (by omega)) (fun h => ?_)
  refine kX2_offer_23 (fun h => yes (by omega)) (fun h => ?_)
  refine kX2_offer_31 (fun h => no (by omega)) (fun h => ?_)
  exact kX2_offer_39 (fun h => no (by omega)) (fun h => yes (by omega))
-- ===== Rates
theorem gotFor_n {w i j : Nat} (hw : w < 3) (hi : i < 4) (hj : j < 4) : Call X mX3_gotFor [vr (oR w), vi (i : Int), vi (j : Int)] M (retI (M (oG w) (4 * i + j)) M) := by
  refine kX3_gotFor_0 (fun h => by omega) (fun h => kX3_gotFor_10 (fun h => kX3_gotFor_23 (kX3_gotFor_29 ?_)) (fun h => by omega))
  rw [show ((i : Int) * 4 + (j : Int)).toNat = 4 * i + j by omega]
  exact ⟨rfl, rfl⟩
theorem givenFor_n {w i j : Nat} (hw : w < 3) (hi : i < 4) (hj : j < 4) : Call X mX3_givenFor [vr (oR w), vi (i : Int), vi (j : Int)] M (retI (M (oN w) (4 * i + j)) M) := by
  refine kX3_givenFor_0 (fun h => by omega) (fun h => kX3_givenFor_10 (fun h => kX3_givenFor_23 (kX3_givenFor_29 ?_)) (fun h => by omega))
  rw [show ((i : Int) * 4 + (j : Int)).toNat = 4 * i + j by omega]
  exact ⟨rfl, rfl⟩
theorem put_n {w i j : Nat} {a b : Int} (hw : w < 3) (hi : i < 4) (hj : j < 4) : Call X mX3_put [vr (oR w), vi (i : Int), vi (j : Int), vi a, vi b] M (ret0 (up2 (up2 M (oG w) (4 * i + j) a) (oN w) (4 * i + j) b)) := by
  refine kX3_put_0 (fun h => by omega) (fun h => kX3_put_12 (fun h => by omega) (fun h => kX3_put_22 (fun h => by omega) (fun h => kX3_put_32 (kX3_put_49 ?_))))
  rw [show ((i : Int) * 4 + (j : Int)).toNat = 4 * i + j by omega]
  exact ⟨rfl, rfl⟩
def rcopM (M : Mem) (w v : Nat) : Mem := cpyM (cpyM M (oG v) 0 (oG w) 0 16) (oN v) 0 (oN w) 0 16
theorem rcop_n {w v : Nat} (hw : w < 3) (hv : v < 3) : Call X mX3_copyFrom [vr (oR w), vr (oR v)] M (ret0 (rcopM M w v)) := kX3_copyFrom_0 ⟨rfl, rfl⟩
end SM
