/-! ===== the model reads a market ===== -/
theorem up2_up2 {M : Mem} {o j : Nat} {a b : Int} : up2 (up2 M o j a) o j b = up2 M o j b := by
  funext o' j'
  unfold up2
  split <;> rfl
theorem up2_id {M : Mem} {o j : Nat} {a : Int} (h : M o j = a) : up2 M o j a = M := by
  funext o' j'
  unfold up2
  split
  · rename_i hq
    rw [hq.1, hq.2, h]
  · rfl
section MQ
variable {X : Scr} {M : Mem}
theorem figure_n {P L : Nat} {a b : Int} (hP : M 200 3 = (P : Int)) (hL : M 200 2 = (L : Int)) (hPL : P ≤ L) (h72 : L ≤ 72) (hB : ∀ q, q < 72 → 0 ≤ M 301 q ∧ M 301 q ≤ 255) : Call X mX9_figure [vr 200, vi a, vi b] M (fun r M1 => ((P < L ∧ a ≤ M 301 P - 48 ∧ M 301 P - 48 ≤ b) ∧ r = some (vi (M 301 P - 48)) ∧ M1 = up2 M 200 3 ((P + 1 : Nat) : Int)) ∨ (¬ (P < L ∧ a ≤ M 301 P - 48 ∧ M 301 P - 48 ≤ b) ∧ r = some (vi (-9)) ∧ M1 = M)) := by
  refine kX9_figure_0 (fun h => ?_) (fun h => ?_)
  · exact kX9_figure_34 (Or.inr ⟨by omega, rfl, rfl⟩)
  · have hb := hB P (by omega)
    have e : M 301 (M 200 3).toNat = M 301 P := by rw [hP, show ((P : Int)).toNat = P by omega]
    refine kX9_figure_11 (h3 := by rw [e]; omega) in_n (on ?_)
    rw [e]
    refine kX9_figure_31 (fun h2 => ?_) (fun h2 => ?_)
    · have h3 := b2i_d1.mp h2
      have e2 : (up2 M 200 3 (M 200 3 + 1)) 200 3 = ((P + 1 : Nat) : Int) := by rw [up2_eq, hP]; omega
      have e3 : (up2 M 200 3 (M 200 3 + 1)) 301 ((up2 M 200 3 (M 200 3 + 1)) 200 3 - 1).toNat = M 301 P := by
        rw [e2, up2_o (by decide), show (((P + 1 : Nat) : Int) - 1).toNat = P by omega]
      refine kX9_figure_37 (h2 := by rw [e2]; omega) (h3 := by rw [e2]; omega) (h4 := by rw [e2]; omega) (h5 := by rw [e3]; omega) (Or.inl ⟨⟨by omega, h3.1, h3.2⟩, ?_, ?_⟩)
      · rw [e3]
      · rw [hP, cast1]
    · have h3 := b2i_d0.mp h2
      exact kX9_figure_34 (Or.inr ⟨fun z => h3 z.2, rfl, rfl⟩)
theorem side_n {P L : Nat} (hP : M 200 3 = (P : Int)) (hL : M 200 2 = (L : Int)) (hPL : P ≤ L) (h72 : L ≤ 72) : Call X mX9_side [vr 200] M (fun r M1 => ((P < L ∧ (M 301 P = 76 ∨ M 301 P = 82)) ∧ r = some (vi (if M 301 P = 76 then 1 else 0)) ∧ M1 = up2 M 200 3 ((P + 1 : Nat) : Int)) ∨ (¬ (P < L ∧ (M 301 P = 76 ∨ M 301 P = 82)) ∧ r = some (vi (-9)) ∧ M1 = M)) := by
  have e : M 301 (M 200 3).toNat = M 301 P := by rw [hP, show ((P : Int)).toNat = P by omega]
  have e2 : (up2 M 200 3 (M 200 3 + 1)) 200 3 = ((P + 1 : Nat) : Int) := by rw [up2_eq, hP]; omega
  have e3 : (up2 M 200 3 (M 200 3 + 1)) 301 ((up2 M 200 3 (M 200 3 + 1)) 200 3 - 1).toNat = M 301 P := by
    rw [e2, up2_o (by decide), show (((P + 1 : Nat) : Int) - 1).toNat = P by omega]
  have e4 : up2 M 200 3 (M 200 3 + 1) = up2 M 200 3 ((P + 1 : Nat) : Int) := by rw [hP, cast1]
  have good : P < L → (M 301 P = 76 ∨ M 301 P = 82) → Runs X mX9_side 42 [(0, vr 200)] [] M (fun r M1 => ((P < L ∧ (M 301 P = 76 ∨ M 301 P = 82)) ∧ r = some (vi (if M 301 P = 76 then 1 else 0)) ∧ M1 = up2 M 200 3 ((P + 1 : Nat) : Int)) ∨ (¬ (P < L ∧ (M 301 P = 76 ∨ M 301 P = 82)) ∧ r = some (vi (-9)) ∧ M1 = M)) := by
    intro h1 h2
    refine kX9_side_42 (h2 := by rw [e2]; omega) (h3 := by rw [e2]; omega) (h4 := by rw [e2]; omega) (fun h3 => ?_) (fun h3 => ?_)
    · rw [e3] at h3
      refine kX9_side_72 (kX9_side_73 (Or.inl ⟨⟨h1, h2⟩, ?_, e4⟩))
      rw [if_neg h3]
    · rw [e3] at h3
      refine kX9_side_68 (kX9_side_73 (Or.inl ⟨⟨h1, h2⟩, ?_, e4⟩))
      rw [if_pos h3]
  refine kX9_side_0 (fun h => ?_) (fun h => ?_)
  · exact kX9_side_39 (Or.inr ⟨by omega, rfl, rfl⟩)
  · refine kX9_side_11 (fun h2 => ?_) (fun h2 => ?_)
    · rw [e] at h2
      exact good (by omega) (Or.inl h2)
    · rw [e] at h2
      refine kX9_side_25 (fun h3 => ?_) (fun h3 => ?_)
      · rw [e] at h3
        exact good (by omega) (Or.inr h3)
      · rw [e] at h3
        exact kX9_side_39 (Or.inr ⟨by omega, rfl, rfl⟩)
/-- the tooth that is read at the place q comes, the n-th -/
def mrtM (M : Mem) (n q : Nat) : Mem := up2 (up2 (up2 (up2 (up2 (up2 (up2 M 200 3 ((q + 5 : Nat) : Int)) 322 n (M 301 (q + 1) - 48)) 323 n (if M 301 (q + 2) = 76 then 1 else 0)) 324 n (M 301 (q + 3) - 48)) 325 n (M 301 (q + 4) - 48)) 326 n (if M 301 q = 66 then 1 else 0)) 200 20 ((n + 1 : Nat) : Int)
theorem mreadTooth_n {q L n : Nat} {k t g V : Int} (hn : n < 10) (hN : M 200 20 = (n : Int)) (hP : M 200 3 = ((q + 1 : Nat) : Int)) (hL : M 200 2 = (L : Int)) (hqL : q + 1 ≤ L) (h72 : L ≤ 72) (hB : ∀ q, q < 72 → 0 ≤ M 301 q ∧ M 301 q ≤ 255) (hk : isT k = true) (hf : k = M 301 q) (hV : autA (M 301) L (q + 1) k 1 t g = V) :
    Call X mX9_readTooth [vr 200, vi (if M 301 q = 66 then 1 else 0)] M (fun r M1 => (r = some (vi 0) ∧ ∃ P' : Nat, P' ≤ L ∧ M1 = up2 M 200 3 (P' : Int) ∧ V = P') ∨ (r = some (vi 1) ∧ tOK (M 301) q ∧ q + 5 ≤ L ∧ autA (M 301) L (q + 5) k 0 t g = V ∧ M1 = mrtM M n q)) := by
  obtain ⟨P, hPd⟩ : ∃ P : Option AV → Mem → Prop, P = fun r M1 => (r = some (vi 0) ∧ ∃ P' : Nat, P' ≤ L ∧ M1 = up2 M 200 3 (P' : Int) ∧ V = P') ∨ (r = some (vi 1) ∧ tOK (M 301) q ∧ q + 5 ≤ L ∧ autA (M 301) L (q + 5) k 0 t g = V ∧ M1 = mrtM M n q) := ⟨_, rfl⟩
  rw [← hPd]
  have bad : ∀ (M2 : Mem) (P' : Nat), P' ≤ L → M2 = up2 M 200 3 (P' : Int) → V = P' → Runs X mX9_readTooth 71 [] [] M2 P := by
    intro M2 P' h1 h2 h3
    refine kX9_readTooth_71 ?_
    rw [hPd]
    exact Or.inl ⟨rfl, P', h1, h2, h3⟩
  obtain ⟨fk, hfk⟩ : ∃ fk : Int, fk = if M 301 q = 66 then 1 else 0 := ⟨_, rfl⟩
  have hfk01 : 0 ≤ fk ∧ fk ≤ 1 := by rw [hfk]; split <;> decide
  rw [← hfk]
  -- what is so at each place
  have at_ : ∀ (M2 : Mem) (j : Nat), M2 = up2 M 200 3 ((q + j : Nat) : Int) → M2 200 3 = ((q + j : Nat) : Int) ∧ M2 200 2 = (L : Int) ∧ M2 301 = M 301 := by
    intro M2 j h
    subst h
    refine ⟨up2_eq, by rw [up2_j (by decide)]; exact hL, ?_⟩
    funext i
    rw [up2_o (by decide)]
  have hB2 : ∀ M2 : Mem, M2 301 = M 301 → ∀ i, i < 72 → 0 ≤ M2 301 i ∧ M2 301 i ≤ 255 := fun M2 h i hi => by rw [h]; exact hB i hi
  have s0 : M = up2 M 200 3 ((q + 1 : Nat) : Int) := (up2_id hP).symm
  refine kX9_readTooth_0 (figure_n hP hL hqL h72 hB) ?_
  rintro z M1 (⟨⟨a1, a2, a3⟩, hz, hM1⟩ | ⟨hno, hz, hM1⟩)
  · cases hz
    obtain ⟨p1, p2, p3⟩ := at_ M1 2 hM1
    rw [aut_step hqL (by decide), if_pos ⟨a1, (fol_T1 hk).mpr ⟨a2, a3⟩⟩, nst_T hk (by decide)] at hV
    refine kX9_readTooth_7 (fun h => ?_) (fun h => by omega)
    refine kX9_readTooth_19 (side_n p1 p2 (by omega) h72) ?_
    rw [p3]
    rintro z M2 (⟨⟨b1, b2⟩, hz, hM2⟩ | ⟨hno, hz, hM2⟩)
    · cases hz
      rw [hM1, up2_up2] at hM2
      obtain ⟨p4, p5, p6⟩ := at_ M2 3 hM2
      rw [aut_step (by omega) (by decide), if_pos ⟨b1, (fol_T2 hk).mpr b2⟩, nst_T hk (by decide)] at hV
      have hd : (if M 301 (q + 2) = 76 then (1 : Int) else 0) ≠ -9 := by split <;> decide
      refine kX9_readTooth_23 (fun h => ?_) (fun h => absurd h hd)
      refine kX9_readTooth_35 (figure_n p4 p5 (by omega) h72 (hB2 M2 p6)) ?_
      rw [p6]
      rintro z M3 (⟨⟨c1, c2, c3⟩, hz, hM3⟩ | ⟨hno, hz, hM3⟩)
      · cases hz
        rw [hM2, up2_up2] at hM3
        obtain ⟨p7, p8, p9⟩ := at_ M3 4 hM3
        rw [aut_step (by omega) (by decide), if_pos ⟨c1, (fol_T3 hk).mpr ⟨c2, c3⟩⟩, nst_T hk (by decide)] at hV
        refine kX9_readTooth_42 (fun h => ?_) (fun h => by omega)
        refine kX9_readTooth_56 (figure_n p7 p8 (by omega) h72 (hB2 M3 p9)) ?_
        rw [p9]
        rintro z M4 (⟨⟨d1, d2, d3⟩, hz, hM4⟩ | ⟨hno, hz, hM4⟩)
        · cases hz
          rw [hM3, up2_up2] at hM4
          rw [aut_step (by omega) (by decide), if_pos ⟨d1, (fol_T4 hk).mpr ⟨d2, d3⟩⟩, show (1 : Int) + 1 + 1 + 1 = 4 from rfl, nst_T4 hk] at hV
          have m20 : M4 200 20 = (n : Int) := by rw [hM4, up2_j (by decide)]; exact hN
          have hn0 : (M4 200 20).toNat = n := by omega
          refine kX9_readTooth_62 (fun h => ?_) (fun h => by omega)
          have fin : ∀ l : Int, l = (if M 301 (q + 2) = 76 then 1 else 0) → Runs X mX9_readTooth 101 [(0, vr 200), (1, vi fk), (4, vi (M 301 (q + 3) - 48)), (5, vi (M 301 (q + 4) - 48))] [vi l, vi (n : Int), vr 323] (up2 M4 322 n (M 301 (q + 1) - 48)) P := by
            intro l hl
            have hl01 : 0 ≤ l ∧ l ≤ 1 := by rw [hl]; split <;> decide
            have e1 : (up2 (up2 M4 322 n (M 301 (q + 1) - 48)) 323 ((n : Int)).toNat l) 200 20 = (n : Int) := by rw [up2_o (by decide), up2_o (by decide), m20]
            have e2 : ∀ z, (up2 (up2 (up2 M4 322 n (M 301 (q + 1) - 48)) 323 ((n : Int)).toNat l) 324 ((n : Int)).toNat z) 200 20 = (n : Int) := fun z => by rw [up2_o (by decide), e1]
            have e3 : ∀ z y, (up2 (up2 (up2 (up2 M4 322 n (M 301 (q + 1) - 48)) 323 ((n : Int)).toNat l) 324 ((n : Int)).toNat z) 325 ((n : Int)).toNat y) 200 20 = (n : Int) := fun z y => by rw [up2_o (by decide), e2]
            have e4 : ∀ z y v, (up2 (up2 (up2 (up2 (up2 M4 322 n (M 301 (q + 1) - 48)) 323 ((n : Int)).toNat l) 324 ((n : Int)).toNat z) 325 ((n : Int)).toNat y) 326 ((n : Int)).toNat v) 200 20 = (n : Int) := fun z y v => by rw [up2_o (by decide), e3]
            refine kX9_readTooth_101 (h4 := by rw [e1]; omega) (h5 := by rw [e1]; omega) (h6 := by rw [e1, e2]; omega) (h7 := by rw [e1, e2]; omega) (h8 := by rw [e1, e2, e3]; omega) (h9 := by rw [e1, e2, e3]; omega) (h11 := by rw [e1, e2, e3, e4]; omega) ?_
            rw [hPd]
            refine Or.inr ⟨rfl, ⟨⟨a2, a3⟩, b2, ⟨c2, c3⟩, d2, d3⟩, by omega, hV, ?_⟩
            rw [e1, e2, e3, e4, show ((n : Int)).toNat = n by omega, hM4, hl, hfk, cast1]
            rfl
          refine kX9_readTooth_73 (fun h5 => ?_) (fun h5 => ?_)
          · rw [hn0, up2_o (by decide), m20]
            refine kX9_readTooth_100 (fin 0 ?_)
            split at h5
            · exact absurd rfl h5
            · rename_i hq; rw [if_neg hq]
          · rw [hn0, up2_o (by decide), m20]
            refine kX9_readTooth_96 (fin 1 ?_)
            split at h5
            · rename_i hq; rw [if_pos hq]
            · exact absurd h5 (by decide)
        · cases hz
          rw [aut_step (by omega) (by decide), if_neg (fun z => hno ⟨z.1, (fol_T4 hk).mp z.2⟩)] at hV
          refine kX9_readTooth_62 (fun h => absurd rfl h) (fun h => ?_)
          exact bad M4 (q + 4) (by omega) (by rw [hM4, hM3]) hV.symm
      · cases hz
        rw [aut_step (by omega) (by decide), if_neg (fun z => hno ⟨z.1, (fol_T3 hk).mp z.2⟩)] at hV
        refine kX9_readTooth_42 (fun h => absurd rfl h) (fun h => kX9_readTooth_51 (kX9_readTooth_62 (fun h => absurd rfl h) (fun h => ?_)))
        exact bad M3 (q + 3) (by omega) (by rw [hM3, hM2]) hV.symm
    · cases hz
      rw [aut_step (by omega) (by decide), if_neg (fun z => hno ⟨z.1, (fol_T2 hk).mp z.2⟩)] at hV
      refine kX9_readTooth_23 (fun h => absurd rfl h) (fun h => kX9_readTooth_30 (kX9_readTooth_42 (fun h => absurd rfl h) (fun h => kX9_readTooth_51 (kX9_readTooth_62 (fun h => absurd rfl h) (fun h => ?_)))))
      exact bad M2 (q + 2) (by omega) (by rw [hM2, hM1]) hV.symm
  · cases hz
    rw [aut_step hqL (by decide), if_neg (fun z => hno ⟨z.1, (fol_T1 hk).mp z.2⟩)] at hV
    refine kX9_readTooth_7 (fun h => absurd rfl h) (fun h => kX9_readTooth_14 (kX9_readTooth_23 (fun h => absurd rfl h) (fun h => kX9_readTooth_30 (kX9_readTooth_42 (fun h => absurd rfl h) (fun h => kX9_readTooth_51 (kX9_readTooth_62 (fun h => absurd rfl h) (fun h => ?_)))))))
    exact bad M1 (q + 1) (by omega) (by rw [hM1]; exact s0) hV.symm
def mrgM (M : Mem) (n q : Nat) : Mem := up2 (up2 (up2 (up2 M 200 3 ((q + 4 : Nat) : Int)) 327 n (10 * (M 301 (q + 1) - 48) + (M 301 (q + 2) - 48))) 328 n (M 301 (q + 3) - 48)) 200 21 ((n + 1 : Nat) : Int)
theorem mreadGood_n {q L n : Nat} {t g V : Int} (hn : n < 4) (hN : M 200 21 = (n : Int)) (hP : M 200 3 = ((q + 1 : Nat) : Int)) (hL : M 200 2 = (L : Int)) (hqL : q + 1 ≤ L) (h72 : L ≤ 72) (hB : ∀ q, q < 72 → 0 ≤ M 301 q ∧ M 301 q ≤ 255) (hV : autA (M 301) L (q + 1) 71 1 t g = V) :
    Call X mX9_readGood [vr 200] M (fun r M1 => (r = some (vi 0) ∧ ∃ P' : Nat, P' ≤ L ∧ M1 = up2 M 200 3 (P' : Int) ∧ V = P') ∨ (r = some (vi 1) ∧ gOK (M 301) q ∧ q + 4 ≤ L ∧ autA (M 301) L (q + 4) 71 0 t g = V ∧ M1 = mrgM M n q)) := by
  obtain ⟨P, hPd⟩ : ∃ P : Option AV → Mem → Prop, P = fun r M1 => (r = some (vi 0) ∧ ∃ P' : Nat, P' ≤ L ∧ M1 = up2 M 200 3 (P' : Int) ∧ V = P') ∨ (r = some (vi 1) ∧ gOK (M 301) q ∧ q + 4 ≤ L ∧ autA (M 301) L (q + 4) 71 0 t g = V ∧ M1 = mrgM M n q) := ⟨_, rfl⟩
  rw [← hPd]
  have bad : ∀ (M2 : Mem) (P' : Nat), P' ≤ L → M2 = up2 M 200 3 (P' : Int) → V = P' → Runs X mX9_readGood 60 [] [] M2 P := by
    intro M2 P' h1 h2 h3
    refine kX9_readGood_60 ?_
    rw [hPd]
    exact Or.inl ⟨rfl, P', h1, h2, h3⟩
  have at_ : ∀ (M2 : Mem) (j : Nat), M2 = up2 M 200 3 ((q + j : Nat) : Int) → M2 200 3 = ((q + j : Nat) : Int) ∧ M2 200 2 = (L : Int) ∧ M2 301 = M 301 := by
    intro M2 j h
    subst h
    refine ⟨up2_eq, by rw [up2_j (by decide)]; exact hL, ?_⟩
    funext i
    rw [up2_o (by decide)]
  have hB2 : ∀ M2 : Mem, M2 301 = M 301 → ∀ i, i < 72 → 0 ≤ M2 301 i ∧ M2 301 i ≤ 255 := fun M2 h i hi => by rw [h]; exact hB i hi
  have s0 : M = up2 M 200 3 ((q + 1 : Nat) : Int) := (up2_id hP).symm
  refine kX9_readGood_0 (figure_n hP hL hqL h72 hB) ?_
  rintro z M1 (⟨⟨a1, a2, a3⟩, hz, hM1⟩ | ⟨hno, hz, hM1⟩)
  · cases hz
    obtain ⟨p1, p2, p3⟩ := at_ M1 2 hM1
    rw [aut_step hqL (by decide), if_pos ⟨a1, fol_G1.mpr ⟨a2, a3⟩⟩, nst_G (by decide)] at hV
    refine kX9_readGood_7 (fun h => ?_) (fun h => by omega)
    have mid : ∀ lo : Int, lo = (if M 301 (q + 1) = 48 then 1 else 0) → Runs X mX9_readGood 29 [(0, vr 200), (1, vi (M 301 (q + 1) - 48))] [vi lo, vr 200] M1 P := by
      intro lo hlo
      have hG2 : fol (M 301) 71 2 (q + 2) = true ↔ lo ≤ M 301 (q + 2) - 48 ∧ M 301 (q + 2) - 48 ≤ 9 := by rw [hlo]; exact fol_G2
      have hlo0 : 0 ≤ lo := by rw [hlo]; split <;> decide
      refine kX9_readGood_29 (figure_n p1 p2 (by omega) h72 (hB2 M1 p3)) ?_
      rw [p3]
      rintro z M3 (⟨⟨c1, c2, c3⟩, hz, hM3⟩ | ⟨hno, hz, hM3⟩)
      · cases hz
        rw [hM1, up2_up2] at hM3
        obtain ⟨p7, p8, p9⟩ := at_ M3 3 hM3
        rw [aut_step (by omega) (by decide), if_pos ⟨c1, hG2.mpr ⟨c2, c3⟩⟩, nst_G (by decide)] at hV
        refine kX9_readGood_34 (fun h => ?_) (fun h => by omega)
        refine kX9_readGood_46 (figure_n p7 p8 (by omega) h72 (hB2 M3 p9)) ?_
        rw [p9]
        rintro z M4 (⟨⟨d1, d2, d3⟩, hz, hM4⟩ | ⟨hno, hz, hM4⟩)
        · cases hz
          rw [hM3, up2_up2] at hM4
          rw [aut_step (by omega) (by decide), if_pos ⟨d1, fol_G3.mpr ⟨d2, d3⟩⟩, show (1 : Int) + 1 + 1 = 3 from rfl, nst_G3] at hV
          have m21 : M4 200 21 = (n : Int) := by rw [hM4, up2_j (by decide)]; exact hN
          have hn0 : (M4 200 21).toNat = n := by omega
          have e1 : ∀ y, (up2 M4 327 n y) 200 21 = (n : Int) := fun y => by rw [up2_o (by decide), m21]
          have e2 : ∀ y z, (up2 (up2 M4 327 n y) 328 n z) 200 21 = (n : Int) := fun y z => by rw [up2_o (by decide), e1]
          refine kX9_readGood_53 (fun h => ?_) (fun h => by omega)
          have hn1 : ((n : Int)).toNat = n := by omega
          refine kX9_readGood_62 (h5 := by rw [hn0, e1]; omega) (h6 := by rw [hn0, e1]; omega) (h7 := by rw [hn0, e1, hn1, e2]; omega) ?_
          rw [hn0, e1, hn1, e2, hPd]
          refine Or.inr ⟨rfl, ⟨⟨a2, a3⟩, ⟨by rw [← hlo]; exact c2, c3⟩, d2, d3⟩, by omega, hV, ?_⟩
          rw [hM4, cast1]
          rfl
        · cases hz
          rw [aut_step (by omega) (by decide), if_neg (fun z => hno ⟨z.1, fol_G3.mp z.2⟩)] at hV
          refine kX9_readGood_53 (fun h => absurd rfl h) (fun h => ?_)
          exact bad M4 (q + 3) (by omega) (by rw [hM4, hM3]) hV.symm
      · cases hz
        rw [aut_step (by omega) (by decide), if_neg (fun z => hno ⟨z.1, hG2.mp z.2⟩)] at hV
        refine kX9_readGood_34 (fun h => absurd rfl h) (fun h => kX9_readGood_41 (kX9_readGood_53 (fun h => absurd rfl h) (fun h => ?_)))
        exact bad M3 (q + 2) (by omega) (by rw [hM3, hM1]) hV.symm
    refine kX9_readGood_19 (fun h4 => ?_) (fun h4 => ?_)
    · exact kX9_readGood_28 (mid 0 (by rw [if_neg (by omega)]))
    · exact kX9_readGood_24 (mid 1 (by rw [if_pos (by omega)]))
  · cases hz
    rw [aut_step hqL (by decide), if_neg (fun z => hno ⟨z.1, fol_G1.mp z.2⟩)] at hV
    refine kX9_readGood_7 (fun h => absurd rfl h) (fun h => kX9_readGood_14 (kX9_readGood_34 (fun h => absurd rfl h) (fun h => kX9_readGood_41 (kX9_readGood_53 (fun h => absurd rfl h) (fun h => ?_)))))
    exact bad M1 (q + 1) (by omega) (by rw [hM1]; exact s0) hV.symm
theorem mrtM_3 {n q : Nat} {z : Int} : mrtM (up2 M 200 3 z) n q = mrtM M n q := by
  unfold mrtM
  rw [up2_up2, up2_o (by decide), up2_o (by decide), up2_o (by decide), up2_o (by decide), up2_o (by decide)]
theorem mrgM_3 {n q : Nat} {z : Int} : mrgM (up2 M 200 3 z) n q = mrgM M n q := by
  unfold mrgM
  rw [up2_up2, up2_o (by decide), up2_o (by decide), up2_o (by decide)]
theorem mreadPart_n {q L T G : Nat} {kind V : Int} (hT : T ≤ 10) (hG : G ≤ 4) (hMT : M 200 20 = (T : Int)) (hMG : M 200 21 = (G : Int)) (hP : M 200 3 = (q : Int)) (hL : M 200 2 = (L : Int)) (h1 : 1 ≤ q) (hqL : q < L) (h72 : L ≤ 72) (hB : ∀ q, q < 72 → 0 ≤ M 301 q ∧ M 301 q ≤ 255) (hV : autA (M 301) L q kind 0 T G = V) :
    Call X mX9_readPart [vr 200] M (fun r M1 => (r = some (vi 0) ∧ ∃ P' : Nat, P' ≤ L ∧ M1 = up2 M 200 3 (P' : Int) ∧ V = P') ∨ (r = some (vi 1) ∧ isT (M 301 q) = true ∧ T < 10 ∧ tOK (M 301) q ∧ q + 5 ≤ L ∧ autA (M 301) L (q + 5) (M 301 q) 0 ((T + 1 : Nat) : Int) G = V ∧ M1 = mrtM M T q) ∨ (r = some (vi 1) ∧ M 301 q = 71 ∧ G < 4 ∧ gOK (M 301) q ∧ q + 4 ≤ L ∧ autA (M 301) L (q + 4) 71 0 T ((G + 1 : Nat) : Int) = V ∧ M1 = mrgM M G q)) := by
  obtain ⟨P, hPd⟩ : ∃ P : Option AV → Mem → Prop, P = fun r M1 => (r = some (vi 0) ∧ ∃ P' : Nat, P' ≤ L ∧ M1 = up2 M 200 3 (P' : Int) ∧ V = P') ∨ (r = some (vi 1) ∧ isT (M 301 q) = true ∧ T < 10 ∧ tOK (M 301) q ∧ q + 5 ≤ L ∧ autA (M 301) L (q + 5) (M 301 q) 0 ((T + 1 : Nat) : Int) G = V ∧ M1 = mrtM M T q) ∨ (r = some (vi 1) ∧ M 301 q = 71 ∧ G < 4 ∧ gOK (M 301) q ∧ q + 4 ≤ L ∧ autA (M 301) L (q + 4) 71 0 T ((G + 1 : Nat) : Int) = V ∧ M1 = mrgM M G q) := ⟨_, rfl⟩
  rw [← hPd]
  have e : M 301 (M 200 3).toNat = M 301 q := by rw [hP, show ((q : Int)).toNat = q by omega]
  rw [aut_beg hqL h1] at hV
  have hbg : begins (M 301 q) T G = true ↔ (isT (M 301 q) = true ∧ T < 10) ∨ (M 301 q = 71 ∧ G < 4) := by
    unfold begins
    simp only [Bool.or_eq_true, Bool.and_eq_true, decide_eq_true_eq]
    constructor
    · rintro (⟨a, b⟩ | ⟨a, b⟩)
      · exact Or.inl ⟨a, by omega⟩
      · exact Or.inr ⟨a, by omega⟩
    · rintro (⟨a, b⟩ | ⟨a, b⟩)
      · exact Or.inl ⟨a, by omega⟩
      · exact Or.inr ⟨a, by omega⟩
  -- no part
  have no : ¬ ((isT (M 301 q) = true ∧ T < 10) ∨ (M 301 q = 71 ∧ G < 4)) → Runs X mX9_readPart 65 [] [] M P := by
    intro h
    rw [if_neg (fun z => h (hbg.mp z))] at hV
    refine kX9_readPart_65 ?_
    rw [hPd]
    exact Or.inl ⟨rfl, q, by omega, (up2_id hP).symm, hV.symm⟩
  obtain ⟨M2, hM2⟩ : ∃ M2, M2 = up2 M 200 3 ((q + 1 : Nat) : Int) := ⟨_, rfl⟩
  have p1 : M2 200 3 = ((q + 1 : Nat) : Int) := by rw [hM2, up2_eq]
  have p2 : M2 200 2 = (L : Int) := by rw [hM2, up2_j (by decide)]; exact hL
  have p3 : M2 301 = M 301 := by funext i; rw [hM2, up2_o (by decide)]
  have p4 : M2 200 20 = (T : Int) := by rw [hM2, up2_j (by decide)]; exact hMT
  have p5 : M2 200 21 = (G : Int) := by rw [hM2, up2_j (by decide)]; exact hMG
  have e3 : up2 M 200 3 (M 200 3 + 1) = M2 := by rw [hM2, hP, cast1]
  -- a tooth
  have tooth : isT (M 301 q) = true → T < 10 → Runs X mX9_readPart 67 [(0, vr 200), (1, vi (M 301 q)), (2, vi 1)] [] M P := by
    intro hk ht
    have h71 : M 301 q ≠ 71 := fun z => by rw [z] at hk; exact T71 hk
    rw [if_pos (hbg.mpr (Or.inl ⟨hk, ht⟩)), b2i_t hk, b2i_f (by simp [h71]), nst_T hk (by decide)] at hV
    have main : ∀ fk : Int, fk = (if M 301 q = 66 then 1 else 0) → Runs X mX9_readPart 93 [] [vi fk, vr 200] M2 P := by
      intro fk hfk
      refine kX9_readPart_93 (Q := fun r M1 => (r = some (vi 0) ∧ ∃ P' : Nat, P' ≤ L ∧ M1 = up2 M2 200 3 (P' : Int) ∧ V = P') ∨ (r = some (vi 1) ∧ tOK (M2 301) q ∧ q + 5 ≤ L ∧ autA (M2 301) L (q + 5) (M 301 q) 0 ((T + 1 : Nat) : Int) G = V ∧ M1 = mrtM M2 T q)) ?_ ?_
      · rw [hfk, ← p3]
        refine mreadTooth_n ht p4 p1 p2 (by omega) h72 (by rw [p3]; exact hB) (by rw [p3]; exact hk) rfl ?_
        rw [p3, ← hV, show ((T + 1 : Nat) : Int) = (T : Int) + 1 by omega, show (G : Int) + 0 = G by omega]
        rfl
      · rintro z M3 (⟨hz, P', g1, g2, g3⟩ | ⟨hz, g1, g2, g3, g4⟩)
        · cases hz
          refine kX9_readPart_96 (kX9_readPart_103 ?_)
          rw [hPd]
          exact Or.inl ⟨rfl, P', g1, by rw [g2, hM2, up2_up2], g3⟩
        · cases hz
          refine kX9_readPart_96 (kX9_readPart_103 ?_)
          rw [hPd]
          rw [p3] at g1 g3
          exact Or.inr (Or.inl ⟨rfl, hk, ht, g1, g2, g3, by rw [g4, hM2, mrtM_3]⟩)
    refine kX9_readPart_67 (fun h2 => absurd h2 (by decide)) (fun h2 => ?_)
    rw [e3]
    refine kX9_readPart_81 (fun h3 => ?_) (fun h3 => ?_)
    · exact kX9_readPart_92 (main 0 (by rw [if_neg h3]))
    · exact kX9_readPart_88 (main 1 (by rw [if_pos h3]))
  -- a good
  have good : M 301 q = 71 → G < 4 → Runs X mX9_readPart 67 [(0, vr 200), (1, vi (M 301 q)), (2, vi 0)] [] M P := by
    intro hk hg
    rw [if_pos (hbg.mpr (Or.inr ⟨hk, hg⟩)), hk, b2i_f (by decide), b2i_t (by decide), nst_G (by decide)] at hV
    refine kX9_readPart_67 (fun h2 => ?_) (fun h2 => absurd rfl h2)
    rw [e3]
    refine kX9_readPart_99 (Q := fun r M1 => (r = some (vi 0) ∧ ∃ P' : Nat, P' ≤ L ∧ M1 = up2 M2 200 3 (P' : Int) ∧ V = P') ∨ (r = some (vi 1) ∧ gOK (M2 301) q ∧ q + 4 ≤ L ∧ autA (M2 301) L (q + 4) 71 0 T ((G + 1 : Nat) : Int) = V ∧ M1 = mrgM M2 G q)) ?_ ?_
    · refine mreadGood_n hg p5 p1 p2 (by omega) h72 (by rw [p3]; exact hB) ?_
      rw [p3, ← hV, show ((G + 1 : Nat) : Int) = (G : Int) + 1 by omega, show (T : Int) + 0 = T by omega]
      rfl
    · rintro z M3 (⟨hz, P', g1, g2, g3⟩ | ⟨hz, g1, g2, g3, g4⟩)
      · cases hz
        refine kX9_readPart_103 ?_
        rw [hPd]
        exact Or.inl ⟨rfl, P', g1, by rw [g2, hM2, up2_up2], g3⟩
      · cases hz
        refine kX9_readPart_103 ?_
        rw [hPd]
        rw [p3] at g1 g3
        exact Or.inr (Or.inr ⟨rfl, hk, hg, g1, g2, g3, by rw [g4, hM2, mrgM_3]⟩)
  -- which it is
  have r36t : isT (M 301 q) = true → T < 10 → Runs X mX9_readPart 36 [(0, vr 200), (1, vi (M 301 q))] [vi 1] M P := by
    intro hk ht
    have h71 : M 301 q ≠ 71 := fun z => by rw [z] at hk; exact T71 hk
    refine kX9_readPart_36 (fun _ => kX9_readPart_55 (kX9_readPart_56 (fun _ => tooth hk ht) (fun h => absurd h (by decide)))) (fun h => absurd h h71)
  have r36n : ¬ (isT (M 301 q) = true ∧ T < 10) → Runs X mX9_readPart 36 [(0, vr 200), (1, vi (M 301 q))] [vi 0] M P := by
    intro hn
    refine kX9_readPart_36 (fun h => ?_) (fun h => ?_)
    · exact kX9_readPart_55 (kX9_readPart_56 (fun h2 => absurd rfl h2) (fun _ => kX9_readPart_61 (fun h2 => absurd rfl h2) (fun _ => no (fun z => z.elim hn (fun y => h y.1)))))
    · refine kX9_readPart_43 (fun h2 => ?_) (fun h2 => ?_)
      · exact kX9_readPart_55 (kX9_readPart_56 (fun h2 => absurd rfl h2) (fun _ => kX9_readPart_61 (fun h2 => absurd rfl h2) (fun _ => no (fun z => z.elim hn (fun y => by omega)))))
      · exact kX9_readPart_51 (kX9_readPart_56 (fun h3 => absurd rfl h3) (fun _ => kX9_readPart_61 (fun _ => good h (by omega)) (fun h3 => absurd h3 (by decide))))
  have r22 : isT (M 301 q) = true → Runs X mX9_readPart 22 [(0, vr 200), (1, vi (M 301 q))] [] M P := by
    intro hk
    refine kX9_readPart_22 (fun h => ?_) (fun h => ?_)
    · exact kX9_readPart_35 (r36n (fun z => by omega))
    · exact kX9_readPart_31 (r36t hk (by omega))
  refine kX9_readPart_0 (fun h => ?_) (fun h => ?_)
  · rw [e] at h ⊢
    exact r22 (isT_iff.mpr (Or.inl h))
  · rw [e] at h ⊢
    refine kX9_readPart_16 (fun h2 => ?_) (fun h2 => r22 (isT_iff.mpr (Or.inr h2)))
    exact kX9_readPart_35 (r36n (fun z => by have := isT_iff.mp z.1; omega))
-- ===== the whole text
def keepRd (M M1 : Mem) : Prop := ∀ o j, (o < 322 ∨ 328 < o) → (o ≠ 200 ∨ (j ≠ 3 ∧ j ≠ 18 ∧ j ≠ 19 ∧ j ≠ 20 ∧ j ≠ 21)) → M1 o j = M o j
def RI (M0 M2 : Mem) (m : Nat) : Prop := M2 200 20 = (tcn (M0 301) m : Nat) ∧ tcn (M0 301) m ≤ 10 ∧ M2 200 21 = (gcn (M0 301) m : Nat) ∧ gcn (M0 301) m ≤ 4 ∧ (M2 200 18 = M0 301 1 - 48 ∧ 0 ≤ M0 301 1 - 48 ∧ M0 301 1 - 48 ≤ 9) ∧ (M2 200 19 = M0 301 2 - 48 ∧ 1 ≤ M0 301 2 - 48 ∧ M0 301 2 - 48 ≤ 9) ∧ RdT (M0 301) m (M2 322) (M2 323) (M2 324) (M2 325) (M2 326) ∧ RdG (M0 301) m (M2 327) (M2 328) ∧ pOK (M0 301) m
theorem keepRd_3 {M M1 : Mem} {z : Int} (h : keepRd M M1) : keepRd M (up2 M1 200 3 z) := by
  intro o j h1 h2
  by_cases ho : o = 200
  · subst ho
    rw [up2_j (h2.resolve_left (fun z => z rfl)).1]; exact h 200 j h1 h2
  · rw [up2_o ho]; exact h o j h1 h2
theorem keepRd_t {M M1 : Mem} {n q : Nat} (h : keepRd M M1) : keepRd M (mrtM M1 n q) := by
  intro o j h1 h2
  have h3 := h o j h1 h2
  unfold mrtM
  by_cases ho : o = 200
  · subst ho
    obtain ⟨a1, a2, a3, a4, a5⟩ := h2.resolve_left (fun z => z rfl)
    rw [up2_j a4, up2_o (by decide), up2_o (by decide), up2_o (by decide), up2_o (by decide), up2_o (by decide), up2_j a1]; exact h3
  · rw [up2_o ho, up2_o (by omega), up2_o (by omega), up2_o (by omega), up2_o (by omega), up2_o (by omega), up2_o ho]; exact h3
theorem keepRd_g {M M1 : Mem} {n q : Nat} (h : keepRd M M1) : keepRd M (mrgM M1 n q) := by
  intro o j h1 h2
  have h3 := h o j h1 h2
  unfold mrgM
  by_cases ho : o = 200
  · subst ho
    obtain ⟨a1, a2, a3, a4, a5⟩ := h2.resolve_left (fun z => z rfl)
    rw [up2_j a5, up2_o (by decide), up2_o (by decide), up2_j a1]; exact h3
  · rw [up2_o ho, up2_o (by omega), up2_o (by omega), up2_o ho]; exact h3
theorem keepRd_301 {M M1 : Mem} (h : keepRd M M1) : M1 301 = M 301 := funext (fun j => h 301 j (Or.inl (by decide)) (Or.inl (by decide)))
/-- where it is no market -/
def fltV (M : Mem) (L : Nat) : Int := autF (M 301) L L 0 0 0 0 0
theorem mreadMarket_n {L : Nat} (hL : M 200 2 = (L : Int)) (h72 : L ≤ 72) (hB : ∀ q, q < 72 → 0 ≤ M 301 q ∧ M 301 q ≤ 255) :
    Call X mX9_readMarket [vr 200] M (fun r M1 => r = some (vi (fltV M L)) ∧ keepRd M M1 ∧ (fltV M L = -9 → ∃ m, pos (M 301) m = L ∧ RI M M1 m)) := by
  obtain ⟨V, hV⟩ : ∃ V, V = fltV M L := ⟨_, rfl⟩
  rw [← hV]
  obtain ⟨P, hPd⟩ : ∃ P : Option AV → Mem → Prop, P = fun r M1 => r = some (vi V) ∧ keepRd M M1 ∧ (V = -9 → ∃ m, pos (M 301) m = L ∧ RI M M1 m) := ⟨_, rfl⟩
  rw [← hPd]
  obtain ⟨M2, hM2⟩ : ∃ M2, M2 = up2 (up2 (up2 M 200 3 0) 200 20 0) 200 21 0 := ⟨_, rfl⟩
  have k2 : keepRd M M2 := by
    intro o j h1 h2
    rw [hM2]
    by_cases ho : o = 200
    · subst ho
      obtain ⟨a1, a2, a3, a4, a5⟩ := h2.resolve_left (fun z => z rfl)
      rw [up2_j a5, up2_j a4, up2_j a1]
    · rw [up2_o ho, up2_o ho, up2_o ho]
  have c2 : M2 200 2 = (L : Int) := (k2 200 2 (Or.inl (by decide)) (Or.inr (by decide))).trans hL
  have b2 : M2 301 = M 301 := keepRd_301 k2
  have bad : V = 0 → Runs X mX9_readMarket 33 [] [] M2 P := by
    intro h
    refine kX9_readMarket_33 ?_
    rw [hPd]
    exact ⟨by rw [h], k2, fun h2 => by omega⟩
  refine kX9_readMarket_0 (fun h => ?_) (fun h => ?_)
  · rw [← hM2] at h ⊢
    have hL0 : L = 0 := by omega
    refine bad ?_
    rw [hV]
    unfold fltV
    rw [hL0]
    rfl
  · rw [← hM2] at h ⊢
    have hL1 : 1 ≤ L := by omega
    have hV0 : V = if M 301 0 = 76 then autA (M 301) L 1 76 1 0 0 else 0 := by
      rw [hV]
      unfold fltV autA
      obtain ⟨f, rfl⟩ : ∃ f, L = f + 1 := ⟨L - 1, by omega⟩
      have hb : bgn (M 301) 0 0 0 = decide (M 301 0 = 76) := rfl
      by_cases h76 : M 301 0 = 76
      · rw [if_pos h76, autF_b (by decide) (by rw [hb]; simp [h76]), h76]
        rfl
      · rw [if_neg h76, autF_bn (by decide) (by rw [hb]; simp [h76])]
        rfl
    have z0 : ((0 : Int)).toNat = 0 := rfl
    refine kX9_readMarket_22 (fun h2 => ?_) (fun h2 => ?_)
    · rw [z0, b2] at h2
      rw [if_pos h2, aut_step (by omega) (by decide)] at hV0
      -- the loss
      have k3 : keepRd M (up2 M2 200 3 1) := keepRd_3 k2
      refine kX9_readMarket_35 (figure_n (P := 1) (L := L) up2_eq (by rw [up2_j (by decide)]; exact c2) hL1 h72 (by rw [keepRd_301 k3]; exact hB)) ?_
      rw [keepRd_301 k3]
      rintro z M3 (⟨⟨a1, a2, a3⟩, hz, hM3⟩ | ⟨hno, hz, hM3⟩)
      · cases hz
        rw [up2_up2] at hM3
        rw [if_pos ⟨a1, fol_L1.mpr ⟨a2, a3⟩⟩, show nst 76 1 = 2 from rfl, aut_step (by omega) (by decide)] at hV0
        obtain ⟨M4, hM4⟩ : ∃ M4, M4 = up2 M3 200 18 (M 301 1 - 48) := ⟨_, rfl⟩
        have k4 : keepRd M M4 := by
          intro o j h1 h2
          have h3 := keepRd_3 (z := ((1 + 1 : Nat) : Int)) k2 o j h1 h2
          rw [← hM3] at h3
          rw [hM4]
          by_cases ho : o = 200
          · subst ho
            rw [up2_j (h2.resolve_left (fun z => z rfl)).2.1]; exact h3
          · rw [up2_o ho]; exact h3
        have q3 : M4 200 3 = ((2 : Nat) : Int) := by rw [hM4, up2_j (by decide), hM3, up2_eq]
        have q18 : M4 200 18 = M 301 1 - 48 := by rw [hM4, up2_eq]
        have q20 : M4 200 20 = 0 := by rw [hM4, up2_j (by decide), hM3, up2_j (by decide), hM2, up2_j (by decide), up2_eq]
        have q21 : M4 200 21 = 0 := by rw [hM4, up2_j (by decide), hM3, up2_j (by decide), hM2, up2_eq]
        have q2 : M4 200 2 = (L : Int) := (k4 200 2 (Or.inl (by decide)) (Or.inr (by decide))).trans hL
        refine kX9_readMarket_48 (fun h3 => ?_) (fun h3 => ?_)
        · rw [← hM4]
          refine kX9_readMarket_66 (figure_n q3 q2 (by omega) h72 (by rw [keepRd_301 k4]; exact hB)) ?_
          rw [keepRd_301 k4]
          rintro z M5 (⟨⟨d1, d2, d3⟩, hz, hM5⟩ | ⟨hno, hz, hM5⟩)
          · cases hz
            rw [if_pos ⟨d1, fol_L2.mpr ⟨d2, d3⟩⟩, show nst 76 2 = 0 from rfl] at hV0
            obtain ⟨M6, hM6⟩ : ∃ M6, M6 = up2 M5 200 19 (M 301 2 - 48) := ⟨_, rfl⟩
            have k6 : keepRd M M6 := by
              intro o j h1 h2
              have h3 := keepRd_3 (z := ((2 + 1 : Nat) : Int)) k4 o j h1 h2
              rw [← hM5] at h3
              rw [hM6]
              by_cases ho : o = 200
              · subst ho
                rw [up2_j (h2.resolve_left (fun z => z rfl)).2.2.1]; exact h3
              · rw [up2_o ho]; exact h3
            have r3 : M6 200 3 = ((3 : Nat) : Int) := by rw [hM6, up2_j (by decide), hM5, up2_eq]
            have r18 : M6 200 18 = M 301 1 - 48 := by rw [hM6, up2_j (by decide), hM5, up2_j (by decide), q18]
            have r19 : M6 200 19 = M 301 2 - 48 := by rw [hM6, up2_eq]
            have r20 : M6 200 20 = 0 := by rw [hM6, up2_j (by decide), hM5, up2_j (by decide), q20]
            have r21 : M6 200 21 = 0 := by rw [hM6, up2_j (by decide), hM5, up2_j (by decide), q21]
            -- the parts
            have loop : ∀ (d m : Nat) (M7 : Mem), L - pos (M 301) m ≤ d → pos (M 301) m ≤ L → keepRd M M7 → M7 200 3 = (pos (M 301) m : Nat) → RI M M7 m → (∃ k, autA (M 301) L (pos (M 301) m) k 0 (tcn (M 301) m : Nat) (gcn (M 301) m : Nat) = V) → Runs X mX9_readMarket 90 [(0, vr 200)] [] M7 P := by
              intro d
              induction d with
              | zero =>
                intro m M7 hd hp k7 t3 hI hA
                have hpe : pos (M 301) m = L := by omega
                have t2 : M7 200 2 = (L : Int) := (k7 200 2 (Or.inl (by decide)) (Or.inr (by decide))).trans hL
                obtain ⟨k, hk⟩ := hA
                rw [hpe, aut_end hL1] at hk
                refine kX9_readMarket_90 (fun h5 => ?_) (fun h5 => by omega)
                refine kX9_readMarket_113 ?_
                rw [hPd]
                exact ⟨by rw [hk], k7, fun _ => ⟨m, hpe, hI⟩⟩
              | succ d ih =>
                intro m M7 hd hp k7 t3 hI hA
                have t2 : M7 200 2 = (L : Int) := (k7 200 2 (Or.inl (by decide)) (Or.inr (by decide))).trans hL
                by_cases hpe : pos (M 301) m = L
                · obtain ⟨k, hk⟩ := hA
                  rw [hpe, aut_end hL1] at hk
                  refine kX9_readMarket_90 (fun h5 => ?_) (fun h5 => by omega)
                  refine kX9_readMarket_113 ?_
                  rw [hPd]
                  exact ⟨by rw [hk], k7, fun _ => ⟨m, hpe, hI⟩⟩
                · obtain ⟨i1, i2, i3, i4, i5, i6, i7, i8, i9⟩ := hI
                  obtain ⟨k, hk⟩ := hA
                  have e7 := keepRd_301 k7
                  have hge := pos_ge (B := M 301) (m := m)
                  refine kX9_readMarket_90 (fun h5 => by omega) (fun h5 => ?_)
                  refine kX9_readMarket_101 (mreadPart_n (q := pos (M 301) m) (kind := k) (V := V) i2 i4 i1 i3 t3 t2 (by omega) (by omega) h72 (by rw [e7]; exact hB) (by rw [e7]; exact hk)) ?_
                  rw [e7]
                  rintro z M8 (⟨hz, P', g1, g2, g3⟩ | ⟨hz, g1, g2, g3, g4, g5, g6⟩ | ⟨hz, g1, g2, g3, g4, g5, g6⟩)
                  · cases hz
                    refine kX9_readMarket_105 (fun h6 => absurd rfl h6) (fun h6 => ?_)
                    have e8 : M8 200 3 = V := by rw [g2, up2_eq, g3]
                    refine kX9_readMarket_108 ?_
                    rw [e8, hPd]
                    exact ⟨rfl, by rw [g2]; exact keepRd_3 k7, fun h7 => by omega⟩
                  · cases hz
                    refine kX9_readMarket_105 (fun h6 => ?_) (fun h6 => absurd h6 (by decide))
                    obtain ⟨n1, n2, n3⟩ := pos_T g1
                    refine ih (m + 1) M8 (by omega) (by omega) (by rw [g6]; exact keepRd_t k7) ?_ ?_ ⟨M 301 (pos (M 301) m), by rw [n1, n2, n3]; exact g5⟩
                    · rw [g6, n1]
                      unfold mrtM
                      rw [up2_j (by decide), up2_o (by decide), up2_o (by decide), up2_o (by decide), up2_o (by decide), up2_o (by decide), up2_eq]
                    · have f200 : ∀ j, j ≠ 3 → j ≠ 20 → M8 200 j = M7 200 j := by
                        intro j j1 j2
                        rw [g6]
                        unfold mrtM
                        rw [up2_j j2, up2_o (by decide), up2_o (by decide), up2_o (by decide), up2_o (by decide), up2_o (by decide), up2_j j1]
                      have f20 : M8 200 20 = ((tcn (M 301) m + 1 : Nat) : Int) := by
                        rw [g6]
                        unfold mrtM
                        rw [up2_eq]
                      have f327 : M8 327 = M7 327 := by
                        funext j
                        rw [g6]
                        unfold mrtM
                        rw [up2_o (by decide), up2_o (by decide), up2_o (by decide), up2_o (by decide), up2_o (by decide), up2_o (by decide), up2_o (by decide)]
                      have f328 : M8 328 = M7 328 := by
                        funext j
                        rw [g6]
                        unfold mrtM
                        rw [up2_o (by decide), up2_o (by decide), up2_o (by decide), up2_o (by decide), up2_o (by decide), up2_o (by decide), up2_o (by decide)]
                      refine ⟨by rw [n2]; exact f20, by omega, by rw [n3, f200 21 (by decide) (by decide)]; exact i3, by omega, by rw [f200 18 (by decide) (by decide)]; exact i5, by rw [f200 19 (by decide) (by decide)]; exact i6, ?_, ?_, pOK_S i9 (Or.inl ⟨g1, g3⟩)⟩
                      · refine RdT_T i7 (fun t ht => ?_) (fun _ => ?_)
                        · rw [g6]
                          unfold mrtM
                          refine ⟨?_, ?_, ?_, ?_, ?_⟩
                          · rw [up2_o (by decide), up2_o (by decide), up2_o (by decide), up2_o (by decide), up2_o (by decide), up2_j (by omega), up2_o (by decide)]
                          · rw [up2_o (by decide), up2_o (by decide), up2_o (by decide), up2_o (by decide), up2_j (by omega), up2_o (by decide), up2_o (by decide)]
                          · rw [up2_o (by decide), up2_o (by decide), up2_o (by decide), up2_j (by omega), up2_o (by decide), up2_o (by decide), up2_o (by decide)]
                          · rw [up2_o (by decide), up2_o (by decide), up2_j (by omega), up2_o (by decide), up2_o (by decide), up2_o (by decide), up2_o (by decide)]
                          · rw [up2_o (by decide), up2_j (by omega), up2_o (by decide), up2_o (by decide), up2_o (by decide), up2_o (by decide), up2_o (by decide)]
                        · rw [g6]
                          unfold mrtM
                          rw [e7]
                          refine ⟨?_, ?_, ?_, ?_, ?_⟩
                          · rw [up2_o (by decide), up2_o (by decide), up2_o (by decide), up2_o (by decide), up2_o (by decide), up2_eq]
                          · rw [up2_o (by decide), up2_o (by decide), up2_o (by decide), up2_o (by decide), up2_eq]
                          · rw [up2_o (by decide), up2_o (by decide), up2_o (by decide), up2_eq]
                          · rw [up2_o (by decide), up2_o (by decide), up2_eq]
                          · rw [up2_o (by decide), up2_eq]
                      · rw [f327, f328]
                        exact RdG_G i8 (fun t ht => ⟨rfl, rfl⟩) (fun z => by rw [z] at g1; exact absurd g1 T71)
                  · cases hz
                    refine kX9_readMarket_105 (fun h6 => ?_) (fun h6 => absurd h6 (by decide))
                    obtain ⟨n1, n2, n3⟩ := pos_G g1
                    refine ih (m + 1) M8 (by omega) (by omega) (by rw [g6]; exact keepRd_g k7) ?_ ?_ ⟨71, by rw [n1, n2, n3]; exact g5⟩
                    · rw [g6, n1]
                      unfold mrgM
                      rw [up2_j (by decide), up2_o (by decide), up2_o (by decide), up2_eq]
                    · have f200 : ∀ j, j ≠ 3 → j ≠ 21 → M8 200 j = M7 200 j := by
                        intro j j1 j2
                        rw [g6]
                        unfold mrgM
                        rw [up2_j j2, up2_o (by decide), up2_o (by decide), up2_j j1]
                      have f21 : M8 200 21 = ((gcn (M 301) m + 1 : Nat) : Int) := by
                        rw [g6]
                        unfold mrgM
                        rw [up2_eq]
                      have fo : ∀ o, o ≠ 200 → o ≠ 327 → o ≠ 328 → M8 o = M7 o := by
                        intro o o1 o2 o3
                        funext j
                        rw [g6]
                        unfold mrgM
                        rw [up2_o o1, up2_o o3, up2_o o2, up2_o o1]
                      refine ⟨by rw [n2, f200 20 (by decide) (by decide)]; exact i1, by omega, by rw [n3]; exact f21, by omega, by rw [f200 18 (by decide) (by decide)]; exact i5, by rw [f200 19 (by decide) (by decide)]; exact i6, ?_, ?_, pOK_S i9 (Or.inr ⟨g1, g3⟩)⟩
                      · rw [fo 322 (by decide) (by decide) (by decide), fo 323 (by decide) (by decide) (by decide), fo 324 (by decide) (by decide) (by decide), fo 325 (by decide) (by decide) (by decide), fo 326 (by decide) (by decide) (by decide)]
                        exact RdT_T i7 (fun t ht => ⟨rfl, rfl, rfl, rfl, rfl⟩) (fun z => by rw [g1] at z; exact absurd z T71)
                      · refine RdG_G i8 (fun t ht => ?_) (fun _ => ?_)
                        · rw [g6]
                          unfold mrgM
                          refine ⟨?_, ?_⟩
                          · rw [up2_o (by decide), up2_o (by decide), up2_j (by omega), up2_o (by decide)]
                          · rw [up2_o (by decide), up2_j (by omega), up2_o (by decide), up2_o (by decide)]
                        · rw [g6]
                          unfold mrgM
                          rw [e7]
                          refine ⟨?_, ?_⟩
                          · rw [up2_o (by decide), up2_o (by decide), up2_eq]
                          · rw [up2_o (by decide), up2_eq]
            refine kX9_readMarket_73 (fun h4 => ?_) (fun h4 => ?_)
            · rw [← hM6]
              exact loop (L - 3) 0 M6 (Nat.le_refl _) (by show 3 ≤ L; omega) k6 r3 ⟨r20, Nat.zero_le _, r21, Nat.zero_le _, ⟨r18, a2, a3⟩, ⟨r19, d2, d3⟩, fun i hi => absurd hi (Nat.not_lt_zero _), fun i hi => absurd hi (Nat.not_lt_zero _), fun i hi => absurd hi (Nat.not_lt_zero _)⟩ ⟨76, hV0.symm⟩
            · rw [up2_eq] at h4
              omega
          · cases hz
            rw [if_neg (fun z => hno ⟨z.1, fol_L2.mp z.2⟩)] at hV0
            refine kX9_readMarket_73 (fun h4 => absurd up2_eq h4) (fun h4 => ?_)
            have k5 : keepRd M (up2 M5 200 19 (-9)) := by
              intro o j h1 h2
              have h3 := k4 o j h1 h2
              rw [hM5]
              by_cases ho : o = 200
              · subst ho
                rw [up2_j (h2.resolve_left (fun z => z rfl)).2.2.1]; exact h3
              · rw [up2_o ho]; exact h3
            have e5 : (up2 M5 200 19 (-9)) 200 3 = V := by rw [up2_j (by decide), hM5, q3, hV0]
            refine kX9_readMarket_85 ?_
            rw [e5, hPd]
            exact ⟨rfl, k5, fun h5 => by omega⟩
        · rw [up2_eq] at h3
          omega
      · cases hz
        rw [if_neg (fun z => hno ⟨z.1, fol_L1.mp z.2⟩)] at hV0
        refine kX9_readMarket_48 (fun h3 => absurd up2_eq h3) (fun h3 => kX9_readMarket_61 (kX9_readMarket_73 (fun h4 => absurd up2_eq h4) (fun h4 => ?_)))
        have k5 : keepRd M (up2 (up2 M3 200 18 (-9)) 200 19 (-9)) := by
          intro o j h1 h2
          have h3 := k3 o j h1 h2
          rw [hM3]
          by_cases ho : o = 200
          · subst ho
            obtain ⟨a1, a2, a3, a4, a5⟩ := h2.resolve_left (fun z => z rfl)
            rw [up2_j a3, up2_j a2]; exact h3
          · rw [up2_o ho, up2_o ho]; exact h3
        have e5 : (up2 (up2 M3 200 18 (-9)) 200 19 (-9)) 200 3 = V := by rw [up2_j (by decide), up2_j (by decide), hM3, up2_eq, hV0]; rfl
        refine kX9_readMarket_85 ?_
        rw [e5, hPd]
        exact ⟨rfl, k5, fun h5 => by omega⟩
    · rw [z0, b2] at h2
      rw [if_neg h2] at hV0
      exact bad hV0
end MQ
