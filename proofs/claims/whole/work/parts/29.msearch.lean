/-! ===== the model's searches ===== -/
/-- what a search of the model writes -/
def keepM (M M2 : Mem) : Prop := ∀ o j, (o ≠ 200 ∨ (j ≠ 39 ∧ j ≠ 40 ∧ j ≠ 41)) → M2 o j = M o j
theorem keepM_o {M M2 : Mem} (h : keepM M M2) {o : Nat} (ho : o ≠ 200) : M2 o = M o := funext (fun j => h o j (Or.inl ho))
theorem MT_k {M M2 : Mem} {n : Nat} (h : keepM M M2) (hX : MT M n) : MT M2 n := by
  unfold MT at hX ⊢
  rw [h 200 6 (Or.inr (by decide)), h 200 4 (Or.inr (by decide)), h 200 5 (Or.inr (by decide)), keepM_o h (by decide), keepM_o h (by decide), keepM_o h (by decide), keepM_o h (by decide), keepM_o h (by decide), keepM_o h (by decide), keepM_o h (by decide)]
  exact hX
theorem mw_k {M M2 : Mem} (h : keepM M M2) : mw M2 = mw M := by
  funext t
  unfold mw mwb
  rw [h 200 4 (Or.inr (by decide)), h 200 5 (Or.inr (by decide)), keepM_o h (by decide), keepM_o h (by decide), keepM_o h (by decide)]
/-- the best so far: none yet, or the least of the candidates -/
def LB (C : Int → Int → Int → Prop) (z a b : Int) : Prop := (z = -9 ∧ ∀ x y v, ¬ C x y v) ∨ (z ≠ -9 ∧ C z a b ∧ ∀ x y v, C x y v → lexle z a b x y v)
theorem LB_eq {C C' : Int → Int → Int → Prop} {z a b : Int} (h : LB C z a b) (hC : ∀ x y v, C' x y v ↔ C x y v) : LB C' z a b := by
  rcases h with ⟨h1, h2⟩ | ⟨h1, h2, h3⟩
  · exact Or.inl ⟨h1, fun x y v q => h2 x y v ((hC x y v).mp q)⟩
  · exact Or.inr ⟨h1, (hC _ _ _).mpr h2, fun x y v q => h3 x y v ((hC x y v).mp q)⟩
/-- two that hold the least of the same candidates hold the same -/
theorem LB_LM {C C' : Int → Int → Int → Prop} {M : Mem} {z a b : Int} (h : LB C z a b) (h2 : LM C' M) (hC : ∀ x y v, C' x y v ↔ C x y v) : (z = -9 ∧ M 33 0 = 0) ∨ (z ≠ -9 ∧ M 33 0 ≠ 0 ∧ M 33 1 = z ∧ M 33 2 = a ∧ M 33 3 = b) := by
  rcases h with ⟨h1, h3⟩ | ⟨h1, h3, h4⟩
  · rcases h2 with ⟨q1, q2⟩ | ⟨q1, q2, q3⟩
    · exact Or.inl ⟨h1, q1⟩
    · exact absurd ((hC _ _ _).mp q2) (h3 _ _ _)
  · rcases h2 with ⟨q1, q2⟩ | ⟨q1, q2, q3⟩
    · exact absurd ((hC _ _ _).mpr h3) (q2 _ _ _)
    · have r1 := h4 _ _ _ ((hC _ _ _).mp q2)
      have r2 := q3 _ _ _ ((hC _ _ _).mpr h3)
      unfold lexle at r1 r2
      refine Or.inr ⟨h1, q1, ?_, ?_, ?_⟩ <;> omega
/-- the candidates for a payment among the pairs before (X, Y) -/
def PD (w : Nat → Int) (mine his n : Nat) (price : Int) (Xl Yl : Nat) (k a b : Int) : Prop := ∃ x y : Nat, x &&& mine = x ∧ y &&& his = y ∧ (x < Xl ∨ (x = Xl ∧ y < Yl)) ∧ setW w x n - setW w y n = price ∧ k = ((popN x 10 + popN y 10 : Nat) : Int) ∧ a = (x : Int) ∧ b = (y : Int)
theorem PD_eq {w : Nat → Int} {mine his n Xl Yl Xl' Yl' : Nat} {price : Int} (h : ∀ x y : Nat, x &&& mine = x → y &&& his = y → setW w x n - setW w y n = price → ((x < Xl' ∨ (x = Xl' ∧ y < Yl')) ↔ (x < Xl ∨ (x = Xl ∧ y < Yl)))) : ∀ k a b, PD w mine his n price Xl' Yl' k a b ↔ PD w mine his n price Xl Yl k a b := by
  intro k a b
  constructor
  · rintro ⟨x, y, h1, h2, h3, h4, h5⟩
    exact ⟨x, y, h1, h2, (h x y h1 h2 h4).mp h3, h4, h5⟩
  · rintro ⟨x, y, h1, h2, h3, h4, h5⟩
    exact ⟨x, y, h1, h2, (h x y h1 h2 h4).mpr h3, h4, h5⟩
theorem PD_in {w : Nat → Int} {mine his n Xl Yl : Nat} {price k a b : Int} (h : PD w mine his n price Xl Yl k a b) : 0 ≤ k ∧ (a < Xl ∨ (a = Xl ∧ b < Yl)) := by
  obtain ⟨x, y, h1, h2, h3, h4, rfl, rfl, rfl⟩ := h
  omega
/-- one more pair that pays -/
theorem LB_new {w : Nat → Int} {mine his n Xl Yl : Nat} {price z a b : Int} (h : LB (PD w mine his n price Xl Yl) z a b) (hx : Xl &&& mine = Xl) (hy : Yl &&& his = Yl) (hp : setW w Xl n - setW w Yl n = price) (hz : z = -9 ∨ ((popN Xl 10 + popN Yl 10 : Nat) : Int) < z) : LB (PD w mine his n price Xl (Yl + 1)) ((popN Xl 10 + popN Yl 10 : Nat) : Int) (Xl : Int) (Yl : Int) := by
  refine Or.inr ⟨by omega, ⟨Xl, Yl, hx, hy, Or.inr ⟨rfl, by omega⟩, hp, rfl, rfl, rfl⟩, ?_⟩
  rintro x y v ⟨x1, y1, h1, h2, h3, h4, rfl, rfl, rfl⟩
  by_cases hq : x1 < Xl ∨ (x1 = Xl ∧ y1 < Yl)
  · rcases h with ⟨r1, r2⟩ | ⟨r1, r2, r3⟩
    · exact absurd ⟨x1, y1, h1, h2, hq, h4, rfl, rfl, rfl⟩ (r2 _ _ _)
    · have := r3 _ _ _ ⟨x1, y1, h1, h2, hq, h4, rfl, rfl, rfl⟩
      unfold lexle at this ⊢
      omega
  · have e1 : x1 = Xl := by omega
    have e2 : y1 = Yl := by omega
    subst e1
    subst e2
    unfold lexle
    omega
theorem LB_old {w : Nat → Int} {mine his n Xl Yl : Nat} {price z a b : Int} (h : LB (PD w mine his n price Xl Yl) z a b) (hq : Xl &&& mine = Xl → Yl &&& his = Yl → setW w Xl n - setW w Yl n = price → z ≠ -9 ∧ z ≤ ((popN Xl 10 + popN Yl 10 : Nat) : Int)) : LB (PD w mine his n price Xl (Yl + 1)) z a b := by
  have key : ∀ x y v, PD w mine his n price Xl (Yl + 1) x y v → PD w mine his n price Xl Yl x y v ∨ (z ≠ -9 ∧ z ≤ x ∧ y = (Xl : Int) ∧ v = (Yl : Int)) := by
    rintro x y v ⟨x1, y1, h1, h2, h3, h4, rfl, rfl, rfl⟩
    by_cases hq2 : x1 < Xl ∨ (x1 = Xl ∧ y1 < Yl)
    · exact Or.inl ⟨x1, y1, h1, h2, hq2, h4, rfl, rfl, rfl⟩
    · have e1 : x1 = Xl := by omega
      have e2 : y1 = Yl := by omega
      subst e1
      subst e2
      have := hq h1 h2 h4
      exact Or.inr ⟨this.1, this.2, rfl, rfl⟩
  rcases h with ⟨r1, r2⟩ | ⟨r1, r2, r3⟩
  · refine Or.inl ⟨r1, fun x y v q => ?_⟩
    rcases key x y v q with q | q
    · exact r2 x y v q
    · exact q.1 r1
  · obtain ⟨hk, hab⟩ := PD_in r2
    obtain ⟨x1, y1, h1, h2, h3, h4, h5⟩ := r2
    refine Or.inr ⟨r1, ⟨x1, y1, h1, h2, by omega, h4, h5⟩, fun x y v q => ?_⟩
    rcases key x y v q with q | ⟨q1, q2, q3, q4⟩
    · exact r3 x y v q
    · unfold lexle
      omega
theorem nxt_0 {S p : Nat} (h : p &&& S = p) : nxt S p = 0 ↔ p = S := by
  constructor
  · intro h1
    by_cases hq : p = S
    · exact hq
    · have := (nxt_ok h hq).2.1
      omega
  · intro h1
    unfold nxt
    rw [if_pos h1]
section MS
variable {X : Scr} {M : Mem}
/-- all candidates for a payment -/
def PF (w : Nat → Int) (mine his n : Nat) (price : Int) : Int → Int → Int → Prop := PD w mine his n price (mine + 1) 0
theorem findFewest_n {n : Nat} {p q price : Int} (hX : MT M n) (hp : 0 ≤ price ∧ price ≤ 999) :
    Call X mX9_findFewest [vr 200, vi p, vi q, vi price] M (fun r M1 => ∃ z, r = some (vi z) ∧ keepM M M1 ∧ LB (PF (mw M) (own (M 310) p n) (own (M 310) q n) n price) z (M1 200 39) (M1 200 40)) := by
  have h10 := hX.1
  have hp2 := p2_le h10
  obtain ⟨mine, hmi⟩ : ∃ m, m = own (M 310) p n := ⟨_, rfl⟩
  obtain ⟨his, hth⟩ : ∃ m, m = own (M 310) q n := ⟨_, rfl⟩
  have lmi : mine < 2 ^ n := by rw [hmi]; exact own_lt _ _ _
  have lth : his < 2 ^ n := by rw [hth]; exact own_lt _ _ _
  refine kX9_findFewest_0 (setOf_n h10 hX.2.1) (on ?_)
  refine kX9_findFewest_5 (setOf_n h10 hX.2.1) (on ?_)
  rw [← hmi, ← hth]
  refine kX9_findFewest_12 ?_
  have hw : ∀ s, 0 ≤ setW (mw M) s n ∧ setW (mw M) s n ≤ 8100 := fun s => by
    have := setW_bound (w := mw M) (s := s) (B := 810) (n := n) (fun t ht => mw_in hX ht) (by decide)
    omega
  have outer : ∀ x, x &&& mine = x → ∀ (M2 : Mem) (best : Int), keepM M M2 → LB (PD (mw M) mine his n price x 0) best (M2 200 39) (M2 200 40) → Runs X mX9_findFewest 24 [(0, vr 200), (3, vi price), (4, vi (mine : Int)), (5, vi (his : Int)), (6, vi best), (7, vi (x : Int)), (8, vi 1)] [] M2 (fun r M1 => ∃ z, r = some (vi z) ∧ keepM M M1 ∧ LB (PF (mw M) mine his n price) z (M1 200 39) (M1 200 40)) := by
    refine sub_ind (S := mine) ?_
    intro x hx ih M2 best hk hL
    have hxle := sub_le hx
    refine kX9_findFewest_24 (fun h => by omega) (fun h => ?_)
    refine kX9_findFewest_29 (mworthOf_n (s := x) (MT_k hk hX) (by omega)) (on ?_)
    rw [mw_k hk]
    have hwx := hw x
    -- behind the inner loop
    have out : ∀ (M3 : Mem) (b3 : Int), keepM M M3 → LB (PD (mw M) mine his n price (x + 1) 0) b3 (M3 200 39) (M3 200 40) → Runs X mX9_findFewest 137 [(0, vr 200), (3, vi price), (4, vi (mine : Int)), (5, vi (his : Int)), (6, vi b3), (7, vi (x : Int))] [] M3 (fun r M1 => ∃ z, r = some (vi z) ∧ keepM M M1 ∧ LB (PF (mw M) mine his n price) z (M1 200 39) (M1 200 40)) := by
      intro M3 b3 hk3 hL3
      refine kX9_findFewest_137 (next_n (by omega) hx) (on ?_)
      by_cases hxe : x = mine
      · have e0 : nxt mine x = 0 := (nxt_0 hx).mpr hxe
        rw [e0]
        refine kX9_findFewest_144 (fun h2 => ?_) (fun h2 => absurd rfl h2)
        refine kX9_findFewest_155 (kX9_findFewest_156 ?_)
        refine kX9_findFewest_24 (fun h3 => ?_) (fun h3 => absurd rfl h3)
        refine kX9_findFewest_161 ⟨b3, rfl, hk3, ?_⟩
        rw [hxe] at hL3
        exact hL3
      · obtain ⟨n1, n2, n3⟩ := nxt_ok hx hxe
        refine kX9_findFewest_144 (fun h2 => by omega) (fun h2 => ?_)
        refine kX9_findFewest_151 (kX9_findFewest_156 ?_)
        refine ih hxe M3 b3 hk3 (LB_eq hL3 (PD_eq ?_))
        intro x1 y1 g1 g2 g3
        have := n3 x1 g1
        omega
    have inner : ∀ y, y &&& his = y → ∀ (M3 : Mem) (b3 : Int), keepM M M3 → LB (PD (mw M) mine his n price x y) b3 (M3 200 39) (M3 200 40) → Runs X mX9_findFewest 54 [(0, vr 200), (3, vi price), (4, vi (mine : Int)), (5, vi (his : Int)), (6, vi b3), (7, vi (x : Int)), (9, vi (setW (mw M) x n - price)), (10, vi (y : Int)), (11, vi 1)] [] M3 (fun r M1 => ∃ z, r = some (vi z) ∧ keepM M M1 ∧ LB (PF (mw M) mine his n price) z (M1 200 39) (M1 200 40)) := by
      refine sub_ind (S := his) ?_
      intro y hy ih2 M3 b3 hk3 hL3
      have hyle := sub_le hy
      have hwy := hw y
      have hpx := popN_le (s := x) 10
      have hpy := popN_le (s := y) 10
      refine kX9_findFewest_54 (fun h2 => by omega) (fun h2 => ?_)
      refine kX9_findFewest_59 (many_n (by omega)) (on ?_)
      refine kX9_findFewest_64 (many_n (by omega)) (on ?_)
      refine kX9_findFewest_69 (mworthOf_n (s := y) (MT_k hk3 hX) (by omega)) (on ?_)
      rw [mw_k hk3]
      have step : ∀ (M4 : Mem) (b4 : Int), keepM M M4 → LB (PD (mw M) mine his n price x (y + 1)) b4 (M4 200 39) (M4 200 40) → Runs X mX9_findFewest 113 [(0, vr 200), (3, vi price), (4, vi (mine : Int)), (5, vi (his : Int)), (6, vi b4), (7, vi (x : Int)), (9, vi (setW (mw M) x n - price)), (10, vi (y : Int))] [] M4 (fun r M1 => ∃ z, r = some (vi z) ∧ keepM M M1 ∧ LB (PF (mw M) mine his n price) z (M1 200 39) (M1 200 40)) := by
        intro M4 b4 hk4 hL4
        refine kX9_findFewest_113 (next_n (by omega) hy) (on ?_)
        by_cases hye : y = his
        · have e0 : nxt his y = 0 := (nxt_0 hy).mpr hye
          rw [e0]
          refine kX9_findFewest_120 (fun h2 => ?_) (fun h2 => absurd rfl h2)
          refine kX9_findFewest_131 (kX9_findFewest_132 ?_)
          refine kX9_findFewest_54 (fun h3 => ?_) (fun h3 => absurd rfl h3)
          refine out M4 b4 hk4 (LB_eq hL4 (PD_eq ?_))
          intro x1 y1 g1 g2 g3
          have := sub_le g2
          omega
        · obtain ⟨n1, n2, n3⟩ := nxt_ok hy hye
          refine kX9_findFewest_120 (fun h2 => by omega) (fun h2 => ?_)
          refine kX9_findFewest_127 (kX9_findFewest_132 ?_)
          refine ih2 hye M4 b4 hk4 (LB_eq hL4 (PD_eq ?_))
          intro x1 y1 g1 g2 g3
          have := n3 y1 g2
          omega
      refine kX9_findFewest_78 (fun h3 => ?_) (fun h3 => ?_)
      · refine step M3 b3 hk3 (LB_old hL3 (fun _ _ z => ?_))
        omega
      · have take : (b3 = -9 ∨ ((popN x 10 + popN y 10 : Nat) : Int) < b3) → Runs X mX9_findFewest 97 [(0, vr 200), (3, vi price), (4, vi (mine : Int)), (5, vi (his : Int)), (7, vi (x : Int)), (9, vi (setW (mw M) x n - price)), (10, vi (y : Int)), (12, vi ((popN x 10 : Int) + (popN y 10 : Int)))] [] M3 (fun r M1 => ∃ z, r = some (vi z) ∧ keepM M M1 ∧ LB (PF (mw M) mine his n price) z (M1 200 39) (M1 200 40)) := by
          intro hz
          refine kX9_findFewest_97 (step _ _ ?_ ?_)
          · intro o j hoj
            rcases hoj with ho | ⟨j1, j2, j3⟩
            · rw [up2_o ho, up2_o ho]; exact hk3 o j (Or.inl ho)
            · by_cases ho : o = 200
              · subst ho
                rw [up2_j j2, up2_j j1]; exact hk3 200 j (Or.inr ⟨j1, j2, j3⟩)
              · rw [up2_o ho, up2_o ho]; exact hk3 o j (Or.inl ho)
          · rw [up2_j (by decide), up2_eq, up2_eq]
            have := LB_new hL3 hx hy (by omega) hz
            rw [show (popN x 10 : Int) + (popN y 10 : Int) = ((popN x 10 + popN y 10 : Nat) : Int) by omega]
            exact this
        refine kX9_findFewest_83 (fun h4 => take (Or.inl h4)) (fun h4 => ?_)
        refine kX9_findFewest_90 (fun h5 => ?_) (fun h5 => take (Or.inr (by omega)))
        exact step M3 b3 hk3 (LB_old hL3 (fun _ _ z => by omega))
    refine kX9_findFewest_35 (fun h2 => ?_) (fun h2 => ?_)
    · refine kX9_findFewest_51 (kX9_findFewest_52 ?_)
      refine kX9_findFewest_54 (fun h3 => ?_) (fun h3 => absurd rfl h3)
      refine out M2 best hk (LB_eq hL (PD_eq ?_))
      intro x1 y1 g1 g2 g3
      have hwy := hw y1
      by_cases hq : x1 = x
      · subst hq
        omega
      · omega
    · refine kX9_findFewest_47 (kX9_findFewest_52 ?_)
      exact inner 0 (Nat.zero_and _) M2 best hk hL
  refine outer 0 (Nat.zero_and _) M (-9) (fun o j _ => rfl) (Or.inl ⟨rfl, ?_⟩)
  rintro x y v ⟨x1, y1, h1, h2, h3, h4⟩
  omega
-- ===== too much
theorem findMuch_n {n : Nat} {p price : Int} (hX : MT M n) (hp : 0 ≤ price ∧ price ≤ 999) :
    Call X mX9_findMuch [vr 200, vi p, vi price] M (fun r M1 => ∃ z a, r = some (vi z) ∧ keepM M M1 ∧ LB (CT (mw M) (own (M 310) p n) n price (2 ^ n)) z a (M1 200 41)) := by
  have h10 := hX.1
  have hp2 := p2_le h10
  obtain ⟨mine, hmi⟩ : ∃ m, m = own (M 310) p n := ⟨_, rfl⟩
  have lmi : mine < 2 ^ n := by rw [hmi]; exact own_lt _ _ _
  refine kX9_findMuch_0 (setOf_n h10 hX.2.1) (on ?_)
  rw [← hmi]
  refine kX9_findMuch_5 ?_
  have hw : ∀ s, 0 ≤ setW (mw M) s n ∧ setW (mw M) s n ≤ 8100 := fun s => by
    have := setW_bound (w := mw M) (s := s) (B := 810) (n := n) (fun t ht => mw_in hX ht) (by decide)
    omega
  have outer : ∀ x, x &&& mine = x → ∀ (M2 : Mem) (best a : Int), keepM M M2 → LB (CT (mw M) mine n price x) best a (M2 200 41) → Runs X mX9_findMuch 16 [(0, vr 200), (2, vi price), (3, vi (mine : Int)), (4, vi best), (5, vi (x : Int)), (6, vi 1)] [] M2 (fun r M1 => ∃ z a, r = some (vi z) ∧ keepM M M1 ∧ LB (CT (mw M) mine n price (2 ^ n)) z a (M1 200 41)) := by
    refine sub_ind (S := mine) ?_
    intro x hx ih M2 best a hk hL
    have hxle := sub_le hx
    have hwx := hw x
    refine kX9_findMuch_16 (fun h => by omega) (fun h => ?_)
    refine kX9_findMuch_21 (mworthOf_n (s := x) (MT_k hk hX) (by omega)) (on ?_)
    rw [mw_k hk]
    have step : ∀ (M4 : Mem) (b4 a4 : Int), keepM M M4 → LB (CT (mw M) mine n price (x + 1)) b4 a4 (M4 200 41) → Runs X mX9_findMuch 93 [(0, vr 200), (2, vi price), (3, vi (mine : Int)), (4, vi b4), (5, vi (x : Int))] [] M4 (fun r M1 => ∃ z a, r = some (vi z) ∧ keepM M M1 ∧ LB (CT (mw M) mine n price (2 ^ n)) z a (M1 200 41)) := by
      intro M4 b4 a4 hk4 hL4
      refine kX9_findMuch_93 (next_n (by omega) hx) (on ?_)
      by_cases hxe : x = mine
      · have e0 : nxt mine x = 0 := (nxt_0 hx).mpr hxe
        rw [e0]
        refine kX9_findMuch_99 (fun h2 => ?_) (fun h2 => absurd rfl h2)
        refine kX9_findMuch_110 (kX9_findMuch_111 ?_)
        refine kX9_findMuch_16 (fun h3 => ?_) (fun h3 => absurd rfl h3)
        refine kX9_findMuch_116 ⟨b4, a4, rfl, hk4, LB_eq hL4 (fun k a b => ?_)⟩
        constructor
        · rintro ⟨s, s1, s2, s3⟩
          have := sub_le s2
          exact ⟨s, by omega, s2, s3⟩
        · rintro ⟨s, s1, s2, s3⟩
          exact ⟨s, by omega, s2, s3⟩
      · obtain ⟨n1, n2, n3⟩ := nxt_ok hx hxe
        refine kX9_findMuch_99 (fun h2 => by omega) (fun h2 => ?_)
        refine kX9_findMuch_106 (kX9_findMuch_111 ?_)
        refine ih hxe M4 b4 a4 hk4 (LB_eq hL4 (fun k a b => ?_))
        constructor
        · rintro ⟨s, s1, s2, s3⟩
          have := n3 s s2
          exact ⟨s, by omega, s2, s3⟩
        · rintro ⟨s, s1, s2, s3⟩
          exact ⟨s, by omega, s2, s3⟩
    -- what is laid aside, what is taken
    have no : (price ≤ setW (mw M) x n → best ≠ -9 ∧ (best < setW (mw M) x n ∨ (best = setW (mw M) x n ∧ a ≤ (popN x 10 : Nat)))) → LB (CT (mw M) mine n price (x + 1)) best a (M2 200 41) := by
      intro hq
      by_cases hpr : price ≤ setW (mw M) x n
      · obtain ⟨q1, q2⟩ := hq hpr
        have hC := CT_yes (w := mw M) (mine := mine) (n := n) (i := x) (price := price) hx hpr
        rcases hL with ⟨r1, r2⟩ | ⟨r1, r2, r3⟩
        · exact absurd r1 q1
        · refine Or.inr ⟨r1, (hC _ _ _).mpr (Or.inl r2), fun a1 b1 c1 g => ?_⟩
          rcases (hC _ _ _).mp g with g | ⟨rfl, rfl, rfl⟩
          · exact r3 _ _ _ g
          · obtain ⟨s, s1, s2, s3, s4, s5, s6⟩ := r2
            unfold lexle
            omega
      · exact LB_eq hL (CT_no (fun z => hpr z.2))
    have yes : price ≤ setW (mw M) x n → (best = -9 ∨ setW (mw M) x n < best ∨ (setW (mw M) x n = best ∧ ((popN x 10 : Nat) : Int) < a)) → LB (CT (mw M) mine n price (x + 1)) (setW (mw M) x n) (popN x 10 : Nat) (x : Int) := by
      intro hpr hq
      have hC := CT_yes (w := mw M) (mine := mine) (n := n) (i := x) (price := price) hx hpr
      refine Or.inr ⟨by omega, (hC _ _ _).mpr (Or.inr ⟨rfl, rfl, rfl⟩), fun a1 b1 c1 g => ?_⟩
      rcases (hC _ _ _).mp g with g | ⟨rfl, rfl, rfl⟩
      · rcases hL with ⟨r1, r2⟩ | ⟨r1, r2, r3⟩
        · exact absurd g (r2 _ _ _)
        · have := r3 _ _ _ g
          unfold lexle at this ⊢
          omega
      · unfold lexle
        omega
    have better : (best = -9 ∨ setW (mw M) x n < best ∨ (setW (mw M) x n = best ∧ ((popN x 10 : Nat) : Int) < a)) → Runs X mX9_findMuch 65 [(0, vr 200), (2, vi price), (3, vi (mine : Int)), (4, vi best), (5, vi (x : Int)), (7, vi (setW (mw M) x n))] [] M2 (fun r M1 => ∃ z a, r = some (vi z) ∧ keepM M M1 ∧ LB (CT (mw M) mine n price (2 ^ n)) z a (M1 200 41)) := by
      intro hq
      refine kX9_findMuch_65 ?_
      refine kX9_findMuch_70 (fun h2 => ?_) (fun h2 => ?_)
      · exact step M2 best a hk (no (fun z => by omega))
      · refine kX9_findMuch_78 (fun h3 => absurd h3 (by decide)) (fun h3 => ?_)
        refine kX9_findMuch_83 (step _ _ (popN x 10 : Nat) ?_ ?_)
        · intro o j hoj
          rcases hoj with ho | ⟨j1, j2, j3⟩
          · rw [up2_o ho]; exact hk o j (Or.inl ho)
          · by_cases ho : o = 200
            · subst ho
              rw [up2_j j3]; exact hk 200 j (Or.inr ⟨j1, j2, j3⟩)
            · rw [up2_o ho]; exact hk o j (Or.inl ho)
        · rw [up2_eq]
          exact yes h2 hq
    have worse : (best ≠ -9 ∧ (best < setW (mw M) x n ∨ (best = setW (mw M) x n ∧ a ≤ (popN x 10 : Nat)))) → Runs X mX9_findMuch 69 [(0, vr 200), (2, vi price), (3, vi (mine : Int)), (4, vi best), (5, vi (x : Int)), (7, vi (setW (mw M) x n))] [] M2 (fun r M1 => ∃ z a, r = some (vi z) ∧ keepM M M1 ∧ LB (CT (mw M) mine n price (2 ^ n)) z a (M1 200 41)) := by
      intro hq
      have hL2 := no (fun _ => hq)
      refine kX9_findMuch_69 ?_
      refine kX9_findMuch_70 (fun h2 => step M2 best a hk hL2) (fun h2 => ?_)
      exact kX9_findMuch_78 (fun h3 => step M2 best a hk hL2) (fun h3 => absurd rfl h3)
    refine kX9_findMuch_27 (fun h2 => better (Or.inl h2)) (fun h2 => ?_)
    refine kX9_findMuch_36 (fun h3 => better (Or.inr (Or.inl h3))) (fun h3 => ?_)
    refine kX9_findMuch_43 (fun h4 => worse ⟨h2, by omega⟩) (fun h4 => ?_)
    refine kX9_findMuch_50 (many_n (by omega)) (on ?_)
    have hset : ∃ s : Nat, s < 2 ^ n ∧ a = (popN s 10 : Nat) ∧ M2 200 41 = (s : Int) := by
      rcases hL with ⟨r1, r2⟩ | ⟨r1, ⟨s, s1, s2, s3, s4, s5, s6⟩, r3⟩
      · exact absurd r1 h2
      · exact ⟨s, by omega, s5, s6⟩
    obtain ⟨s, s1, s2, s3⟩ := hset
    refine kX9_findMuch_55 (by rw [s3]; exact many_n (by omega)) (on ?_)
    refine kX9_findMuch_62 (fun h5 => worse ⟨h2, by omega⟩) (fun h5 => better (Or.inr (Or.inr ⟨h4, by omega⟩)))
  refine outer 0 (Nat.zero_and _) M (-9) 0 (fun o j _ => rfl) (Or.inl ⟨rfl, ?_⟩)
  rintro x y v ⟨s, h1, h2⟩
  omega
end MS
