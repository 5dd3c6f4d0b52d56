/-! ===== powers, fractions, rings, parts read ===== -/
theorem pow_in {b : Int} {t : Nat} (hb : 0 ≤ b ∧ b ≤ 10) (ht : t ≤ 10) : 0 ≤ b ^ t ∧ b ^ t ≤ 10000000000 := by
  have h1 : 0 ≤ b ^ t := Int.pow_nonneg hb.1
  refine ⟨h1, ?_⟩
  have h2 : ∀ t : Nat, b ^ t ≤ 10 ^ t := by
    intro t
    induction t with
    | zero => simp
    | succ t ih =>
      rw [Int.pow_succ, Int.pow_succ]
      exact Int.mul_le_mul ih hb.2 hb.1 (Int.pow_nonneg (by decide))
  have h3 : (10 : Int) ^ t ≤ 10 ^ 10 := by
    have := Nat.pow_le_pow_right (n := 10) (by decide) ht
    have h4 : ((10 ^ t : Nat) : Int) ≤ ((10 ^ 10 : Nat) : Int) := by omega
    simpa using h4
  have := Int.le_trans (h2 t) h3
  omega
/-- a fraction in least terms: what is above, or below -/
def fracV (a b : Nat) (u : Int) : Int := (if u = 0 then (b : Int) else (a : Int)) / ((Nat.gcd a b : Nat) : Int)
section MO
variable {X : Scr} {M : Mem}
theorem power_n {b : Int} {t : Nat} (hb : 0 ≤ b ∧ b ≤ 10) (ht : t ≤ 10) : Call X mX8_power [vl b, vi (t : Int)] M (retL (b ^ t) M) := by
  refine kX8_power_0 ?_
  have go := up_loop (n := t) (G := fun k => Runs X mX8_power 5 [(0, vl b), (2, vi (t : Int)), (3, vl (b ^ k)), (5, vi (k : Int))] [] M (retL (b ^ t) M)) ?_ ?_ 0 (Nat.zero_le _)
  · rw [Int.pow_zero] at go
    exact go
  · exact kX8_power_5 (fun h => kX8_power_21 ⟨rfl, rfl⟩) (fun h => by omega)
  · intro k hk ih
    have h1 := pow_in hb (t := k + 1) (by omega)
    rw [Int.pow_succ] at h1
    rw [Int.pow_succ, ← cast1] at ih
    exact kX8_power_5 (fun h => by omega) (fun h => kX8_power_11 ih)
theorem gcd_n {a b : Nat} (hb : b < 2 ^ 49) : Call X mX8_commonDivisor [vl (a : Int), vl (b : Int)] M (retL ((Nat.gcd a b : Nat) : Int) M) := by
  refine kX8_commonDivisor_0 ?_
  obtain ⟨g, hg⟩ : ∃ g, g = Nat.gcd a b := ⟨_, rfl⟩
  rw [← hg]
  have zero : ∀ (a k : Nat), a = g → Runs X mX8_commonDivisor 9 [(4, vl (a : Int)), (6, vl ((0 : Nat) : Int)), (8, vi (k : Int))] [] M (retL (g : Int) M) := by
    intro a k e
    subst e
    exact kX8_commonDivisor_9 (fun h => kX8_commonDivisor_44 ⟨rfl, rfl⟩) (fun h => kX8_commonDivisor_16 (fun h2 => kX8_commonDivisor_44 ⟨rfl, rfl⟩) (fun h2 => absurd rfl h2))
  have step : ∀ (a b k : Nat), 0 < b → k < 100 → Runs X mX8_commonDivisor 9 [(4, vl (b : Int)), (6, vl ((a % b : Nat) : Int)), (8, vi ((k + 1 : Nat) : Int))] [] M (retL (g : Int) M) → Runs X mX8_commonDivisor 9 [(4, vl (a : Int)), (6, vl (b : Int)), (8, vi (k : Int))] [] M (retL (g : Int) M) := by
    intro a b k hb hk ih
    refine kX8_commonDivisor_9 (fun h => by omega) (fun h => ?_)
    refine kX8_commonDivisor_16 (fun h2 => by omega) (fun h2 => ?_)
    refine kX8_commonDivisor_23 ?_
    rw [cast1, ← Int.natCast_emod]
    exact ih
  have go : ∀ (j a b k : Nat), b < 2 ^ j → k + 2 * j ≤ 100 → Nat.gcd a b = g → Runs X mX8_commonDivisor 9 [(4, vl (a : Int)), (6, vl (b : Int)), (8, vi (k : Int))] [] M (retL (g : Int) M) := by
    intro j
    induction j with
    | zero =>
      intro a b k h1 h2 h3
      have : b = 0 := by simpa using h1
      subst this
      exact zero a k (by rw [← h3, Nat.gcd_zero_right])
    | succ j ih =>
      intro a b k h1 h2 h3
      rcases Nat.eq_zero_or_pos b with h0 | h0
      · subst h0
        exact zero a k (by rw [← h3, Nat.gcd_zero_right])
      · refine step a b k h0 (by omega) ?_
        have hr : Nat.gcd b (a % b) = g := by rw [← h3, Nat.gcd_comm a b, Nat.gcd_rec b a, Nat.gcd_comm]
        rcases Nat.eq_zero_or_pos (a % b) with h4 | h4
        · rw [h4] at hr ⊢
          exact zero b (k + 1) (by rw [← hr, Nat.gcd_zero_right])
        · refine step b (a % b) (k + 1) h4 (by omega) ?_
          have hlt := Nat.mod_lt a h0
          have hm := Nat.mod_lt b h4
          have hd : b % (a % b) + (a % b) ≤ b := by
            have e := Nat.div_add_mod b (a % b)
            have h5 : 1 ≤ b / (a % b) := (Nat.one_le_div_iff h4).mpr (by omega)
            have h6 : a % b ≤ (a % b) * (b / (a % b)) := Nat.le_mul_of_pos_right _ h5
            omega
          have hp : 2 ^ (j + 1) = 2 ^ j + 2 ^ j := by rw [Nat.pow_succ]; omega
          exact ih (a % b) (b % (a % b)) (k + 1 + 1) (by omega) (by omega) (by rw [← hr, Nat.gcd_comm b, Nat.gcd_rec (a % b) b, Nat.gcd_comm])
  exact go 49 a b 0 hb (by decide) hg.symm
theorem ofFraction_n {a b : Nat} {u : Int} (hb : b < 2 ^ 49) (h0 : 0 < b) : Call X mX8_ofFraction [vl (a : Int), vl (b : Int), vi u] M (retL (fracV a b u) M) := by
  have hg : 0 < Nat.gcd a b := Nat.gcd_pos_of_pos_right _ h0
  refine kX8_ofFraction_0 (gcd_n hb) (onL ?_)
  refine kX8_ofFraction_5 (fun h => ?_) (fun h => by omega)
  refine kX8_ofFraction_16 (fun h2 => ?_) (fun h2 => ?_)
  · refine kX8_ofFraction_25 (kX8_ofFraction_26 ⟨?_, rfl⟩)
    unfold fracV
    rw [if_pos h2]
  · refine kX8_ofFraction_21 (kX8_ofFraction_26 ⟨?_, rfl⟩)
    unfold fracV
    rw [if_neg h2]
-- ===== rings
abbrev RgT : Type := Nat × Nat × Int × Int
/-- the better of what is held and a new ring -/
noncomputable def rst (g d : Nat → Int) (S : RgT) (code many : Nat) : RgT :=
  haveI := Classical.propDecidable
  if isR code many ∧ S.2.2.1 * prodF (fun i => d (rpl code many i)) many < prodF (fun i => g (rpl code many i)) many * S.2.2.2 then (code, many, prodF (fun i => g (rpl code many i)) many, prodF (fun i => d (rpl code many i)) many) else S
noncomputable def rgo (g d : Nat → Int) (many : Nat) (S : RgT) : Nat → RgT
  | 0 => S
  | c + 1 => rst g d (rgo g d many S c) c many
noncomputable def ringS (g d : Nat → Int) : RgT := rgo g d 4 (rgo g d 3 (rgo g d 2 (0, 0, 0, 1) 16) 64) 256
def inRg (S : RgT) : Prop := (0 ≤ S.2.2.1 ∧ S.2.2.1 ≤ 96059601) ∧ 0 ≤ S.2.2.2 ∧ S.2.2.2 ≤ 96059601
def RgM (M : Mem) (S : RgT) : Prop := M 34 0 = (S.1 : Int) ∧ M 34 1 = (S.2.1 : Int) ∧ M 34 2 = S.2.2.1 ∧ M 34 3 = S.2.2.2
theorem rst_no {g d : Nat → Int} {S : RgT} {code many : Nat} (h : ¬ isR code many) : rst g d S code many = S := by
  unfold rst
  rw [if_neg (fun z => h z.1)]
theorem rpl_lt {code many i : Nat} : rpl code many i < 16 := by
  have h1 := dg_lt (code := code) (many := many) (i := i)
  have h2 := dg_lt (code := code) (many := many) (i := (if i + 1 < many then i + 1 else 0))
  unfold rpl
  omega
theorem rst_in {g d : Nat → Int} {S : RgT} {code many : Nat} (hm : many ≤ 4) (hS : inRg S) (hr : ∀ k, k < 16 → (1 ≤ g k ∧ g k ≤ 99) ∧ 1 ≤ d k ∧ d k ≤ 99) : inRg (rst g d S code many) := by
  unfold rst
  split
  · have h1 := prodF_b4 (f := fun i => g (rpl code many i)) hm (fun i _ => (hr _ rpl_lt).1)
    have h2 := prodF_b4 (f := fun i => d (rpl code many i)) hm (fun i _ => (hr _ rpl_lt).2)
    exact ⟨⟨Int.le_trans (by decide) h1.1, h1.2⟩, Int.le_trans (by decide) h2.1, h2.2⟩
  · exact hS
theorem rgo_in {g d : Nat → Int} {S : RgT} {many : Nat} (hm : many ≤ 4) (hS : inRg S) (hr : ∀ k, k < 16 → (1 ≤ g k ∧ g k ≤ 99) ∧ 1 ≤ d k ∧ d k ≤ 99) : ∀ c, inRg (rgo g d many S c)
  | 0 => hS
  | c + 1 => rst_in hm (rgo_in hm hS hr c) hr
theorem roff_o {code many : Nat} {a b : Int} {o : Nat} (h : o ≠ 34) : roffM M code many a b o = M o := by
  funext j
  unfold roffM
  split
  · rw [up2_o h, up2_o h, up2_o h, up2_o h]
  · rfl
theorem roff_M {S : RgT} {g d : Nat → Int} {code many : Nat} (hM : RgM M S) (h : isR code many) : RgM (roffM M code many (prodF (fun i => g (rpl code many i)) many) (prodF (fun i => d (rpl code many i)) many)) (rst g d S code many) := by
  obtain ⟨h1, h2, h3, h4⟩ := hM
  unfold roffM rst
  rw [h3, h4]
  by_cases hq : S.2.2.1 * prodF (fun i => d (rpl code many i)) many < prodF (fun i => g (rpl code many i)) many * S.2.2.2
  · rw [if_pos hq, if_pos ⟨h, hq⟩]
    refine ⟨?_, ?_, ?_, ?_⟩
    · rw [up2_j (by decide), up2_j (by decide), up2_j (by decide), up2_eq]
    · rw [up2_j (by decide), up2_j (by decide), up2_eq]
    · rw [up2_j (by decide), up2_eq]
    · rw [up2_eq]
  · rw [if_neg hq, if_neg (fun z => hq z.2)]
    exact ⟨h1, h2, h3, h4⟩
theorem seekRing_n (hr : ∀ k, k < 16 → (1 ≤ M (oG 0) k ∧ M (oG 0) k ≤ 99) ∧ 1 ≤ M (oN 0) k ∧ M (oN 0) k ≤ 99) : Call X mX8_seekRing [vr 0] M (fun r M1 => r = none ∧ (∀ o, o ≠ 34 → M1 o = M o) ∧ RgM M1 (ringS (M (oG 0)) (M (oN 0)))) := by
  refine kX8_seekRing_0 rclear_n (on0 ?_)
  refine kX8_seekRing_7 ?_
  obtain ⟨g, hg⟩ : ∃ g, g = M (oG 0) := ⟨_, rfl⟩
  obtain ⟨d, hd⟩ : ∃ d, d = M (oN 0) := ⟨_, rfl⟩
  rw [← hg, ← hd] at hr
  rw [← hg, ← hd]
  -- all codes of one length
  have many_go : ∀ (many N : Nat) (S : RgT) (P : Option AV → Mem → Prop), N = 2 ^ (2 * many) → 2 ≤ many → many ≤ 4 → inRg S →
      (∀ M1 : Mem, (∀ o, o ≠ 34 → M1 o = M o) → RgM M1 (rgo g d many S N) → Runs X mX8_seekRing 9 [(0, vr 0), (1, vi ((many + 1 : Nat) : Int))] [] M1 P) →
      ∀ M1 : Mem, (∀ o, o ≠ 34 → M1 o = M o) → RgM M1 S → Runs X mX8_seekRing 9 [(0, vr 0), (1, vi (many : Int))] [] M1 P := by
    intro many N S P hN hm2 hm4 hS hout M1 hk hR
    have hNle : N ≤ 256 := by
      rw [hN]
      exact Nat.pow_le_pow_right (n := 2) (j := 8) (by decide) (by omega)
    refine kX8_seekRing_9 (fun h => by omega) (fun h => ?_)
    refine kX8_seekRing_14 ?_
    rw [show (2 : Int) * (many : Int) = ((2 * many : Nat) : Int) by omega, one_shl (by omega), ← hN]
    have go : ∀ c, c ≤ N → ∀ M2 : Mem, (∀ o, o ≠ 34 → M2 o = M o) → RgM M2 (rgo g d many S c) → Runs X mX8_seekRing 22 [(0, vr 0), (1, vi (many : Int)), (2, vi (N : Int)), (3, vi (c : Int))] [] M2 P := by
      refine up_loop (n := N) ?_ ?_
      · intro M2 g1 g2
        refine kX8_seekRing_22 (fun h => ?_) (fun h => by omega)
        refine kX8_seekRing_54 ?_
        rw [cast1]
        exact hout M2 g1 g2
      · intro c hc ih M2 g1 g2
        refine kX8_seekRing_22 (fun h => by omega) (fun h => ?_)
        refine kX8_seekRing_27 (isRing_n (by omega) hm4 (by omega)) ?_
        have hin := rgo_in (g := g) (d := d) hm4 hS hr c
        obtain ⟨b1, b2, b3, b4⟩ := id g2
        rintro z M3 ⟨rfl, ⟨hz, hR1⟩ | ⟨hz, hR1⟩⟩
        · cases hz
          refine kX8_seekRing_32 (fun h => by omega) (fun h => ?_)
          have eG : M3 (oG 0) = g := by rw [g1 _ (by decide), hg]
          have eN : M3 (oN 0) = d := by rw [g1 _ (by decide), hd]
          refine kX8_seekRing_35 (roffer_n (by decide) (by omega) hm4 (by rw [eG, eN]; exact hr) (by rw [b3, b4]; exact hin)) (on0 ?_)
          rw [eG, eN]
          refine kX8_seekRing_48 ?_
          rw [cast1]
          exact ih _ (fun o ho => by rw [roff_o ho]; exact g1 o ho) (roff_M g2 hR1)
        · cases hz
          refine kX8_seekRing_32 (fun h => ?_) (fun h => absurd rfl h)
          refine kX8_seekRing_48 ?_
          rw [cast1]
          refine ih _ g1 ?_
          show RgM M3 (rst g d (rgo g d many S c) c many)
          rw [rst_no hR1]
          exact g2
    exact go 0 (Nat.zero_le _) M1 hk hR
  have i0 : inRg (0, 0, 0, 1) := ⟨⟨by decide, by decide⟩, by decide, by decide⟩
  have i2 := rgo_in (g := g) (d := d) (many := 2) (by decide) i0 hr 16
  have i3 := rgo_in (g := g) (d := d) (many := 3) (by decide) i2 hr 64
  refine many_go 2 16 _ _ rfl (by decide) (by decide) i0 (many_go 3 64 _ _ rfl (by decide) (by decide) i2 (many_go 4 256 _ _ rfl (by decide) (by decide) i3 ?_)) _ (fun o ho => ?_) ⟨?_, ?_, ?_, ?_⟩
  · intro M1 g1 g2
    exact kX8_seekRing_9 (fun h => kX8_seekRing_60 ⟨rfl, g1, g2⟩) (fun h => absurd h (by decide))
  · funext j
    rw [up2_o ho, up2_o ho, up2_o ho, up2_o ho]
  · rw [up2_j (by decide), up2_j (by decide), up2_j (by decide), up2_eq]; rfl
  · rw [up2_j (by decide), up2_j (by decide), up2_eq]; rfl
  · rw [up2_j (by decide), up2_eq]
  · rw [up2_eq]
-- ===== parts read
/-- the tooth that is told at the place q comes, the n-th -/
def rdM (M : Mem) (n q : Nat) (B : Nat → Int) : Mem :=
  up2 (up2 (up2 (addM M 0 n (B (q + 1) - 48) (if B (q + 2) = 76 then 1 else 0) (B (q + 4) - 48)) (oC 0) (15 * n + 2) (B (q + 3) - 48)) (oC 0) (15 * n + 5) (B (q + 3) - 48)) (oC 0) (15 * n + 4) (if B q = 66 then 1 else 0)
theorem addM_o {t n o : Nat} {s l p : Int} (h1 : o ≠ oT t) (h2 : o ≠ oC t) : addM M t n s l p o = M o := by
  funext j
  unfold addM
  rw [up2_o h2, up2_o h2, up2_o h2, up2_o h2, up2_o h2, up2_o h2, up2_o h2, up2_o h2, up2_o h2, up2_o h1]
theorem bytF_eq {M M1 : Mem} (h : M1 2 = M 2) : bytF M1 = bytF M := by
  funext q
  unfold bytF
  rw [h]
theorem readTooth_n {n q : Nat} (hn : n < 10) (hM : M (oT 0) 1 = (n : Int)) (hq : q + 4 < 72) (hk : isT (bytF M q) = true) : Call X mX8_readPart [vr 0, vi (q : Int)] M (ret0 (rdM M n q (bytF M))) := by
  have h2 : ∀ t : Nat, (2 : Nat) ≠ oT t := fun t => by unfold oT; omega
  have h3 : ∀ t : Nat, (2 : Nat) ≠ oC t := fun t => by unfold oC; omega
  refine kX8_readPart_0 (byteAt_n (by omega)) (on ?_)
  refine kX8_readPart_8 tellsTooth_n (on ?_)
  refine kX8_readPart_13 (fun h => by rw [b2i_0.mp h] at hk; cases hk) (fun h => ?_)
  refine kX8_readPart_16 (by rw [cast1]; exact figureAt_n (by omega)) (on ?_)
  refine kX8_readPart_30 (by rw [show (q : Int) + 2 = ((q + 2 : Nat) : Int) by omega]; exact byteAt_n (by omega)) (on ?_)
  obtain ⟨l, hl⟩ : ∃ l : Int, l = if bytF M (q + 2) = 76 then 1 else 0 := ⟨_, rfl⟩
  have tail : Runs X mX8_readPart 50 [(0, vr 0), (1, vi (q : Int)), (2, vi (bytF M q))] [vi l, vi (bytF M (q + 1) - 48), vr (oT 0)] M (ret0 (rdM M n q (bytF M))) := by
    refine kX8_readPart_50 (by rw [show (q : Int) + 4 = ((q + 4 : Nat) : Int) by omega]; exact figureAt_n (by omega)) (on ?_)
    refine kX8_readPart_60 (add_n (by omega) hn hM) (on ?_)
    have e1 : bytF (addM M 0 n (bytF M (q + 1) - 48) l (bytF M (q + 4) - 48)) = bytF M := bytF_eq (addM_o (h2 _) (h3 _))
    refine kX8_readPart_63 (by rw [show (q : Int) + 3 = ((q + 3 : Nat) : Int) by omega]; exact figureAt_n (by omega)) (on ?_)
    rw [e1]
    refine kX8_readPart_80 (set_n (c := 2) (by omega) hn (by omega)) (on0 ?_)
    have e2 : bytF (up2 (addM M 0 n (bytF M (q + 1) - 48) l (bytF M (q + 4) - 48)) (oC 0) (15 * n + 2) (bytF M (q + 3) - 48)) = bytF M := by
      refine (bytF_eq ?_).trans e1
      funext j
      rw [up2_o (h3 _)]
    refine kX8_readPart_83 (by rw [show (q : Int) + 3 = ((q + 3 : Nat) : Int) by omega]; exact figureAt_n (by omega)) (on ?_)
    rw [e2]
    refine kX8_readPart_99 (set_n (c := 5) (by omega) hn (by omega)) (on0 ?_)
    refine kX8_readPart_102 (fun h5 => ?_) (fun h5 => ?_)
    · refine kX8_readPart_118 (kX8_readPart_119 (set_n (c := 4) (by omega) hn (by omega)) (on0 (kX8_readPart_122 (kX8_readPart_172 ⟨rfl, ?_⟩))))
      unfold rdM
      rw [if_neg h5, hl]
    · refine kX8_readPart_114 (kX8_readPart_119 (set_n (c := 4) (by omega) hn (by omega)) (on0 (kX8_readPart_122 (kX8_readPart_172 ⟨rfl, ?_⟩))))
      unfold rdM
      rw [if_pos h5, hl]
  refine kX8_readPart_40 (fun h5 => ?_) (fun h5 => ?_)
  · refine kX8_readPart_49 ?_
    rw [if_neg h5] at hl
    rw [← hl]
    exact tail
  · refine kX8_readPart_45 ?_
    rw [if_pos h5] at hl
    rw [← hl]
    exact tail
theorem readGood_n {g q : Nat} (hg : M 3 2 = (g : Int)) (hg4 : g < 4) (hq : q + 3 < 72) (hk : bytF M q = 71) : Call X mX8_readPart [vr 0, vi (q : Int)] M (ret0 (gaddM M g (10 * (bytF M (q + 1) - 48) + (bytF M (q + 2) - 48)) (bytF M (q + 3) - 48))) := by
  have b1 := bytF_in (M := M) (q := q + 1)
  have b2 := bytF_in (M := M) (q := q + 2)
  refine kX8_readPart_0 (byteAt_n (by omega)) (on ?_)
  refine kX8_readPart_8 tellsTooth_n (on ?_)
  refine kX8_readPart_13 (fun h => ?_) (fun h => by rw [hk] at h; exact absurd rfl h)
  refine kX8_readPart_125 (fun h2 => absurd hk h2) (fun h2 => ?_)
  refine kX8_readPart_131 (by rw [cast1]; exact figureAt_n (by omega)) (on ?_)
  refine kX8_readPart_147 (by rw [show (q : Int) + 2 = ((q + 2 : Nat) : Int) by omega]; exact figureAt_n (by omega)) (on ?_)
  refine kX8_readPart_158 (by rw [show (q : Int) + 3 = ((q + 3 : Nat) : Int) by omega]; exact figureAt_n (by omega)) (on ?_)
  exact kX8_readPart_169 (gadd_n hg hg4) (on0 (kX8_readPart_172 ⟨rfl, rfl⟩))
theorem readNone_n {q : Nat} (hq : q < 72) (hk : isT (bytF M q) = false) (hk2 : bytF M q ≠ 71) : Call X mX8_readPart [vr 0, vi (q : Int)] M (ret0 M) := by
  refine kX8_readPart_0 (byteAt_n (by omega)) (on ?_)
  refine kX8_readPart_8 tellsTooth_n (on ?_)
  refine kX8_readPart_13 (fun h => ?_) (fun h => by rw [hk] at h; exact absurd rfl h)
  exact kX8_readPart_125 (fun h2 => kX8_readPart_172 ⟨rfl, rfl⟩) (fun h2 => absurd h2 hk2)
end MO
