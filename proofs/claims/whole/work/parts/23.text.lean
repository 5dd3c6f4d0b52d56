/-! ===== Text: where it is no market ===== -/
theorem zand_255 {x : Int} (h : inI x) : zand x 255 = x % 256 := by
  unfold zand
  have e : Int32.ofInt x &&& Int32.ofInt 255 = nI ((Int32.ofInt x).toBitVec.toNat % 2 ^ 8) := pk_and (Int32.ofInt x) 8 (by decide)
  rw [e]
  have hl : (Int32.ofInt x).toBitVec.toNat % 2 ^ 8 < 2 ^ 31 := Nat.lt_of_lt_of_le (Nat.mod_lt _ (by decide)) (by decide)
  rw [nI_toInt hl]
  have h2 : ((Int32.ofInt x).toBitVec.toNat : Int) = x % 4294967296 := by
    show ((BitVec.ofInt 32 x).toNat : Int) = _
    rw [BitVec.toNat_ofInt]
    have : 0 ≤ x % ((2 ^ 32 : Nat) : Int) := Int.emod_nonneg _ (by decide)
    rw [Int.toNat_of_nonneg this]
    rfl
  omega
def b2i (b : Bool) : Int := if b then 1 else 0
theorem b2i_01 (b : Bool) : 0 ≤ b2i b ∧ b2i b ≤ 1 := by cases b <;> decide
theorem b2i_t {b : Bool} (h : b = true) : b2i b = 1 := by rw [h]; rfl
theorem b2i_f {b : Bool} (h : b = false) : b2i b = 0 := by rw [h]; rfl
theorem b2i_0 {b : Bool} : b2i b = 0 ↔ b = false := by cases b <;> decide
theorem b2i_1 {b : Bool} : b2i b ≠ 0 ↔ b = true := by cases b <;> decide
/-- a sign that tells a tooth -/
def isT (k : Int) : Bool := decide (k = 84) || decide (k = 66)
/-- how long a part is, its first sign told -/
def plen (k : Int) : Int := if k = 76 then 3 else if k = 84 ∨ k = 66 then 5 else if k = 71 then 4 else 1
def begins (k t g : Int) : Bool := (isT k && decide (t < 10)) || (decide (k = 71) && decide (g < 4))
def loF (B : Nat → Int) (kind step : Int) (q : Nat) : Int := if (kind = 76 ∧ step = 2) ∨ (isT kind = true ∧ step = 1) ∨ (kind = 71 ∧ step = 2 ∧ B (q - 1) = 48) then 1 else 0
def hiF (kind step : Int) : Int := if isT kind = true ∧ step = 4 then 3 else 9
/-- may this byte follow as the step-th of a part of this kind -/
def fol (B : Nat → Int) (kind step : Int) (q : Nat) : Bool := if isT kind = true ∧ step = 2 then (decide (B q = 76) || decide (B q = 82)) else (decide (loF B kind step q ≤ B q - 48) && decide (B q - 48 ≤ hiF kind step))
def nst (kind step : Int) : Int := if step + 1 < plen kind then step + 1 else 0
/-- the fault, read byte by byte: how many bytes are left, where, the part's kind, the step in it, the teeth and goods told -/
def autF (B : Nat → Int) (L : Nat) : Nat → Nat → Int → Int → Int → Int → Int
  | 0, _, _, step, _, _ => if 0 < L ∧ step = 0 then -9 else L
  | f + 1, q, kind, step, t, g =>
    if 0 < step then (if fol B kind step q then autF B L f (q + 1) kind (nst kind step) t g else q)
    else if (if q = 0 then decide (B q = 76) else begins (B q) t g) then autF B L f (q + 1) (B q) (nst (B q) step) (t + b2i (isT (B q))) (g + b2i (decide (B q = 71))) else q
theorem autF_0 {B : Nat → Int} {L q : Nat} {kind step t g : Int} : autF B L 0 q kind step t g = if 0 < L ∧ step = 0 then -9 else (L : Int) := rfl
theorem autF_f {B : Nat → Int} {L f q : Nat} {kind step t g : Int} (h : 0 < step) (h2 : fol B kind step q = true) : autF B L (f + 1) q kind step t g = autF B L f (q + 1) kind (nst kind step) t g := by
  rw [autF.eq_2, if_pos h, if_pos h2]
theorem autF_fn {B : Nat → Int} {L f q : Nat} {kind step t g : Int} (h : 0 < step) (h2 : fol B kind step q = false) : autF B L (f + 1) q kind step t g = q := by
  rw [autF.eq_2, if_pos h, if_neg (by rw [h2]; decide)]
def bgn (B : Nat → Int) (q : Nat) (t g : Int) : Bool := if q = 0 then decide (B q = 76) else begins (B q) t g
theorem autF_b {B : Nat → Int} {L f q : Nat} {kind step t g : Int} (h : step ≤ 0) (h2 : bgn B q t g = true) : autF B L (f + 1) q kind step t g = autF B L f (q + 1) (B q) (nst (B q) step) (t + b2i (isT (B q))) (g + b2i (decide (B q = 71))) := by
  have h3 : ¬ 0 < step := by omega
  unfold bgn at h2
  simp only [autF.eq_2, h3, h2, if_true, if_false]
theorem autF_bn {B : Nat → Int} {L f q : Nat} {kind step t g : Int} (h : step ≤ 0) (h2 : bgn B q t g = false) : autF B L (f + 1) q kind step t g = q := by
  have h3 : ¬ 0 < step := by omega
  unfold bgn at h2
  simp only [autF.eq_2, h3, h2, if_false]
  simp
/-- the text's bytes -/
def bytF (M : Mem) (q : Nat) : Int := M 2 q % 256
section TX
variable {X : Scr} {M : Mem}
theorem byteAt_n {q : Nat} (hq : q < 72) : Call X mX7_byteAt [vr 1, vi (q : Int)] M (retI (bytF M q) M) := by
  refine Runs.wf (fun hM _ _ => ?_)
  have h2 := hM 2 q
  have h3 : -128 ≤ M 2 q ∧ M 2 q ≤ 127 := h2
  refine kX7_byteAt_0 (fun h => by omega) (fun h => ?_)
  refine kX7_byteAt_4 (fun h => ?_) (fun h => by omega)
  refine kX7_byteAt_17 (kX7_byteAt_27 ?_)
  rw [show ((q : Int)).toNat = q by omega, zand_255 ⟨by omega, by omega⟩]
  exact ⟨rfl, rfl⟩
theorem bytF_in {q : Nat} : 0 ≤ bytF M q ∧ bytF M q ≤ 255 := by unfold bytF; omega
theorem figureAt_n {q : Nat} (hq : q < 72) : Call X mX7_figureAt [vr 1, vi (q : Int)] M (retI (bytF M q - 48) M) := by
  have := bytF_in (M := M) (q := q)
  exact kX7_figureAt_0 (byteAt_n hq) (on (kX7_figureAt_5 ⟨rfl, rfl⟩))
theorem tellsTooth_n {k : Int} : Call X mX7_tellsTooth [vi k] M (retI (b2i (isT k)) M) := by
  refine kX7_tellsTooth_0 (fun h => ?_) (fun h => ?_)
  · refine kX7_tellsTooth_12 (kX7_tellsTooth_17 ?_)
    rw [b2i_t (by simp [isT, h])]
    exact ⟨rfl, rfl⟩
  · refine kX7_tellsTooth_6 (fun h2 => ?_) (fun h2 => ?_)
    · refine kX7_tellsTooth_16 (kX7_tellsTooth_17 ?_)
      rw [b2i_f (by simp [isT, h, h2])]
      exact ⟨rfl, rfl⟩
    · refine kX7_tellsTooth_12 (kX7_tellsTooth_17 ?_)
      rw [b2i_t (by simp [isT, h2])]
      exact ⟨rfl, rfl⟩
theorem partLength_n {k : Int} : Call X mX7_partLength [vi k] M (retI (plen k) M) := by
  refine kX7_partLength_0 (fun h => ?_) (fun h => ?_) (fun h => ?_) (fun h => ?_) (fun h => ?_)
  · refine kX7_partLength_46 ?_
    rw [show plen k = 5 by rw [h]; rfl]; exact ⟨rfl, rfl⟩
  · refine kX7_partLength_48 ?_
    rw [show plen k = 4 by rw [h]; rfl]; exact ⟨rfl, rfl⟩
  · refine kX7_partLength_44 ?_
    rw [show plen k = 3 by rw [h]; rfl]; exact ⟨rfl, rfl⟩
  · refine kX7_partLength_46 ?_
    rw [show plen k = 5 by rw [h]; rfl]; exact ⟨rfl, rfl⟩
  · refine kX7_partLength_50 ?_
    rw [show plen k = 1 by unfold plen; rw [if_neg (by omega), if_neg (by omega), if_neg (by omega)]]; exact ⟨rfl, rfl⟩
theorem plen_in (k : Int) : 1 ≤ plen k ∧ plen k ≤ 5 := by
  unfold plen
  split
  · decide
  · split
    · decide
    · split <;> decide
theorem mayBegin_n {k t g : Int} : Call X mX7_mayBegin [vi k, vi t, vi g] M (retI (b2i (begins k t g)) M) := by
  have yes : begins k t g = true → Runs X mX7_mayBegin 24 [] [] M (retI (b2i (begins k t g)) M) := fun h => by
    refine kX7_mayBegin_24 (kX7_mayBegin_29 ?_)
    rw [b2i_t h]; exact ⟨rfl, rfl⟩
  have no : begins k t g = false → Runs X mX7_mayBegin 28 [] [] M (retI (b2i (begins k t g)) M) := fun h => by
    refine kX7_mayBegin_28 (kX7_mayBegin_29 ?_)
    rw [b2i_f h]; exact ⟨rfl, rfl⟩
  have rest : (isT k && decide (t < 10)) = false → Runs X mX7_mayBegin 13 [(0, vi k), (2, vi g)] [] M (retI (b2i (begins k t g)) M) := fun h => by
    refine kX7_mayBegin_13 (fun h2 => no (by unfold begins; rw [h]; simp [h2])) (fun h2 => ?_)
    exact kX7_mayBegin_19 (fun h3 => no (by unfold begins; rw [h]; simp; omega)) (fun h3 => yes (by unfold begins; simp [h2, h3]))
  refine kX7_mayBegin_0 tellsTooth_n (on ?_)
  refine kX7_mayBegin_4 (fun h => rest (by rw [b2i_0.mp h]; rfl)) (fun h => ?_)
  have ht := b2i_1.mp h
  exact kX7_mayBegin_7 (fun h2 => yes (by unfold begins; simp [ht, h2])) (fun h2 => rest (by rw [ht]; simp; omega))
theorem mayFollow_n {kind step : Int} {q : Nat} (hq : q < 72) (hq1 : 1 ≤ q) : Call X mX7_mayFollow [vr 1, vi kind, vi step, vi (q : Int)] M (retI (b2i (fol (bytF M) kind step q)) M) := by
  have hB := bytF_in (M := M) (q := q)
  refine kX7_mayFollow_0 (byteAt_n hq) (on ?_)
  refine kX7_mayFollow_5 (figureAt_n hq) (on ?_)
  refine kX7_mayFollow_12 tellsTooth_n (on ?_)
  -- the figures' bounds, when they are known
  have fin : ¬ (isT kind = true ∧ step = 2) → ∀ lo hi : Int, lo = loF (bytF M) kind step q → hi = hiF kind step → Runs X mX7_mayFollow 126 [(5, vi (bytF M q - 48)), (6, vi lo), (7, vi hi)] [] M (retI (b2i (fol (bytF M) kind step q)) M) := by
    intro hn lo hi h1 h2
    have e : fol (bytF M) kind step q = (decide (lo ≤ bytF M q - 48) && decide (bytF M q - 48 ≤ hi)) := by
      unfold fol
      rw [if_neg hn, h1, h2]
    rw [e]
    refine kX7_mayFollow_126 (fun h => ?_) (fun h => ?_)
    · refine kX7_mayFollow_144 (kX7_mayFollow_145 ?_)
      rw [b2i_f (by simp; omega)]; exact ⟨rfl, rfl⟩
    · refine kX7_mayFollow_133 (fun h3 => ?_) (fun h3 => ?_)
      · refine kX7_mayFollow_144 (kX7_mayFollow_145 ?_)
        rw [b2i_f (by simp; omega)]; exact ⟨rfl, rfl⟩
      · refine kX7_mayFollow_140 (kX7_mayFollow_145 ?_)
        rw [b2i_t (by simp; omega)]; exact ⟨rfl, rfl⟩
  have rest : ¬ (isT kind = true ∧ step = 2) → Runs X mX7_mayFollow 46 [(0, vr 1), (1, vi kind), (2, vi step), (3, vi (q : Int)), (5, vi (bytF M q - 48))] [] M (retI (b2i (fol (bytF M) kind step q)) M) := by
    intro hn
    -- least is 0: only the upper bound is open
    have up : loF (bytF M) kind step q = 0 → Runs X mX7_mayFollow 111 [(1, vi kind), (2, vi step), (5, vi (bytF M q - 48)), (6, vi (0 : Int)), (7, vi (9 : Int))] [] M (retI (b2i (fol (bytF M) kind step q)) M) := by
      intro hl
      refine kX7_mayFollow_111 tellsTooth_n (on ?_)
      refine kX7_mayFollow_115 (fun h => ?_) (fun h => ?_)
      · exact fin hn 0 9 hl.symm (by unfold hiF; rw [if_neg (fun z => by rw [b2i_0.mp h] at z; cases z.1)])
      · refine kX7_mayFollow_118 (fun h2 => ?_) (fun h2 => ?_)
        · exact fin hn 0 9 hl.symm (by unfold hiF; rw [if_neg (fun z => h2 z.2)])
        · exact kX7_mayFollow_123 (fin hn 0 3 hl.symm (by unfold hiF; rw [if_pos ⟨b2i_1.mp h, h2⟩]))
    have one : loF (bytF M) kind step q = 1 → hiF kind step = 9 → Runs X mX7_mayFollow 126 [(5, vi (bytF M q - 48)), (6, vi (1 : Int)), (7, vi (9 : Int))] [] M (retI (b2i (fol (bytF M) kind step q)) M) := fun h1 h2 => fin hn 1 9 h1.symm h2.symm
    have good : (isT kind = true → step ≠ 1) → (kind = 76 → step ≠ 2) → Runs X mX7_mayFollow 82 [(0, vr 1), (1, vi kind), (2, vi step), (3, vi (q : Int)), (5, vi (bytF M q - 48)), (6, vi (0 : Int)), (7, vi (9 : Int))] [] M (retI (b2i (fol (bytF M) kind step q)) M) := by
      intro hT hL
      refine kX7_mayFollow_82 (fun h => up ?_) (fun h => ?_)
      · unfold loF
        rw [if_neg]
        rintro (z | z | z)
        · exact hL z.1 z.2
        · exact hT z.1 z.2
        · exact h z.1
      · refine kX7_mayFollow_88 (fun h2 => up ?_) (fun h2 => ?_)
        · unfold loF
          rw [if_neg]
          rintro (z | z | z)
          · exact hL z.1 z.2
          · exact hT z.1 z.2
          · exact h2 z.2.1
        · refine kX7_mayFollow_93 (by rw [show (q : Int) - 1 = ((q - 1 : Nat) : Int) by omega]; exact byteAt_n (by omega)) (on ?_)
          refine kX7_mayFollow_100 (fun h3 => up ?_) (fun h3 => ?_)
          · unfold loF
            rw [if_neg]
            rintro (z | z | z)
            · exact hL z.1 z.2
            · exact hT z.1 z.2
            · exact h3 z.2.2
          · refine kX7_mayFollow_105 (one ?_ ?_)
            · unfold loF
              rw [if_pos (Or.inr (Or.inr ⟨h, h2, h3⟩))]
            · unfold hiF
              rw [if_neg (fun z => by omega)]
    have noT : kind = 76 → isT kind = false := fun h => by rw [h]; rfl
    have teeth : (kind = 76 → step ≠ 2) → Runs X mX7_mayFollow 64 [(0, vr 1), (1, vi kind), (2, vi step), (3, vi (q : Int)), (5, vi (bytF M q - 48)), (6, vi (0 : Int)), (7, vi (9 : Int))] [] M (retI (b2i (fol (bytF M) kind step q)) M) := by
      intro hL
      refine kX7_mayFollow_64 tellsTooth_n (on ?_)
      refine kX7_mayFollow_68 (fun h => good (fun z => by rw [b2i_0.mp h] at z; cases z) hL) (fun h => ?_)
      refine kX7_mayFollow_71 (fun h2 => good (fun _ => h2) hL) (fun h2 => ?_)
      refine kX7_mayFollow_76 (one ?_ ?_)
      · unfold loF
        rw [if_pos (Or.inr (Or.inl ⟨b2i_1.mp h, h2⟩))]
      · unfold hiF
        rw [if_neg (fun z => by omega)]
    refine kX7_mayFollow_46 (fun h => teeth (fun z => absurd z h)) (fun h => ?_)
    refine kX7_mayFollow_59 (fun h2 => ?_) (fun h2 => teeth (fun _ => h2))
    refine kX7_mayFollow_76 (one ?_ ?_)
    · unfold loF
      rw [if_pos (Or.inl ⟨h, h2⟩)]
    · unfold hiF
      rw [if_neg (fun z => by omega)]
  refine kX7_mayFollow_18 (fun h => rest (fun z => by rw [b2i_0.mp h] at z; cases z.1)) (fun h => ?_)
  refine kX7_mayFollow_21 (fun h2 => rest (fun z => h2 z.2)) (fun h2 => ?_)
  have e : fol (bytF M) kind step q = (decide (bytF M q = 76) || decide (bytF M q = 82)) := by
    unfold fol
    rw [if_pos ⟨b2i_1.mp h, h2⟩]
  rw [e]
  refine kX7_mayFollow_26 (fun h3 => ?_) (fun h3 => ?_)
  · refine kX7_mayFollow_40 (kX7_mayFollow_45 ?_)
    rw [b2i_t (by simp [h3])]; exact ⟨rfl, rfl⟩
  · refine kX7_mayFollow_33 (fun h4 => ?_) (fun h4 => ?_)
    · refine kX7_mayFollow_44 (kX7_mayFollow_45 ?_)
      rw [b2i_f (by simp [h3, h4])]; exact ⟨rfl, rfl⟩
    · refine kX7_mayFollow_40 (kX7_mayFollow_45 ?_)
      rw [b2i_t (by simp [h4])]; exact ⟨rfl, rfl⟩
theorem faultPlace_n {L : Nat} (hL : L ≤ 72) (hM : M 1 1 = (L : Int)) : Call X mX7_faultPlace [vr 1] M (retI (autF (bytF M) L L 0 0 0 0 0) M) := by
  obtain ⟨R, hR⟩ : ∃ R, R = autF (bytF M) L L 0 0 0 0 0 := ⟨_, rfl⟩
  rw [← hR]
  refine kX7_faultPlace_0 ?_
  have go : ∀ q, q ≤ L → ∀ kind step t g : Int, 0 ≤ step → step ≤ 5 → (0 < step → 1 ≤ q) → 0 ≤ t → t ≤ q → 0 ≤ g → g ≤ q → autF (bytF M) L (L - q) q kind step t g = R → Runs X mX7_faultPlace 12 [(0, vr 1), (1, vi kind), (2, vi step), (3, vi t), (4, vi g), (5, vi (q : Int))] [] M (retI R M) := by
    refine up_loop (n := L) ?_ ?_
    · intro kind step t g hs1 hs2 hs3 ht1 ht2 hg1 hg2 he
      rw [Nat.sub_self, autF_0] at he
      refine kX7_faultPlace_12 (fun h => ?_) (fun h => by omega)
      refine kX7_faultPlace_134 (fun h2 => ?_) (fun h2 => ?_)
      · refine kX7_faultPlace_150 (kX7_faultPlace_154 ?_)
        rw [if_neg (by omega)] at he
        exact ⟨by rw [← he, hM], rfl⟩
      · refine kX7_faultPlace_141 (fun h3 => ?_) (fun h3 => ?_)
        · refine kX7_faultPlace_150 (kX7_faultPlace_154 ?_)
          rw [if_neg (fun z => h3 z.2)] at he
          exact ⟨by rw [← he, hM], rfl⟩
        · refine kX7_faultPlace_145 (kX7_faultPlace_154 ?_)
          rw [if_pos ⟨by omega, h3⟩] at he
          exact ⟨by rw [← he], rfl⟩
    · intro q hq ih kind step t g hs1 hs2 hs3 ht1 ht2 hg1 hg2 he
      have hpl := plen_in kind
      rw [show L - q = (L - (q + 1)) + 1 by omega] at he
      refine kX7_faultPlace_12 (fun h => by omega) (fun h => ?_)
      refine kX7_faultPlace_21 (byteAt_n (by omega)) (on ?_)
      -- one byte taken: the step goes on
      have next : ∀ kind' t' g' : Int, 0 ≤ t' → t' ≤ q + 1 → 0 ≤ g' → g' ≤ q + 1 → autF (bytF M) L (L - (q + 1)) (q + 1) kind' (nst kind' step) t' g' = R → Runs X mX7_faultPlace 110 [(0, vr 1), (1, vi kind'), (2, vi step), (3, vi t'), (4, vi g'), (5, vi (q : Int))] [] M (retI R M) := by
        intro kind' t' g' h1 h2 h3 h4 he'
        have hpl' := plen_in kind'
        refine kX7_faultPlace_110 partLength_n (on ?_)
        refine kX7_faultPlace_117 (fun h5 => ?_) (fun h5 => ?_)
        · refine kX7_faultPlace_126 (kX7_faultPlace_127 ?_)
          rw [cast1]
          have e0 : nst kind' step = 0 := by unfold nst; rw [if_neg (by omega)]
          rw [e0] at he'
          exact ih kind' 0 t' g' (by decide) (by decide) (by omega) h1 (by omega) h3 (by omega) he'
        · refine kX7_faultPlace_120 (kX7_faultPlace_127 ?_)
          rw [cast1]
          have e0 : nst kind' step = step + 1 := by unfold nst; rw [if_pos (by omega)]
          rw [e0] at he'
          exact ih kind' (step + 1) t' g' (by omega) (by omega) (by omega) h1 (by omega) h3 (by omega) he'
      refine kX7_faultPlace_27 (fun h2 => ?_) (fun h2 => ?_)
      · have yes : bgn (bytF M) q t g = true → Runs X mX7_faultPlace 76 [(0, vr 1), (2, vi step), (3, vi t), (4, vi g), (5, vi (q : Int)), (6, vi (bytF M q))] [] M (retI R M) := by
          intro hb
          rw [autF_b h2 hb] at he
          have hb1 := b2i_01 (isT (bytF M q))
          have tail : ∀ d : Int, d = b2i (isT (bytF M q)) → Runs X mX7_faultPlace 92 [(0, vr 1), (1, vi (bytF M q)), (2, vi step), (4, vi g), (5, vi (q : Int))] [vi d, vi t] M (retI R M) := by
            intro d hd
            rw [← hd] at he
            refine kX7_faultPlace_92 (fun h5 => ?_) (fun h5 => ?_)
            · refine kX7_faultPlace_106 (kX7_faultPlace_107 ?_)
              rw [b2i_f (b := decide (bytF M q = 71)) (by simp [h5])] at he
              exact next _ _ _ (by omega) (by omega) (by omega) (by omega) he
            · refine kX7_faultPlace_102 (kX7_faultPlace_107 ?_)
              rw [b2i_t (b := decide (bytF M q = 71)) (by simp [h5])] at he
              exact next _ _ _ (by omega) (by omega) (by omega) (by omega) he
          refine kX7_faultPlace_76 tellsTooth_n (on ?_)
          refine kX7_faultPlace_84 (fun h5 => ?_) (fun h5 => ?_)
          · exact kX7_faultPlace_91 (tail 0 h5.symm)
          · exact kX7_faultPlace_87 (tail 1 (b2i_t (b2i_1.mp h5)).symm)
        have no : bgn (bytF M) q t g = false → R = q := by
          intro hb
          rw [autF_bn h2 hb] at he
          exact he.symm
        refine kX7_faultPlace_47 (fun h3 => ?_) (fun h3 => ?_)
        · refine kX7_faultPlace_62 mayBegin_n (on ?_)
          have e : bgn (bytF M) q t g = begins (bytF M q) t g := by unfold bgn; rw [if_neg (by omega)]
          rw [e] at yes no
          refine kX7_faultPlace_70 (fun h4 => ?_) (fun h4 => ?_)
          · exact yes (b2i_1.mp h4)
          · exact kX7_faultPlace_73 ⟨by rw [no (b2i_0.mp h4)], rfl⟩
        · have e : bgn (bytF M) q t g = decide (bytF M q = 76) := by unfold bgn; rw [if_pos (by omega)]
          rw [e] at yes no
          refine kX7_faultPlace_52 (fun h4 => ?_) (fun h4 => ?_)
          · exact yes (by simp [h4])
          · exact kX7_faultPlace_59 (kX7_faultPlace_73 ⟨by rw [no (by simp [h4])], rfl⟩)
      · refine kX7_faultPlace_33 (mayFollow_n (by omega) (hs3 h2)) (on ?_)
        refine kX7_faultPlace_41 (fun h4 => ?_) (fun h4 => ?_)
        · rw [autF_f h2 (b2i_1.mp h4)] at he
          exact next kind t g (by omega) (by omega) (by omega) (by omega) he
        · rw [autF_fn h2 (b2i_0.mp h4)] at he
          exact kX7_faultPlace_44 ⟨by rw [← he], rfl⟩
  exact go 0 (Nat.zero_le _) 0 0 0 0 (by decide) (by decide) (by decide) (by decide) (by decide) (by decide) (by decide) (by rw [Nat.sub_zero, hR])
end TX
