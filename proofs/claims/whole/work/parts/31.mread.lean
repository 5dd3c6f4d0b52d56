/-! ===== a text read: the parts, one behind the other ===== -/
def autA (B : Nat → Int) (L q : Nat) (kind step t g : Int) : Int := autF B L (L - q) q kind step t g
theorem aut_step {B : Nat → Int} {L q : Nat} {kind step t g : Int} (hq : q ≤ L) (hs : 0 < step) : autA B L q kind step t g = if q < L ∧ fol B kind step q = true then autA B L (q + 1) kind (nst kind step) t g else (q : Int) := by
  unfold autA
  by_cases h : q = L
  · subst h
    rw [Nat.sub_self, autF_0, if_neg (by omega), if_neg (by omega)]
  · rw [show L - q = (L - (q + 1)) + 1 by omega]
    cases hf : fol B kind step q with
    | true => rw [autF_f hs hf, if_pos ⟨by omega, rfl⟩]
    | false => rw [autF_fn hs hf, if_neg (by simp)]
theorem aut_beg {B : Nat → Int} {L q : Nat} {kind t g : Int} (hq : q < L) (h1 : 1 ≤ q) : autA B L q kind 0 t g = if begins (B q) t g = true then autA B L (q + 1) (B q) (nst (B q) 0) (t + b2i (isT (B q))) (g + b2i (decide (B q = 71))) else (q : Int) := by
  unfold autA
  have hb : bgn B q t g = begins (B q) t g := by unfold bgn; rw [if_neg (by omega)]
  rw [show L - q = (L - (q + 1)) + 1 by omega]
  cases hf : begins (B q) t g with
  | true => rw [autF_b (by decide) (by rw [hb, hf]), if_pos rfl]
  | false => rw [autF_bn (by decide) (by rw [hb, hf]), if_neg (by decide)]
theorem aut_end {B : Nat → Int} {L : Nat} {kind t g : Int} (h : 0 < L) : autA B L L kind 0 t g = -9 := by
  unfold autA
  rw [Nat.sub_self, autF_0, if_pos ⟨h, rfl⟩]
theorem isT_iff {k : Int} : isT k = true ↔ k = 84 ∨ k = 66 := by unfold isT; simp
theorem not_T {k : Int} (h : k ≠ 84) (h2 : k ≠ 66) : isT k = false := by unfold isT; simp [h, h2]
theorem plen_T {k : Int} (h : isT k = true) : plen k = 5 := by
  have := isT_iff.mp h
  unfold plen
  rw [if_neg (by omega), if_pos this]
theorem plen_G : plen 71 = 4 := rfl
theorem plen_L : plen 76 = 3 := rfl
theorem fol_n {B : Nat → Int} {kind step : Int} {q : Nat} {lo hi : Int} (h : ¬ (isT kind = true ∧ step = 2)) (h1 : loF B kind step q = lo) (h2 : hiF kind step = hi) : fol B kind step q = true ↔ lo ≤ B q - 48 ∧ B q - 48 ≤ hi := by
  unfold fol
  rw [if_neg h, h1, h2]
  simp
theorem fol_T1 {B : Nat → Int} {k : Int} {q : Nat} (h : isT k = true) : fol B k 1 q = true ↔ 1 ≤ B q - 48 ∧ B q - 48 ≤ 9 := fol_n (by omega) (by unfold loF; rw [if_pos (Or.inr (Or.inl ⟨h, rfl⟩))]) (by unfold hiF; rw [if_neg (by omega)])
theorem fol_T2 {B : Nat → Int} {k : Int} {q : Nat} (h : isT k = true) : fol B k 2 q = true ↔ B q = 76 ∨ B q = 82 := by
  unfold fol
  rw [if_pos ⟨h, rfl⟩]
  simp
theorem fol_T3 {B : Nat → Int} {k : Int} {q : Nat} (h : isT k = true) : fol B k 3 q = true ↔ 0 ≤ B q - 48 ∧ B q - 48 ≤ 9 := fol_n (by omega) (by unfold loF; rw [if_neg (by omega)]) (by unfold hiF; rw [if_neg (by omega)])
theorem fol_T4 {B : Nat → Int} {k : Int} {q : Nat} (h : isT k = true) : fol B k 4 q = true ↔ 0 ≤ B q - 48 ∧ B q - 48 ≤ 3 := fol_n (by omega) (by unfold loF; rw [if_neg (by omega)]) (by unfold hiF; rw [if_pos ⟨h, rfl⟩])
theorem T71 : ¬ isT 71 = true := by decide
theorem T76 : ¬ isT 76 = true := by decide
theorem fol_G1 {B : Nat → Int} {q : Nat} : fol B 71 1 q = true ↔ 0 ≤ B q - 48 ∧ B q - 48 ≤ 9 := fol_n (by decide) (by unfold loF; rw [if_neg (by simp [isT])]) (by decide)
theorem fol_G2 {B : Nat → Int} {q : Nat} : fol B 71 2 q = true ↔ (if B (q - 1) = 48 then 1 else 0) ≤ B q - 48 ∧ B q - 48 ≤ 9 := by
  refine fol_n (by decide) ?_ (by decide)
  unfold loF
  by_cases h : B (q - 1) = 48
  · rw [if_pos h, if_pos (Or.inr (Or.inr ⟨rfl, rfl, h⟩))]
  · rw [if_neg h, if_neg]
    have := T71
    omega
theorem fol_G3 {B : Nat → Int} {q : Nat} : fol B 71 3 q = true ↔ 0 ≤ B q - 48 ∧ B q - 48 ≤ 9 := fol_n (by decide) (by unfold loF; rw [if_neg (by simp [isT])]) (by decide)
theorem fol_L1 {B : Nat → Int} {q : Nat} : fol B 76 1 q = true ↔ 0 ≤ B q - 48 ∧ B q - 48 ≤ 9 := fol_n (by decide) (by unfold loF; rw [if_neg (by simp [isT])]) (by decide)
theorem fol_L2 {B : Nat → Int} {q : Nat} : fol B 76 2 q = true ↔ 1 ≤ B q - 48 ∧ B q - 48 ≤ 9 := fol_n (by decide) (by unfold loF; rw [if_pos (Or.inl ⟨rfl, rfl⟩)]) (by decide)
def tOK (B : Nat → Int) (q : Nat) : Prop := (1 ≤ B (q + 1) - 48 ∧ B (q + 1) - 48 ≤ 9) ∧ (B (q + 2) = 76 ∨ B (q + 2) = 82) ∧ (0 ≤ B (q + 3) - 48 ∧ B (q + 3) - 48 ≤ 9) ∧ (0 ≤ B (q + 4) - 48 ∧ B (q + 4) - 48 ≤ 3)
def gOK (B : Nat → Int) (q : Nat) : Prop := (0 ≤ B (q + 1) - 48 ∧ B (q + 1) - 48 ≤ 9) ∧ ((if B (q + 1) = 48 then 1 else 0) ≤ B (q + 2) - 48 ∧ B (q + 2) - 48 ≤ 9) ∧ (0 ≤ B (q + 3) - 48 ∧ B (q + 3) - 48 ≤ 9)
theorem nst_T {k : Int} (h : isT k = true) {s : Int} (hs : s < 4) : nst k s = s + 1 := by unfold nst; rw [plen_T h, if_pos (by omega)]
theorem nst_T4 {k : Int} (h : isT k = true) : nst k 4 = 0 := by unfold nst; rw [plen_T h, if_neg (by omega)]
theorem nst_G {s : Int} (hs : s < 3) : nst 71 s = s + 1 := by unfold nst; rw [plen_G, if_pos (by omega)]
theorem nst_G3 : nst 71 3 = 0 := rfl
/-- a part, where all is well -/
theorem part_ok {B : Nat → Int} {L q : Nat} {kind t g : Int} (hq : q < L) (h1 : 1 ≤ q) (h : autA B L q kind 0 t g = -9) :
    (isT (B q) = true ∧ t < 10 ∧ tOK B q ∧ q + 5 ≤ L ∧ autA B L (q + 5) (B q) 0 (t + 1) g = -9) ∨ (B q = 71 ∧ g < 4 ∧ gOK B q ∧ q + 4 ≤ L ∧ autA B L (q + 4) (B q) 0 t (g + 1) = -9) := by
  rw [aut_beg hq h1] at h
  split at h
  · rename_i hb
    unfold begins at hb
    simp only [Bool.or_eq_true, Bool.and_eq_true, decide_eq_true_eq] at hb
    rcases hb with ⟨b1, b2⟩ | ⟨b1, b2⟩
    · left
      have h71 : B q ≠ 71 := fun z => by rw [z] at b1; exact T71 b1
      rw [b2i_t b1, b2i_f (by simp [h71]), nst_T b1 (by decide), aut_step (by omega) (by decide)] at h
      split at h
      · rename_i c1
        rw [show (0 : Int) + 1 = 1 from rfl, nst_T b1 (by decide), aut_step (by omega) (by decide)] at h
        split at h
        · rename_i c2
          rw [show (1 : Int) + 1 = 2 from rfl, nst_T b1 (by decide), aut_step (by omega) (by decide)] at h
          split at h
          · rename_i c3
            rw [show (2 : Int) + 1 = 3 from rfl, nst_T b1 (by decide), aut_step (by omega) (by decide)] at h
            split at h
            · rename_i c4
              rw [show (3 : Int) + 1 = 4 from rfl, nst_T4 b1, Int.add_zero] at h
              exact ⟨b1, b2, ⟨(fol_T1 b1).mp c1.2, (fol_T2 b1).mp c2.2, (fol_T3 b1).mp c3.2, (fol_T4 b1).mp c4.2⟩, by omega, h⟩
            · omega
          · omega
        · omega
      · omega
    · right
      rw [b1, b2i_f (by decide), b2i_t (by decide), nst_G (by decide), aut_step (by omega) (by decide)] at h
      split at h
      · rename_i c1
        rw [show (0 : Int) + 1 = 1 from rfl, nst_G (by decide), aut_step (by omega) (by decide)] at h
        split at h
        · rename_i c2
          rw [show (1 : Int) + 1 = 2 from rfl, nst_G (by decide), aut_step (by omega) (by decide)] at h
          split at h
          · rename_i c3
            rw [show (2 : Int) + 1 = 3 from rfl, nst_G3, Int.add_zero] at h
            refine ⟨b1, b2, ⟨fol_G1.mp c1.2, ?_, fol_G3.mp c3.2⟩, by omega, by rw [b1]; exact h⟩
            have := fol_G2.mp c2.2
            exact this
          · omega
        · omega
      · omega
  · omega
theorem autF_congr {B B' : Nat → Int} {L : Nat} (h : ∀ q, q < L → B q = B' q) : ∀ (f q : Nat) (kind step t g : Int), q + f ≤ L → autF B L f q kind step t g = autF B' L f q kind step t g
  | 0, q, kind, step, t, g, _ => rfl
  | f + 1, q, kind, step, t, g, hq => by
    have e := h q (by omega)
    have e1 := h (q - 1) (by omega)
    have ef : fol B kind step q = fol B' kind step q := by unfold fol loF; rw [e, e1]
    have hb : bgn B q t g = bgn B' q t g := by unfold bgn; rw [e]
    by_cases hs : 0 < step
    · cases hf : fol B kind step q with
      | true => rw [autF_f hs hf, autF_f hs (by rw [← ef, hf])]; exact autF_congr h f (q + 1) _ _ _ _ (by omega)
      | false => rw [autF_fn hs hf, autF_fn hs (by rw [← ef, hf])]
    · cases hf : bgn B q t g with
      | true => rw [autF_b (by omega) hf, autF_b (by omega) (by rw [← hb, hf]), e]; exact autF_congr h f (q + 1) _ _ _ _ (by omega)
      | false => rw [autF_bn (by omega) hf, autF_bn (by omega) (by rw [← hb, hf])]
-- ===== where the parts begin, how many teeth and goods are ahead
def pos (B : Nat → Int) : Nat → Nat
  | 0 => 3
  | m + 1 => pos B m + (plen (B (pos B m))).toNat
def tcn (B : Nat → Int) : Nat → Nat
  | 0 => 0
  | m + 1 => tcn B m + (if isT (B (pos B m)) = true then 1 else 0)
def gcn (B : Nat → Int) : Nat → Nat
  | 0 => 0
  | m + 1 => gcn B m + (if B (pos B m) = 71 then 1 else 0)
theorem pos_lt {B : Nat → Int} {m : Nat} : pos B m < pos B (m + 1) := by
  have := plen_in (B (pos B m))
  show pos B m < pos B m + (plen (B (pos B m))).toNat
  omega
theorem pos_mono {B : Nat → Int} {m i : Nat} (h : i ≤ m) : pos B i ≤ pos B m := by
  induction m with
  | zero => rw [show i = 0 by omega]; exact Nat.le_refl _
  | succ m ih =>
    by_cases hq : i = m + 1
    · rw [hq]; exact Nat.le_refl _
    · exact Nat.le_trans (ih (by omega)) (Nat.le_of_lt pos_lt)
theorem pos_ge {B : Nat → Int} {m : Nat} : 3 ≤ pos B m := pos_mono (Nat.zero_le m)
theorem pos_inj {B : Nat → Int} {m k : Nat} (h : pos B m = pos B k) : m = k := by
  rcases Nat.lt_trichotomy m k with q | q | q
  · have h1 := pos_lt (B := B) (m := m)
    have h2 := pos_mono (B := B) (show m + 1 ≤ k by omega)
    omega
  · exact q
  · have h1 := pos_lt (B := B) (m := k)
    have h2 := pos_mono (B := B) (show k + 1 ≤ m by omega)
    omega
theorem tcn_mono {B : Nat → Int} {m i : Nat} (h : i ≤ m) : tcn B i ≤ tcn B m := by
  induction m with
  | zero => rw [show i = 0 by omega]; exact Nat.le_refl _
  | succ m ih =>
    by_cases hq : i = m + 1
    · rw [hq]; exact Nat.le_refl _
    · exact Nat.le_trans (ih (by omega)) (Nat.le_add_right _ _)
theorem gcn_mono {B : Nat → Int} {m i : Nat} (h : i ≤ m) : gcn B i ≤ gcn B m := by
  induction m with
  | zero => rw [show i = 0 by omega]; exact Nat.le_refl _
  | succ m ih =>
    by_cases hq : i = m + 1
    · rw [hq]; exact Nat.le_refl _
    · exact Nat.le_trans (ih (by omega)) (Nat.le_add_right _ _)
theorem tcn_lt {B : Nat → Int} {m i : Nat} (h : i < m) (hT : isT (B (pos B i)) = true) : tcn B i < tcn B m := by
  have h1 := tcn_mono (B := B) (show i + 1 ≤ m by omega)
  have h2 : tcn B (i + 1) = tcn B i + (if isT (B (pos B i)) = true then 1 else 0) := rfl
  rw [if_pos hT] at h2
  omega
theorem gcn_lt {B : Nat → Int} {m i : Nat} (h : i < m) (hT : B (pos B i) = 71) : gcn B i < gcn B m := by
  have h1 := gcn_mono (B := B) (show i + 1 ≤ m by omega)
  have h2 : gcn B (i + 1) = gcn B i + (if B (pos B i) = 71 then 1 else 0) := rfl
  rw [if_pos hT] at h2
  omega
theorem tcn_sur {B : Nat → Int} {t : Nat} : ∀ {m : Nat}, t < tcn B m → ∃ i, i < m ∧ isT (B (pos B i)) = true ∧ tcn B i = t
  | 0, h => by unfold tcn at h; omega
  | m + 1, h => by
    by_cases hq : t < tcn B m
    · obtain ⟨i, h1, h2⟩ := tcn_sur hq
      exact ⟨i, by omega, h2⟩
    · have h2 : tcn B (m + 1) = tcn B m + (if isT (B (pos B m)) = true then 1 else 0) := rfl
      by_cases hT : isT (B (pos B m)) = true
      · rw [if_pos hT] at h2
        exact ⟨m, by omega, hT, by omega⟩
      · rw [if_neg hT] at h2
        omega
theorem gcn_sur {B : Nat → Int} {t : Nat} : ∀ {m : Nat}, t < gcn B m → ∃ i, i < m ∧ B (pos B i) = 71 ∧ gcn B i = t
  | 0, h => by unfold gcn at h; omega
  | m + 1, h => by
    by_cases hq : t < gcn B m
    · obtain ⟨i, h1, h2⟩ := gcn_sur hq
      exact ⟨i, by omega, h2⟩
    · have h2 : gcn B (m + 1) = gcn B m + (if B (pos B m) = 71 then 1 else 0) := rfl
      by_cases hT : B (pos B m) = 71
      · rw [if_pos hT] at h2
        exact ⟨m, by omega, hT, by omega⟩
      · rw [if_neg hT] at h2
        omega
def tIs (B : Nat → Int) (q : Nat) (s l w p f : Int) : Prop := s = B (q + 1) - 48 ∧ l = (if B (q + 2) = 76 then 1 else 0) ∧ w = B (q + 3) - 48 ∧ p = B (q + 4) - 48 ∧ f = (if B q = 66 then 1 else 0)
def gIs (B : Nat → Int) (q : Nat) (p u : Int) : Prop := p = 10 * (B (q + 1) - 48) + (B (q + 2) - 48) ∧ u = B (q + 3) - 48
def pOK (B : Nat → Int) (m : Nat) : Prop := ∀ i, i < m → (isT (B (pos B i)) = true ∧ tOK B (pos B i)) ∨ (B (pos B i) = 71 ∧ gOK B (pos B i))
def RdT (B : Nat → Int) (m : Nat) (s l w p f : Nat → Int) : Prop := ∀ i, i < m → isT (B (pos B i)) = true → tIs B (pos B i) (s (tcn B i)) (l (tcn B i)) (w (tcn B i)) (p (tcn B i)) (f (tcn B i))
def RdG (B : Nat → Int) (m : Nat) (p u : Nat → Int) : Prop := ∀ i, i < m → B (pos B i) = 71 → gIs B (pos B i) (p (gcn B i)) (u (gcn B i))
theorem pos_T {B : Nat → Int} {m : Nat} (h : isT (B (pos B m)) = true) : pos B (m + 1) = pos B m + 5 ∧ tcn B (m + 1) = tcn B m + 1 ∧ gcn B (m + 1) = gcn B m := by
  have h71 : B (pos B m) ≠ 71 := fun z => by rw [z] at h; exact T71 h
  refine ⟨?_, ?_, ?_⟩
  · show pos B m + (plen (B (pos B m))).toNat = _
    rw [plen_T h]; rfl
  · show tcn B m + (if isT (B (pos B m)) = true then 1 else 0) = _
    rw [if_pos h]
  · show gcn B m + (if B (pos B m) = 71 then 1 else 0) = _
    rw [if_neg h71]; rfl
theorem pos_G {B : Nat → Int} {m : Nat} (h : B (pos B m) = 71) : pos B (m + 1) = pos B m + 4 ∧ tcn B (m + 1) = tcn B m ∧ gcn B (m + 1) = gcn B m + 1 := by
  refine ⟨?_, ?_, ?_⟩
  · show pos B m + (plen (B (pos B m))).toNat = _
    rw [h]; rfl
  · show tcn B m + (if isT (B (pos B m)) = true then 1 else 0) = _
    rw [h]; rfl
  · show gcn B m + (if B (pos B m) = 71 then 1 else 0) = _
    rw [if_pos h]
theorem RdT_T {B : Nat → Int} {m : Nat} {s l w p f s' l' w' p' f' : Nat → Int} (h : RdT B m s l w p f) (ho : ∀ t, t < tcn B m → s' t = s t ∧ l' t = l t ∧ w' t = w t ∧ p' t = p t ∧ f' t = f t) (hn : isT (B (pos B m)) = true → tIs B (pos B m) (s' (tcn B m)) (l' (tcn B m)) (w' (tcn B m)) (p' (tcn B m)) (f' (tcn B m))) : RdT B (m + 1) s' l' w' p' f' := by
  intro i hi hT
  by_cases hq : i = m
  · subst hq
    exact hn hT
  · obtain ⟨e1, e2, e3, e4, e5⟩ := ho (tcn B i) (tcn_lt (by omega) hT)
    rw [e1, e2, e3, e4, e5]
    exact h i (by omega) hT
theorem RdG_G {B : Nat → Int} {m : Nat} {p u p' u' : Nat → Int} (h : RdG B m p u) (ho : ∀ t, t < gcn B m → p' t = p t ∧ u' t = u t) (hn : B (pos B m) = 71 → gIs B (pos B m) (p' (gcn B m)) (u' (gcn B m))) : RdG B (m + 1) p' u' := by
  intro i hi hT
  by_cases hq : i = m
  · subst hq
    exact hn hT
  · obtain ⟨e1, e2⟩ := ho (gcn B i) (gcn_lt (by omega) hT)
    rw [e1, e2]
    exact h i (by omega) hT
theorem pOK_S {B : Nat → Int} {m : Nat} (h : pOK B m) (hn : (isT (B (pos B m)) = true ∧ tOK B (pos B m)) ∨ (B (pos B m) = 71 ∧ gOK B (pos B m))) : pOK B (m + 1) := all_S.mpr ⟨h, hn⟩
