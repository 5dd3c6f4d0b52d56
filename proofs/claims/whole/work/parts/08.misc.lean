/-! ===== the JDK's own, the script ===== -/
section RX
variable {X : Scr} {m : MR} {pc : Nat} {loc : List (Nat × AV)} {st : List AV} {M : Mem} {P : Option AV → Mem → Prop}
theorem Runs.mmax {a b : Int} {index : Nat} (hd : decode m.2.1 pc = .ok (.invokestatic index, 3)) (hl : Cond.methodLink m.1.cls index Lib.Math.max.name ∈ TB) (hw : Cond.static Lib.Math.max.name ∈ TB ∧ Cond.initialized "java/lang/Math" ∈ TB ∧ Cond.code Lib.Math.max.name Lib.Math.max.code 2 (some .int) ∈ TB) (hf : 1 ≤ m.2.2.2.2.1 ∧ wds st + 13 ≤ m.2.2.2.2.2) (kk : Runs X m (pc + 3) loc (vi (max a b) :: st) M P) : Runs X m pc loc (vi b :: vi a :: st) M P := by
  refine Runs.lift (fun p l e R s mid args below meth c cells slots D cA ad A Q C w => ?_) kk
  intro hM hL hS ls H locs hlv hH
  obtain ⟨hx, hb, hml, hown, hts, hN, hK, hA, hR, hcs, -⟩ := C
  have hbi : inI b := wfS_h hS
  have hai : inI a := wfS_h (wfS_t hS)
  have k := w hM hL (wfS_c (v := vi (max a b)) (show inI (max a b) by unfold inI; omega) (wfS_t (wfS_t hS))) ls H locs hlv hH
  refine va_mmax hx hb (by rw [hml]; exact hlv.1.symm) (own := m.1.cls) hown (hts _ hl) (hts _ hw.1) (hts _ hw.2.1) (hts _ hw.2.2) (Nat.le_trans hf.1 hR.1) (by rw [cat_sum]; exact Nat.le_trans hf.2 hR.2) hcs.1 hcs.2 hd ?_
  have e : (if Int32.ofInt a < Int32.ofInt b then Int32.ofInt b else Int32.ofInt a) = Int32.ofInt (max a b) := by
    simp only [i32_lt hai hbi]
    split
    · congr 1; omega
    · congr 1; omega
  rw [e]; exact k
theorem Runs.mmin {a b : Int} {index : Nat} (hd : decode m.2.1 pc = .ok (.invokestatic index, 3)) (hl : Cond.methodLink m.1.cls index Lib.Math.min.name ∈ TB) (hw : Cond.static Lib.Math.min.name ∈ TB ∧ Cond.initialized "java/lang/Math" ∈ TB ∧ Cond.code Lib.Math.min.name Lib.Math.min.code 2 (some .int) ∈ TB) (hf : 1 ≤ m.2.2.2.2.1 ∧ wds st + 13 ≤ m.2.2.2.2.2) (kk : Runs X m (pc + 3) loc (vi (min a b) :: st) M P) : Runs X m pc loc (vi b :: vi a :: st) M P := by
  refine Runs.lift (fun p l e R s mid args below meth c cells slots D cA ad A Q C w => ?_) kk
  intro hM hL hS ls H locs hlv hH
  obtain ⟨hx, hb, hml, hown, hts, hN, hK, hA, hR, hcs, -⟩ := C
  have hbi : inI b := wfS_h hS
  have hai : inI a := wfS_h (wfS_t hS)
  have k := w hM hL (wfS_c (v := vi (min a b)) (show inI (min a b) by unfold inI; omega) (wfS_t (wfS_t hS))) ls H locs hlv hH
  refine va_mmin hx hb (by rw [hml]; exact hlv.1.symm) (own := m.1.cls) hown (hts _ hl) (hts _ hw.1) (hts _ hw.2.1) (hts _ hw.2.2) (Nat.le_trans hf.1 hR.1) (by rw [cat_sum]; exact Nat.le_trans hf.2 hR.2) hcs.1 hcs.2 hd ?_
  have e : (if Int32.ofInt b < Int32.ofInt a then Int32.ofInt b else Int32.ofInt a) = Int32.ofInt (min a b) := by
    simp only [i32_lt hbi hai]
    split
    · congr 1; omega
    · congr 1; omega
  rw [e]; exact k
/-- n places of the array o1 from sp on, written into the array o2 from dp on -/
def cpyM (M : Mem) (o1 sp o2 dp n : Nat) : Mem := fun o j => if o = o2 ∧ dp ≤ j ∧ j < dp + n then M o1 (sp + (j - dp)) else M o j
theorem cpyM_ne {M : Mem} {o1 sp o2 dp n : Nat} : ∀ o, o ≠ o2 → ∀ j, cpyM M o1 sp o2 dp n o j = M o j := fun o h j => by simp [cpyM, h]
theorem Runs.acopy {o1 o2 n1 n2 : Nat} {sp dp n : Int} {index : Nat} (hd : decode m.2.1 pc = .ok (.invokestatic index, 3)) (hl : Cond.methodLink m.1.cls index arraycopyName ∈ TB) (hw : Cond.native arraycopyName ∈ TB ∧ Cond.static arraycopyName ∈ TB ∧ Cond.initialized "java/lang/System" ∈ TB) (hf : 1 ≤ m.2.2.2.2.1 ∧ wds st + (nativeFrameWords "java/lang/System" "arraycopy" 5 + 11) ≤ m.2.2.2.2.2) (hk1 : kd o1 = some (.inr (.int, n1))) (hk2 : kd o2 = some (.inr (.int, n2))) (h1 : 0 ≤ sp) (h2 : 0 ≤ dp) (h3 : 0 ≤ n) (h4 : sp + n ≤ n1) (h5 : dp + n ≤ n2)
    (kk : Runs X m (pc + 3) loc st (cpyM M o1 sp.toNat o2 dp.toNat n.toNat) P) : Runs X m pc loc (vi n :: vi dp :: vr o2 :: vi sp :: vr o1 :: st) M P := by
  refine Runs.lift (fun p l e R s mid args below meth c cells slots D cA ad A Q C w => ?_) kk
  intro hM hL hS ls H locs hlv hH
  obtain ⟨hx, hb, hml, hown, hts, hN, hK, hA, hR, hcs, -⟩ := C
  have hni : inI n := wfS_h hS
  have hdi : inI dp := wfS_h (wfS_t hS)
  have hsi : inI sp := wfS_h (wfS_t (wfS_t (wfS_t hS)))
  have hrest : wfS st := wfS_t (wfS_t (wfS_t (wfS_t (wfS_t hS))))
  obtain ⟨q1, hq1⟩ := at_CO hk1
  have he1 := at_wsO (cA := cA) (ad := ad) (M := M) hq1
  rw [ent_a hk1, arP_i (Or.inl rfl)] at he1
  obtain ⟨q2, hq2⟩ := at_CO hk2
  have he2 := at_wsO (cA := cA) (ad := ad) (M := M) hq2
  rw [ent_a hk2, arP_i (Or.inl rfl)] at he2
  obtain ⟨t, ht⟩ := ty_at (cA := cA) (ty := .int) (Or.inr (Or.inl rfl))
  have hneg : ∀ {x : Int}, 0 ≤ x → inI x → ¬ Int32.ofInt x < 0 := fun h hi => by rw [i32_l0 hi]; omega
  refine va_copyi hx hb (by rw [hml]; exact hlv.1.symm) (own := m.1.cls) hown (hts _ hl) (hts _ hw.1) (hts _ hw.2.1) (hts _ hw.2.2) hK hH.1 hH.2.1 hH.2.2 q1 q2 t t he1 he2 ht ht rfl (hneg h1 hsi) (hneg h2 hdi) (hneg h3 hni) (by rw [cl_ix h1 hsi, cl_ix h3 hni]; omega) (by rw [cl_ix h2 hdi, cl_ix h3 hni]; omega) (fun i hi => rfl) (Nat.le_trans hf.1 hR.1) (by rw [cat_sum]; exact Nat.le_trans hf.2 hR.2) hd ?_
  rw [cl_ix h1 hsi, cl_ix h2 hdi, cl_ix h3 hni]
  have e : (Sum.inl (cA .int, n2, .inl (va_cpy (fun j => Int32.ofInt (M o1 j)) (fun j => Int32.ofInt (M o2 j)) sp.toNat dp.toNat n.toNat)) : va_E) = ent cA ad (cpyM M o1 sp.toNat o2 dp.toNat n.toNat) o2 := by
    rw [ent_a hk2, arP_i (Or.inl rfl)]
    congr 4
    funext j
    unfold va_cpy cpyM
    by_cases hj : dp.toNat ≤ j ∧ j < dp.toNat + n.toNat
    · rw [if_pos hj, if_pos ⟨rfl, hj⟩]
    · rw [if_neg hj, if_neg (fun z => hj z.2)]
  rw [e, set_wsO hq2 cpyM_ne]
  intro H1 locs1 hP1 hD1 hS1
  refine w ?_ hL hrest ls H1 locs1 hlv ⟨hP1, hD1, hS1⟩
  intro o j
  unfold cpyM
  split
  next h => rw [h.1, sty_a hk2]; have h9 := hM o1 (sp.toNat + (j - dp.toNat)); rw [sty_a hk1] at h9; exact h9
  next h => exact hM o j
-- ===== the script, in the law
theorem Runs.sld {i : Int} (hm : m.1 = yL_law) (hX : ∀ j, inI (X.2 j)) (hd : decode m.2.1 pc = .ok (.iaload, 1)) (h0 : 0 ≤ i) (h1 : i < X.1) (kk : Runs X m (pc + 1) loc (vi (X.2 i.toNat) :: st) M P) : Runs X m pc loc (vi i :: vr 999 :: st) M P := by
  refine Runs.lift (fun p l e R s mid args below meth c cells slots D cA ad A Q C w => ?_) kk
  intro hM hL hS ls H locs hlv hH
  obtain ⟨hx, hb, hml, hown, hts, hN, hK, hA, hR, hcs, hscr⟩ := C
  obtain ⟨s1, s2, s3⟩ := hscr hm
  have hi0 : inI i := wfS_h hS
  have k := w hM hL (wfS_c (v := vi (X.2 i.toNat)) (hX _) (wfS_t (wfS_t hS))) ls H locs hlv hH
  refine va_sld hx hb s1 s2 s3 hH.2.2 (in_ix h0 h1 hi0) hd ?_
  rw [cl_ix h0 hi0]
  exact k
theorem Runs.slen (hm : m.1 = yL_law) (hX : X.1 < 2147483648) (hd : decode m.2.1 pc = .ok (.arraylength, 1)) (kk : Runs X m (pc + 1) loc (vi (X.1 : Int) :: st) M P) : Runs X m pc loc (vr 999 :: st) M P := by
  refine Runs.lift (fun p l e R s mid args below meth c cells slots D cA ad A Q C w => ?_) kk
  intro hM hL hS ls H locs hlv hH
  obtain ⟨hx, hb, hml, hown, hts, hN, hK, hA, hR, hcs, hscr⟩ := C
  obtain ⟨s1, s2, s3⟩ := hscr hm
  have k := w hM hL (wfS_c (v := vi (X.1 : Int)) (show inI (X.1 : Int) from ⟨by omega, by omega⟩) (wfS_t hS)) ls H locs hlv hH
  refine va_slen hx hb s1 s2 s3 hH.2.2 hd ?_
  rw [← Int32.ofInt_eq_ofNat]
  exact k
end RX
