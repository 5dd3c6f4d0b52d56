/-! ===== fields and arrays ===== -/
theorem ent_o {cA : FieldType → ClassId} {ad : Nat → Nat} {M : Mem} {o ci : Nat} (h : kd o = some (.inl ci)) : ent cA ad M o = .inr (ci, fdV ad M o ci) := by unfold ent; rw [h]
theorem ent_a {cA : FieldType → ClassId} {ad : Nat → Nat} {M : Mem} {o n : Nat} {ty : FieldType} (h : kd o = some (.inr (ty, n))) : ent cA ad M o = .inl (cA ty, n, arP ad M o ty) := by unfold ent; rw [h]
theorem fdV_at {ad : Nat → Nat} {M : Mem} {o ci j : Nat} (h : j < nFd ci) : (fdV ad M o ci)[j]? = some (cS ad (ftC ci j) (rfs o j) (M o j)) := by
  unfold fdV
  rw [List.getElem?_map, List.getElem?_range h]
  rfl
theorem fdV_len {ad : Nat → Nat} {M : Mem} {o ci : Nat} : (fdV ad M o ci).length = nFd ci := by unfold fdV; rw [List.length_map, List.length_range]
theorem fdV_set {ad : Nat → Nat} {M : Mem} {o ci j : Nat} {z : Int} (h : j < nFd ci) : (fdV ad M o ci).set j (cS ad (ftC ci j) (rfs o j) z) = fdV ad (up2 M o j z) o ci := by
  apply List.ext_getElem?
  intro k
  by_cases hk : k = j
  · subst hk
    rw [List.getElem?_set_self (by rw [fdV_len]; exact h), fdV_at h, up2_s]
  · rw [List.getElem?_set_ne (Ne.symm hk)]
    by_cases hl : k < nFd ci
    · rw [fdV_at hl, fdV_at hl]
      simp [up2, hk]
    · rw [List.getElem?_eq_none (by rw [fdV_len]; omega), List.getElem?_eq_none (by rw [fdV_len]; omega)]
theorem up2_ne {M : Mem} {o j : Nat} {z : Int} : ∀ o', o' ≠ o → ∀ k, up2 M o j z o' k = M o' k := fun o' h k => by simp [up2, h]
theorem wfM_up {M : Mem} {o j : Nat} {z : Int} (h : wfM M) (hz : inT (sty o j) z) : wfM (up2 M o j z) := by
  intro o' j'
  unfold up2
  split
  next q => rw [q.1, q.2]; exact hz
  next q => exact h o' j'
/-- a class of the world, by its place: its fields' names, and that the tables have its words -/
def clsOK (ci : Nat) (C : String) (T : u_T) (N : Nat) : Prop := vwCl[ci]? = some (C, T, N) ∧ (∀ w ∈ u_ws C T N, w ∈ TB) ∧ (∀ k, k < N → parseFieldDescriptor (T k).2.2.1 = some (ftC ci k)) ∧ (∀ a, a < N → ∀ b, b < N → a ≠ b → (T a).2.1 ≠ (T b).2.1)
theorem nFd_of {ci N : Nat} {C : String} {T : u_T} (h : clsOK ci C T N) : nFd ci = N := by unfold nFd; rw [h.1]
def plainT (ty : FieldType) : Bool := match ty with
  | .int => true
  | .boolean => true
  | .byte => true
  | .long => true
  | _ => false
theorem cS_int {ad : Nat → Nat} {ty : FieldType} {r : Option Nat} {z : Int} (h : ty = .int ∨ ty = .boolean ∨ ty = .byte) : cS ad ty r z = .int (Int32.ofInt z) := by rcases h with rfl | rfl | rfl <;> rfl
theorem nar_b {z : Int} (h : 0 ≤ z ∧ z ≤ 1) : Int32.ofInt z &&& 1 = Int32.ofInt z := by
  rcases (show z = 0 ∨ z = 1 by omega) with rfl | rfl <;> rfl
theorem nar_y {z : Int} (h : -128 ≤ z ∧ z ≤ 127) : (Int32.ofInt z).toInt8.toInt32 = Int32.ofInt z := by
  apply Int32.toInt_inj.mp
  rw [Int8.toInt_toInt32, Int32.toInt_toInt8, i32_t ⟨by omega, by omega⟩]
  exact Int.bmod_eq_of_le (by omega) (by omega)
theorem nar_ok {ad : Nat → Nat} {ty : FieldType} {r : Option Nat} {z : Int} (hp : plainT ty = true) (hz : inT ty z) : narrow ty (cS ad ty r z) = cS ad ty r z ∧ fits ty (cS ad ty r z) = true := by
  cases ty <;> first | (cases hp; done) | skip
  · refine ⟨?_, ?_⟩
    · show Value.int _ = Value.int _
      rw [nar_y hz]
    · show (decide ((-128 : Int32) ≤ Int32.ofInt z) && decide (Int32.ofInt z ≤ 127)) = true
      have h1 : inI z := ⟨by have := hz.1; omega, by have := hz.2; omega⟩
      have h2 : (-128 : Int32) ≤ Int32.ofInt z := by
        rw [show (-128 : Int32) = Int32.ofInt (-128) from rfl, i32_le (by decide) h1]; exact hz.1
      have h3 : Int32.ofInt z ≤ (127 : Int32) := by
        rw [show (127 : Int32) = Int32.ofInt 127 from rfl, i32_le h1 (by decide)]; exact hz.2
      simp [h2, h3]
  · exact ⟨rfl, rfl⟩
  · exact ⟨rfl, rfl⟩
  · refine ⟨?_, ?_⟩
    · show Value.int _ = Value.int _
      rw [nar_b hz]
    · rcases (show z = 0 ∨ z = 1 by have := hz.1; have := hz.2; omega) with rfl | rfl <;> rfl
section RH
variable {X : Scr} {m : MR} {pc pc' : Nat} {loc loc' : List (Nat × AV)} {st st' : List AV} {M M' : Mem} {P : Option AV → Mem → Prop}
theorem inI_of {ty : FieldType} {z : Int} (h : ty = .int ∨ ty = .boolean ∨ ty = .byte) (hz : inT ty z) : inI z := by
  rcases h with rfl | rfl | rfl
  · exact hz
  · exact ⟨by have := hz.1; omega, by have := hz.2; omega⟩
  · exact ⟨by have := hz.1; omega, by have := hz.2; omega⟩
/-- how a field is linked: as one's own, or as a nest mate's -/
def FL (own : String) (index : Nat) (C n d : String) : Prop := (Cond.fieldLink own index C n d ∈ TB) ∨ ∃ host, Cond.fieldLinkNest own index C n d host ∈ tables_1
theorem Runs.getf {o ci j index : Nat} {C : String} {T : u_T} {N : Nat} {v : AV} (hd : decode m.2.1 pc = .ok (.getfield index, 3)) (hk : kd o = some (.inl ci)) (hc : clsOK ci C T N) (hj : j < N) (hT : (T j).1 = C) (hl : FL m.1.cls index C (T j).2.1 (T j).2.2.1) (hv : ∀ (ad : Nat → Nat), cS ad (ftC ci j) (rfs o j) (M o j) = cV ad v) (hw : wfM M → wfV v) (kk : Runs X m (pc + 3) loc (v :: st) M P) : Runs X m pc loc (vr o :: st) M P := by
  refine Runs.lift (fun p l e R s mid args below meth c cells slots D cA ad A Q C0 w => ?_) kk
  intro hM hL hS ls H locs hlv hH
  have hz := w hM hL (wfS_c (hw hM) (wfS_t hS)) ls H locs hlv hH
  obtain ⟨i, hi⟩ := at_CO hk
  have he := at_wsO (cA := cA) (ad := ad) (M := M) hi
  rw [ent_o hk] at he
  have hf : (fdV ad M o ci)[j]? = some (cV ad v) := by rw [fdV_at (by rw [nFd_of hc]; exact hj), hv ad]
  rcases hl with hl | ⟨host, hl⟩
  · exact va_get C0.1 C0.2.1 (own := m.1.cls) (ref := C) C0.2.2.2.2.1 hc.2.1 C0.2.2.2.1 C0.2.2.2.2.2.2.1 hH.1 i he hc.1 j hj (C0.2.2.2.2.1 _ hl) (fun x hx => by rw [hT] at hx; exact hx) hf hd hz
  · exact va_getN C0.1 C0.2.1 (own := m.1.cls) (ref := C) (host := host) C0.2.2.2.2.1 hc.2.1 C0.2.2.2.1 C0.2.2.2.2.2.2.1 hH.1 i he hc.1 j hj (va_Nw.use rfl (C0.2.2.2.2.2.1 _ hl rfl)) (fun x hx => by rw [hT] at hx; exact hx) hf hd hz
theorem Runs.geti {o ci j index : Nat} {C : String} {T : u_T} {N : Nat} (hd : decode m.2.1 pc = .ok (.getfield index, 3)) (hk : kd o = some (.inl ci)) (hc : clsOK ci C T N) (hj : j < N) (hT : (T j).1 = C) (hl : FL m.1.cls index C (T j).2.1 (T j).2.2.1) (hy : ftC ci j = .int ∨ ftC ci j = .boolean ∨ ftC ci j = .byte) (kk : Runs X m (pc + 3) loc (vi (M o j) :: st) M P) : Runs X m pc loc (vr o :: st) M P :=
  Runs.getf hd hk hc hj hT hl (v := vi (M o j)) (fun ad => cS_int hy) (fun hM => inI_of hy (by have h := hM o j; unfold sty at h; rw [hk] at h; exact h)) kk
theorem Runs.getl {o ci j index : Nat} {C : String} {T : u_T} {N : Nat} (hd : decode m.2.1 pc = .ok (.getfield index, 3)) (hk : kd o = some (.inl ci)) (hc : clsOK ci C T N) (hj : j < N) (hT : (T j).1 = C) (hl : FL m.1.cls index C (T j).2.1 (T j).2.2.1) (hy : ftC ci j = .long) (kk : Runs X m (pc + 3) loc (vl (M o j) :: st) M P) : Runs X m pc loc (vr o :: st) M P :=
  Runs.getf hd hk hc hj hT hl (v := vl (M o j)) (fun ad => by rw [hy]; rfl) (fun hM => by have h := hM o j; unfold sty at h; rw [hk] at h; dsimp only at h; rw [hy] at h; exact h) kk
theorem Runs.getr {o ci j index o' : Nat} {C : String} {T : u_T} {N : Nat} (hd : decode m.2.1 pc = .ok (.getfield index, 3)) (hk : kd o = some (.inl ci)) (hc : clsOK ci C T N) (hj : j < N) (hT : (T j).1 = C) (hl : FL m.1.cls index C (T j).2.1 (T j).2.2.1) (hr : rfs o j = some o') (hy : plainT (ftC ci j) = false ∧ ∃ t, ftC ci j = .object t ∨ ∃ u, ftC ci j = .array u) (kk : Runs X m (pc + 3) loc (vr o' :: st) M P) : Runs X m pc loc (vr o :: st) M P :=
  Runs.getf hd hk hc hj hT hl (v := vr o') (fun ad => by
    rw [hr]
    obtain ⟨-, t, h | ⟨u, h⟩⟩ := hy <;> rw [h] <;> rfl) (fun _ => trivial) kk
theorem Runs.putf {o ci j index : Nat} {C : String} {T : u_T} {N : Nat} {z : Int} {v : AV} (hd : decode m.2.1 pc = .ok (.putfield index, 3)) (hk : kd o = some (.inl ci)) (hc : clsOK ci C T N) (hj : j < N) (hT : (T j).1 = C) (hl : FL m.1.cls index C (T j).2.1 (T j).2.2.1) (hf : (T j).2.2.2 = false) (hp : plainT (ftC ci j) = true) (hz : wfV v → inT (ftC ci j) z) (hv : ∀ ad : Nat → Nat, cS ad (ftC ci j) (rfs o j) z = cV ad v) (kk : Runs X m (pc + 3) loc st (up2 M o j z) P) : Runs X m pc loc (v :: vr o :: st) M P := by
  refine Runs.lift (fun p l e R s mid args below meth c cells slots D cA ad A Q C0 w => ?_) kk
  intro hM hL hS ls H locs hlv hH
  have hzz := hz (wfS_h hS)
  obtain ⟨i, hi⟩ := at_CO hk
  have he := at_wsO (cA := cA) (ad := ad) (M := M) hi
  rw [ent_o hk] at he
  obtain ⟨hn, hfit⟩ := nar_ok (ad := ad) (r := rfs o j) hp hzz
  have hj2 : j < nFd ci := by rw [nFd_of hc]; exact hj
  have hset : (wsO cA ad M).set i (ad o, .inr (ci, (fdV ad M o ci).set j (cV ad v))) = wsO cA ad (up2 M o j z) := by
    rw [← hv ad, fdV_set hj2, ← ent_o (cA := cA) hk]
    exact set_wsO hi up2_ne
  have hwf : wfM (up2 M o j z) := wfM_up hM (by unfold sty; rw [hk]; exact hzz)
  have go : ∀ (H1 : Heap) (locs1 : List Loc), va_P D vwCl ((wsO cA ad M).set i (ad o, .inr (ci, (fdV ad M o ci).set j (cV ad v)))) H1 → va_D A ((wsO cA ad M).set i (ad o, .inr (ci, (fdV ad M o ci).set j (cV ad v)))) → va_S A s.heap H1 locs1 → W p l e R s mid args below meth c H1 locs1 cells slots Q (F0 mid (pc + 3) ls (st.map (cV ad))) := by
    intro H1 locs1 hP1 hD1 hS1
    rw [hset] at hP1 hD1
    exact w hwf hL (wfS_t (wfS_t hS)) ls H1 locs1 hlv ⟨hP1, hD1, hS1⟩
  rw [hv ad] at hn hfit
  rcases hl with hl | ⟨host, hl⟩
  · exact va_put C0.1 C0.2.1 (own := m.1.cls) (ref := C) C0.2.2.2.2.1 hc.2.1 (ftC ci) hc.2.2.1 hc.2.2.2 C0.2.2.2.1 C0.2.2.2.2.2.2.1 hH.1 hH.2.1 hH.2.2 i he hc.1 j hj (C0.2.2.2.2.1 _ hl) (fun x hx => by rw [hT] at hx; exact hx) hf (hc.2.2.1 j hj) hn hfit (by rw [fdV_len]; exact hj2) hd go
  · exact va_putN C0.1 C0.2.1 (own := m.1.cls) (ref := C) (host := host) C0.2.2.2.2.1 hc.2.1 (ftC ci) hc.2.2.1 hc.2.2.2 C0.2.2.2.1 C0.2.2.2.2.2.2.1 hH.1 hH.2.1 hH.2.2 i he hc.1 j hj (va_Nw.use rfl (C0.2.2.2.2.2.1 _ hl rfl)) (fun x hx => by rw [hT] at hx; exact hx) hf (hc.2.2.1 j hj) hn hfit (by rw [fdV_len]; exact hj2) hd go
theorem Runs.puti {o ci j index : Nat} {C : String} {T : u_T} {N : Nat} {z : Int} (hd : decode m.2.1 pc = .ok (.putfield index, 3)) (hk : kd o = some (.inl ci)) (hc : clsOK ci C T N) (hj : j < N) (hT : (T j).1 = C) (hl : FL m.1.cls index C (T j).2.1 (T j).2.2.1) (hf : (T j).2.2.2 = false) (hy : ftC ci j = .int) (kk : Runs X m (pc + 3) loc st (up2 M o j z) P) : Runs X m pc loc (vi z :: vr o :: st) M P :=
  Runs.putf hd hk hc hj hT hl hf (by rw [hy]; rfl) (fun h => by rw [hy]; exact h) (fun ad => cS_int (Or.inl hy)) kk
theorem Runs.putz {o ci j index : Nat} {C : String} {T : u_T} {N : Nat} {z : Int} (hd : decode m.2.1 pc = .ok (.putfield index, 3)) (hk : kd o = some (.inl ci)) (hc : clsOK ci C T N) (hj : j < N) (hT : (T j).1 = C) (hl : FL m.1.cls index C (T j).2.1 (T j).2.2.1) (hf : (T j).2.2.2 = false) (hy : ftC ci j = .boolean) (hz : 0 ≤ z ∧ z ≤ 1) (kk : Runs X m (pc + 3) loc st (up2 M o j z) P) : Runs X m pc loc (vi z :: vr o :: st) M P :=
  Runs.putf hd hk hc hj hT hl hf (by rw [hy]; rfl) (fun _ => by rw [hy]; exact hz) (fun ad => cS_int (Or.inr (Or.inl hy))) kk
theorem Runs.putl {o ci j index : Nat} {C : String} {T : u_T} {N : Nat} {z : Int} (hd : decode m.2.1 pc = .ok (.putfield index, 3)) (hk : kd o = some (.inl ci)) (hc : clsOK ci C T N) (hj : j < N) (hT : (T j).1 = C) (hl : FL m.1.cls index C (T j).2.1 (T j).2.2.1) (hf : (T j).2.2.2 = false) (hy : ftC ci j = .long) (kk : Runs X m (pc + 3) loc st (up2 M o j z) P) : Runs X m pc loc (vl z :: vr o :: st) M P :=
  Runs.putf hd hk hc hj hT hl hf (by rw [hy]; rfl) (fun h => by rw [hy]; exact h) (fun ad => by rw [hy]; rfl) kk
-- ===== arrays
theorem in_ix {i : Int} {n : Nat} (h0 : 0 ≤ i) (h1 : i < n) (hi : inI i) : vp_in (Int32.ofInt i) n := by
  rw [vp_in_iff, i32_t hi]
  exact ⟨h0, h1⟩
theorem cl_ix {i : Int} (h0 : 0 ≤ i) (hi : inI i) : (Int32.ofInt i).toNatClampNeg = i.toNat := by
  rw [Int32.toNatClampNeg_ofInt_of_le (by omega) (by omega)]
theorem ty_at {cA : FieldType → ClassId} {ty : FieldType} (h : ty = .byte ∨ ty = .int ∨ ty = .boolean ∨ ty = tyS ∨ ty = tyT) : ∃ t : Nat, (tysO cA)[t]? = some (cA ty, ty) := by
  rcases h with rfl | rfl | rfl | rfl | rfl
  · exact ⟨0, rfl⟩
  · exact ⟨1, rfl⟩
  · exact ⟨2, rfl⟩
  · exact ⟨3, rfl⟩
  · exact ⟨4, rfl⟩
theorem kd_ty {o n : Nat} {ty : FieldType} (h : kd o = some (.inr (ty, n))) : ty = .byte ∨ ty = .int ∨ ty = .boolean ∨ ty = tyS ∨ ty = tyT := by
  unfold kd at h
  split at h
  · split at h
    · cases h
    · simp only [Option.some.injEq, Sum.inr.injEq, Prod.mk.injEq] at h
      exact Or.inr (Or.inl h.1.symm)
  · unfold kdT at h
    split at h <;> first | (cases h; done) | (simp only [Option.some.injEq, Sum.inr.injEq, Prod.mk.injEq] at h; obtain ⟨rfl, rfl⟩ := h; simp)
theorem Runs.alen {o n : Nat} {ty : FieldType} (hd : decode m.2.1 pc = .ok (.arraylength, 1)) (hk : kd o = some (.inr (ty, n))) (hn : n < 2147483648) (kk : Runs X m (pc + 1) loc (vi (n : Int) :: st) M P) : Runs X m pc loc (vr o :: st) M P := by
  refine Runs.lift (fun p l e R s mid args below meth c cells slots D cA ad A Q C0 w => ?_) kk
  intro hM hL hS ls H locs hlv hH
  obtain ⟨i, hi⟩ := at_CO hk
  have he := at_wsO (cA := cA) (ad := ad) (M := M) hi
  rw [ent_a hk] at he
  obtain ⟨t, ht⟩ := ty_at (cA := cA) (kd_ty hk)
  exact va_alen C0.1 C0.2.1 C0.2.2.2.2.2.2.1 hH.1 i t he ht (v := Int32.ofInt (n : Int)) (by rw [Int32.ofInt_eq_ofNat]) hd (w hM hL (wfS_c (show inI (n : Int) from ⟨by omega, by omega⟩) (wfS_t hS)) ls H locs hlv hH)
theorem arP_i {ad : Nat → Nat} {M : Mem} {o : Nat} {ty : FieldType} (h : ty = .int ∨ ty = .boolean ∨ ty = .byte) : arP ad M o ty = .inl (fun j => Int32.ofInt (M o j)) := by rcases h with rfl | rfl | rfl <;> rfl
theorem sty_a {o n j : Nat} {ty : FieldType} (hk : kd o = some (.inr (ty, n))) : sty o j = ty := by unfold sty; rw [hk]
theorem Runs.iald {o n : Nat} {i : Int} (hd : decode m.2.1 pc = .ok (.iaload, 1)) (hk : kd o = some (.inr (.int, n))) (h0 : 0 ≤ i) (h1 : i < n) (kk : Runs X m (pc + 1) loc (vi (M o i.toNat) :: st) M P) : Runs X m pc loc (vi i :: vr o :: st) M P := by
  refine Runs.lift (fun p l e R s mid args below meth c cells slots D cA ad A Q C0 w => ?_) kk
  intro hM hL hS ls H locs hlv hH
  have hi0 : inI i := wfS_h hS
  obtain ⟨q, hq⟩ := at_CO hk
  have he := at_wsO (cA := cA) (ad := ad) (M := M) hq
  rw [ent_a hk, arP_i (Or.inl rfl)] at he
  obtain ⟨t, ht⟩ := ty_at (cA := cA) (kd_ty hk)
  have k := w hM hL (wfS_c (v := vi (M o i.toNat)) (by have h := hM o i.toNat; rw [sty_a hk] at h; exact h) (wfS_t (wfS_t hS))) ls H locs hlv hH
  refine va_iald C0.1 C0.2.1 C0.2.2.2.2.2.2.1 hH.1 q t he ht (in_ix h0 h1 hi0) hd ?_
  rw [cl_ix h0 hi0]
  exact k
theorem Runs.bald {o n : Nat} {i : Int} (hd : decode m.2.1 pc = .ok (.baload, 1)) (hk : kd o = some (.inr (.byte, n))) (h0 : 0 ≤ i) (h1 : i < n) (kk : Runs X m (pc + 1) loc (vi (M o i.toNat) :: st) M P) : Runs X m pc loc (vi i :: vr o :: st) M P := by
  refine Runs.lift (fun p l e R s mid args below meth c cells slots D cA ad A Q C0 w => ?_) kk
  intro hM hL hS ls H locs hlv hH
  have hi0 : inI i := wfS_h hS
  obtain ⟨q, hq⟩ := at_CO hk
  have he := at_wsO (cA := cA) (ad := ad) (M := M) hq
  rw [ent_a hk, arP_i (Or.inr (Or.inr rfl))] at he
  obtain ⟨t, ht⟩ := ty_at (cA := cA) (kd_ty hk)
  have k := w hM hL (wfS_c (v := vi (M o i.toNat)) (inI_of (Or.inr (Or.inr rfl)) (by have h := hM o i.toNat; rw [sty_a hk] at h; exact h)) (wfS_t (wfS_t hS))) ls H locs hlv hH
  refine va_bald C0.1 C0.2.1 C0.2.2.2.2.2.2.1 hH.1 q t he ht (in_ix h0 h1 hi0) hd ?_
  rw [cl_ix h0 hi0]
  exact k
theorem Runs.zald {o n : Nat} {i : Int} (hd : decode m.2.1 pc = .ok (.baload, 1)) (hk : kd o = some (.inr (.boolean, n))) (h0 : 0 ≤ i) (h1 : i < n) (kk : Runs X m (pc + 1) loc (vi (M o i.toNat) :: st) M P) : Runs X m pc loc (vi i :: vr o :: st) M P := by
  refine Runs.lift (fun p l e R s mid args below meth c cells slots D cA ad A Q C0 w => ?_) kk
  intro hM hL hS ls H locs hlv hH
  have hi0 : inI i := wfS_h hS
  obtain ⟨q, hq⟩ := at_CO hk
  have he := at_wsO (cA := cA) (ad := ad) (M := M) hq
  rw [ent_a hk, arP_i (Or.inr (Or.inl rfl))] at he
  obtain ⟨t, ht⟩ := ty_at (cA := cA) (kd_ty hk)
  have k := w hM hL (wfS_c (v := vi (M o i.toNat)) (inI_of (Or.inr (Or.inl rfl)) (by have h := hM o i.toNat; rw [sty_a hk] at h; exact h)) (wfS_t (wfS_t hS))) ls H locs hlv hH
  refine va_zald C0.1 C0.2.1 C0.2.2.2.2.2.2.1 hH.1 q t he ht (in_ix h0 h1 hi0) hd ?_
  rw [cl_ix h0 hi0]
  exact k
theorem Runs.aald {o n o' : Nat} {i : Int} {C : String} (hd : decode m.2.1 pc = .ok (.aaload, 1)) (hk : kd o = some (.inr (.object C, n))) (h0 : 0 ≤ i) (h1 : i < n) (hr : rfs o i.toNat = some o') (kk : Runs X m (pc + 1) loc (vr o' :: st) M P) : Runs X m pc loc (vi i :: vr o :: st) M P := by
  refine Runs.lift (fun p l e R s mid args below meth c cells slots D cA ad A Q C0 w => ?_) kk
  intro hM hL hS ls H locs hlv hH
  have hi0 : inI i := wfS_h hS
  obtain ⟨q, hq⟩ := at_CO hk
  have he := at_wsO (cA := cA) (ad := ad) (M := M) hq
  rw [ent_a hk] at he
  obtain ⟨t, ht⟩ := ty_at (cA := cA) (kd_ty hk)
  have k := w hM hL (wfS_c (v := vr o') trivial (wfS_t (wfS_t hS))) ls H locs hlv hH
  refine va_aldq C0.1 C0.2.1 C0.2.2.2.2.2.2.1 hH.1 q t he ht (in_ix h0 h1 hi0) hd ?_
  rw [cl_ix h0 hi0, hr]
  exact k
theorem ent_up {cA : FieldType → ClassId} {ad : Nat → Nat} {M : Mem} {o n : Nat} {ty : FieldType} {i : Nat} {z : Int} {y : Int32} (hk : kd o = some (.inr (ty, n))) (h : ty = .int ∨ ty = .boolean ∨ ty = .byte) (hy : y = Int32.ofInt z) : (Sum.inl (cA ty, n, .inl (upd (fun j => Int32.ofInt (M o j)) i y)) : va_E) = ent cA ad (up2 M o i z) o := by
  rw [ent_a hk, arP_i h]
  congr 4
  funext j
  unfold upd up2
  subst hy
  by_cases hj : j = i
  · simp [hj]
  · simp [hj]
theorem Runs.iast {o n : Nat} {i z : Int} (hd : decode m.2.1 pc = .ok (.iastore, 1)) (hk : kd o = some (.inr (.int, n))) (h0 : 0 ≤ i) (h1 : i < n) (kk : Runs X m (pc + 1) loc st (up2 M o i.toNat z) P) : Runs X m pc loc (vi z :: vi i :: vr o :: st) M P := by
  refine Runs.lift (fun p l e R s mid args below meth c cells slots D cA ad A Q C0 w => ?_) kk
  intro hM hL hS ls H locs hlv hH
  have hz0 : inI z := wfS_h hS
  have hi0 : inI i := wfS_h (wfS_t hS)
  obtain ⟨q, hq⟩ := at_CO hk
  have he := at_wsO (cA := cA) (ad := ad) (M := M) hq
  rw [ent_a hk, arP_i (Or.inl rfl)] at he
  obtain ⟨t, ht⟩ := ty_at (cA := cA) (kd_ty hk)
  refine va_iast C0.1 C0.2.1 C0.2.2.2.2.2.2.1 hH.1 hH.2.1 hH.2.2 q t he ht (in_ix h0 h1 hi0) hd ?_
  rw [cl_ix h0 hi0, ent_up (ad := ad) hk (Or.inl rfl) rfl, set_wsO hq up2_ne]
  intro H1 locs1 hP1 hD1 hS1
  exact w (wfM_up hM (by rw [sty_a hk]; exact hz0)) hL (wfS_t (wfS_t (wfS_t hS))) ls H1 locs1 hlv ⟨hP1, hD1, hS1⟩
theorem Runs.zast {o n : Nat} {i z : Int} (hd : decode m.2.1 pc = .ok (.bastore, 1)) (hk : kd o = some (.inr (.boolean, n))) (h0 : 0 ≤ i) (h1 : i < n) (hz : 0 ≤ z ∧ z ≤ 1) (kk : Runs X m (pc + 1) loc st (up2 M o i.toNat z) P) : Runs X m pc loc (vi z :: vi i :: vr o :: st) M P := by
  refine Runs.lift (fun p l e R s mid args below meth c cells slots D cA ad A Q C0 w => ?_) kk
  intro hM hL hS ls H locs hlv hH
  have hi0 : inI i := wfS_h (wfS_t hS)
  obtain ⟨q, hq⟩ := at_CO hk
  have he := at_wsO (cA := cA) (ad := ad) (M := M) hq
  rw [ent_a hk, arP_i (Or.inr (Or.inl rfl))] at he
  obtain ⟨t, ht⟩ := ty_at (cA := cA) (kd_ty hk)
  refine va_zast C0.1 C0.2.1 C0.2.2.2.2.2.2.1 hH.1 hH.2.1 hH.2.2 q t he ht (in_ix h0 h1 hi0) hd ?_
  rw [cl_ix h0 hi0, ent_up (ad := ad) (z := z) hk (Or.inr (Or.inl rfl)) (show vp_nar .boolean (Int32.ofInt z) = _ from nar_b hz), set_wsO hq up2_ne]
  intro H1 locs1 hP1 hD1 hS1
  exact w (wfM_up hM (by rw [sty_a hk]; exact hz)) hL (wfS_t (wfS_t (wfS_t hS))) ls H1 locs1 hlv ⟨hP1, hD1, hS1⟩
theorem Runs.bast {o n : Nat} {i z : Int} (hd : decode m.2.1 pc = .ok (.bastore, 1)) (hk : kd o = some (.inr (.byte, n))) (h0 : 0 ≤ i) (h1 : i < n) (hz : -128 ≤ z ∧ z ≤ 127) (kk : Runs X m (pc + 1) loc st (up2 M o i.toNat z) P) : Runs X m pc loc (vi z :: vi i :: vr o :: st) M P := by
  refine Runs.lift (fun p l e R s mid args below meth c cells slots D cA ad A Q C0 w => ?_) kk
  intro hM hL hS ls H locs hlv hH
  have hi0 : inI i := wfS_h (wfS_t hS)
  obtain ⟨q, hq⟩ := at_CO hk
  have he := at_wsO (cA := cA) (ad := ad) (M := M) hq
  rw [ent_a hk, arP_i (Or.inr (Or.inr rfl))] at he
  obtain ⟨t, ht⟩ := ty_at (cA := cA) (kd_ty hk)
  refine va_bast C0.1 C0.2.1 C0.2.2.2.2.2.2.1 hH.1 hH.2.1 hH.2.2 q t he ht (in_ix h0 h1 hi0) hd ?_
  rw [cl_ix h0 hi0, ent_up (ad := ad) (z := z) hk (Or.inr (Or.inr rfl)) (show vp_nar .byte (Int32.ofInt z) = _ from nar_y hz), set_wsO hq up2_ne]
  intro H1 locs1 hP1 hD1 hS1
  exact w (wfM_up hM (by rw [sty_a hk]; exact hz)) hL (wfS_t (wfS_t (wfS_t hS))) ls H1 locs1 hlv ⟨hP1, hD1, hS1⟩
end RH
