/-! ===== what a constructor has made so far ===== -/
section GT
variable {D : va_G} {cA : FieldType → ClassId} {m : MR} {mc ms pc k n : Nat} {loc loc' : List (Nat × Value)} {st : List Value} {ws ws' : va_W} {P : va_W → Prop}
theorem GW.locs (h : ∀ q ∈ loc', q ∈ loc) (kk : GW D cA m mc ms pc loc' st ws k n P) : GW D cA m mc ms pc loc st ws k n P := by
  refine GW.lift (fun p l e R s mid args below meth c A Q C w => ?_) kk
  intro ls H locs hlv hH
  exact w ls H locs ⟨hlv.1, hlv.2.1, fun q hq => hlv.2.2 q (h q hq)⟩ hH
theorem GW.alenN {i a N : Nat} {ty : FieldType} {x : vp_A} (hd : decode m.2.1 pc = .ok (.arraylength, 1)) (hty : ty = .byte ∨ ty = .int ∨ ty = .boolean ∨ ty = tyS ∨ ty = tyT) (he : ws[i]? = some (a, .inl (cA ty, x))) (hx : x.1 = N) (kk : GW D cA m mc ms (pc + 1) loc (.int (Int32.ofInt (N : Int)) :: st) ws k n P) : GW D cA m mc ms pc loc (.ref a :: st) ws k n P := by
  refine GW.alen hd hty he ?_
  rw [hx, ← Int32.ofInt_eq_ofNat]
  exact kk
theorem gfill {a N : Nat} {f : Nat → Int32} {x : Int32} (hN : N < 10000) : GW D cA mJ7_fill_53178 0 0 0 (lv_args 0 [.ref a, .int x]) [] [(a, .inl (cA .int, N, .inl f))] 0 0 (fun w => w = [(a, .inl (cA .int, N, .inl (fun j => if j < N then x else f j)))]) := by
  have h0 : (fun j => if j < 0 then x else f j) = f := by funext j; rw [if_neg (Nat.not_lt_zero j)]
  have go : ∀ i, i ≤ N → GW D cA mJ7_fill_53178 0 0 5 [(2, .int (Int32.ofInt (i : Int))), (3, .int (Int32.ofInt (N : Int))), (0, .ref a), (1, .int x)] [] [(a, .inl (cA .int, N, .inl (fun j => if j < i then x else f j)))] 0 0 (fun w => w = [(a, .inl (cA .int, N, .inl (fun j => if j < N then x else f j)))]) := by
    refine up_loop (n := N) ?_ ?_
    · refine GW.iload_n (j := 0) dJ7_fill_53178_5 rfl ?_
      refine GW.iload_n (j := 1) dJ7_fill_53178_6 rfl ?_
      refine GW.icmp_ge (tgt := 20) dJ7_fill_53178_7 (by decide) (by omega) (by omega) (fun _ => ?_) (fun h => by omega)
      exact GW.done dJ7_fill_53178_20 (Nat.le_refl _) (Nat.le_refl _) rfl
    · intro i hi ih
      refine GW.iload_n (j := 0) dJ7_fill_53178_5 rfl ?_
      refine GW.iload_n (j := 1) dJ7_fill_53178_6 rfl ?_
      refine GW.icmp_ge (tgt := 20) dJ7_fill_53178_7 (by decide) (by omega) (by omega) (fun h => by omega) (fun _ => ?_)
      refine GW.aload_n (j := 2) dJ7_fill_53178_10 rfl ?_
      refine GW.iload_n (j := 0) dJ7_fill_53178_11 rfl ?_
      refine GW.iload_n (j := 3) dJ7_fill_53178_12 rfl ?_
      refine GW.iast (i := 0) dJ7_fill_53178_13 rfl ⟨by omega, by omega⟩ hN rfl ?_
      refine GW.iinc (j := 0) dJ7_fill_53178_14 rfl (by decide) rfl ?_
      refine GW.goto (tgt := 5) dJ7_fill_53178_17 (by decide) ?_
      have e : upd (fun j => if j < i then x else f j) ((i : Int)).toNat x = fun j => if j < i + 1 then x else f j := by
        funext j
        rw [show ((i : Int)).toNat = i by omega]
        unfold upd
        by_cases hj : j = i
        · simp [hj]
        · by_cases h2 : j < i
          · simp [hj, h2, show j < i + 1 by omega]
          · simp [hj, h2, show ¬ j < i + 1 by omega]
      rw [cast1]
      have ih2 := ih
      rw [← e] at ih2
      exact ih2
  show GW D cA mJ7_fill_53178 0 0 0 [(0, .ref a), (1, .int x)] [] _ 0 0 _
  refine GW.iconst dJ7_fill_53178_0 ?_
  refine GW.istore_n (j := 2) (loc' := [(2, .int (Int32.ofInt 0)), (0, .ref a), (1, .int x)]) dJ7_fill_53178_1 rfl (by decide) rfl ?_
  refine GW.aload_n (j := 1) dJ7_fill_53178_2 rfl ?_
  refine GW.alenN (i := 0) (N := N) dJ7_fill_53178_3 (Or.inr (Or.inl rfl)) rfl rfl ?_
  refine GW.istore_n (j := 3) (loc' := [(3, .int (Int32.ofInt (N : Int))), (2, .int (Int32.ofInt 0)), (0, .ref a), (1, .int x)]) dJ7_fill_53178_4 rfl (by decide) rfl ?_
  have g0 := go 0 (Nat.zero_le _)
  rw [h0] at g0
  refine GW.locs (fun q hq => ?_) g0
  simp only [List.mem_cons, List.not_mem_nil, or_false] at hq ⊢
  rcases hq with rfl | rfl | rfl | rfl
  · exact Or.inr (Or.inl rfl)
  · exact Or.inl rfl
  · exact Or.inr (Or.inr (Or.inl rfl))
  · exact Or.inr (Or.inr (Or.inr rfl))
end GT
-- ===== packs
def fdP (ad : Nat → Nat) (M : Mem) (o ci : Nat) (S : List Nat) : List Value := (List.range (nFd ci)).map (fun j => cS ad (ftC ci j) ((rfs o j).filter (fun r => decide (r ∈ S))) (M o j))
def pk (cA : FieldType → ClassId) (ad : Nat → Nat) (M : Mem) (L : List Nat) : va_W := L.map (fun o => (ad o, ent cA ad M o))
def gs (cA : FieldType → ClassId) (ad : Nat → Nat) (M : Mem) (h o ci : Nat) (S L : List Nat) : va_W := (h, .inr (ci, fdP ad M o ci S)) :: pk cA ad M L
def clo (L : List Nat) : Prop := ∀ o ∈ L, ∀ j r, rfs o j = some r → r ∈ L
theorem fdP_at {ad : Nat → Nat} {M : Mem} {o ci j : Nat} {S : List Nat} (h : j < nFd ci) : (fdP ad M o ci S)[j]? = some (cS ad (ftC ci j) ((rfs o j).filter (fun r => decide (r ∈ S))) (M o j)) := by
  unfold fdP
  rw [List.getElem?_map, List.getElem?_range h]
  rfl
theorem fdP_len {ad : Nat → Nat} {M : Mem} {o ci : Nat} {S : List Nat} : (fdP ad M o ci S).length = nFd ci := by unfold fdP; rw [List.length_map, List.length_range]
theorem fdP_ext {ad : Nat → Nat} {M : Mem} {o ci : Nat} {S : List Nat} {fs : List Value} (hl : fs.length = nFd ci) (h : ∀ j, j < nFd ci → fs[j]? = some (cS ad (ftC ci j) ((rfs o j).filter (fun r => decide (r ∈ S))) (M o j))) : fs = fdP ad M o ci S := by
  apply List.ext_getElem?
  intro j
  by_cases hj : j < nFd ci
  · rw [h j hj, fdP_at hj]
  · rw [List.getElem?_eq_none (by omega), List.getElem?_eq_none (by rw [fdP_len]; omega)]
theorem cS_cg {ad ad' : Nat → Nat} {ty : FieldType} {r r' : Option Nat} {z z' : Int} (hr : r'.map ad' = r.map ad) (hz : z' = z) : cS ad' ty r' z' = cS ad ty r z := by
  subst hz
  cases ty <;> first | rfl | (show va_rf _ = va_rf _; rw [hr])
theorem fdP_cg {ad ad' : Nat → Nat} {M M' : Mem} {o ci : Nat} {S S' : List Nat} (h : ∀ j r, rfs o j = some r → (r ∈ S' ↔ r ∈ S) ∧ (r ∈ S → ad' r = ad r)) (hM : M' o = M o) : fdP ad' M' o ci S' = fdP ad M o ci S := by
  refine fdP_ext fdP_len (fun j hj => ?_)
  rw [fdP_at hj]
  congr 1
  refine cS_cg ?_ (by rw [hM])
  cases hr : rfs o j with
  | none => rfl
  | some r =>
    obtain ⟨h1, h2⟩ := h j r hr
    by_cases hq : r ∈ S
    · rw [Option.filter_some, Option.filter_some, if_pos (by simp [h1.mpr hq]), if_pos (by simp [hq])]
      simp [h2 hq]
    · rw [Option.filter_some, Option.filter_some, if_neg (by simp; exact fun z => hq (h1.mp z)), if_neg (by simp [hq])]
      rfl
theorem ent_cg {cA : FieldType → ClassId} {ad ad' : Nat → Nat} {M M' : Mem} {o : Nat} (h : ∀ j r, rfs o j = some r → ad' r = ad r) (hM : M' o = M o) : ent cA ad' M' o = ent cA ad M o := by
  have hm : ∀ j, (rfs o j).map ad' = (rfs o j).map ad := fun j => by
    cases hr : rfs o j with
    | none => rfl
    | some r => simp [h j r hr]
  unfold ent
  cases hk : kd o with
  | none => rfl
  | some kk =>
    rcases kk with ci | ⟨ty, n⟩
    · show Sum.inr (ci, fdV ad' M' o ci) = Sum.inr (ci, fdV ad M o ci)
      unfold fdV
      congr 2
      refine List.map_congr_left (fun j _ => cS_cg (hm j) (by rw [hM]))
    · show Sum.inl (cA ty, n, arP ad' M' o ty) = Sum.inl (cA ty, n, arP ad M o ty)
      have e : arP ad' M' o ty = arP ad M o ty := by
        unfold arP
        cases ty <;> first | (simp only [hM]; done) | (simp only [hm]; done)
      rw [e]
theorem pk_cg {cA : FieldType → ClassId} {ad ad' : Nat → Nat} {M M' : Mem} {L : List Nat} (h : ∀ o ∈ L, ad' o = ad o ∧ M' o = M o ∧ ∀ j r, rfs o j = some r → ad' r = ad r) : pk cA ad' M' L = pk cA ad M L := by
  unfold pk
  refine List.map_congr_left (fun o ho => ?_)
  obtain ⟨h1, h2, h3⟩ := h o ho
  rw [h1, ent_cg h3 h2]
theorem pk_app {cA : FieldType → ClassId} {ad : Nat → Nat} {M : Mem} {L L1 : List Nat} : pk cA ad M (L ++ L1) = pk cA ad M L ++ pk cA ad M L1 := List.map_append
theorem gs_join {cA : FieldType → ClassId} {ad ad' ad1 : Nat → Nat} {M M1 : Mem} {h o ci : Nat} {S L L1 : List Nat} (ho : ∀ x, x ∉ L1 → ad' x = ad x) (h1 : ∀ x, x ∈ L1 → ad' x = ad1 x) (hM : ∀ x, x ∈ L1 → M1 x = M x) (hS : ∀ x ∈ S, x ∉ L1) (hL : ∀ x ∈ L, x ∉ L1) (hc : clo L) (hc1 : clo L1) : gs cA ad M h o ci S L ++ pk cA ad1 M1 L1 = gs cA ad' M h o ci S (L ++ L1) := by
  unfold gs
  rw [pk_app, List.cons_append]
  congr 1
  · rw [fdP_cg (ad' := ad') (ad := ad) (S' := S) (S := S) (M' := M) (M := M) (fun j r _ => ⟨Iff.rfl, fun hr => ho r (hS r hr)⟩) rfl]
  · rw [pk_cg (ad' := ad') (ad := ad) (L := L) (M' := M) (M := M) (fun x hx => ⟨ho x (hL x hx), rfl, fun j r hr => ho r (hL r (hc x hx j r hr))⟩), pk_cg (ad' := ad') (ad := ad1) (L := L1) (M' := M) (M := M1) (fun x hx => ⟨h1 x hx, (hM x hx).symm, fun j r hr => h1 r (hc1 x hx j r hr)⟩)]
theorem fdP_ref {ad : Nat → Nat} {M : Mem} {o ci j r : Nat} {S : List Nat} (hj : j < nFd ci) (hr : rfs o j = some r) (hty : (∃ t, ftC ci j = .object t) ∨ ∃ t, ftC ci j = .array t) (hu : ∀ j', rfs o j' = some r → j' = j) : (fdP ad M o ci S).set j (.ref (ad r)) = fdP ad M o ci (r :: S) := by
  refine fdP_ext (by rw [List.length_set, fdP_len]) (fun i hi => ?_)
  by_cases hij : i = j
  · subst hij
    rw [List.getElem?_set_self (by rw [fdP_len]; exact hi), hr, Option.filter_some, if_pos (by simp)]
    rcases hty with ⟨t, ht⟩ | ⟨t, ht⟩ <;> rw [ht] <;> rfl
  · rw [List.getElem?_set_ne (Ne.symm hij), fdP_at hi]
    congr 1
    refine cS_cg ?_ rfl
    cases hq : rfs o i with
    | none => rfl
    | some x =>
      have hx : x ≠ r := fun z => hij (hu i (by rw [hq, z]))
      rw [Option.filter_some, Option.filter_some]
      by_cases hs : x ∈ S
      · rw [if_pos (by simp [hs]), if_pos (by simp [hs])]
      · rw [if_neg (by simp [hs]), if_neg (by simp [hs, hx])]
theorem fdP_val {ad : Nat → Nat} {M : Mem} {o ci j : Nat} {S : List Nat} {z : Int} {v : Value} (hj : j < nFd ci) (hv : v = cS ad (ftC ci j) ((rfs o j).filter (fun r => decide (r ∈ S))) z) : (fdP ad M o ci S).set j v = fdP ad (up2 M o j z) o ci S := by
  refine fdP_ext (by rw [List.length_set, fdP_len]) (fun i hi => ?_)
  by_cases hij : i = j
  · subst hij
    rw [List.getElem?_set_self (by rw [fdP_len]; exact hi), hv, up2_eq]
  · rw [List.getElem?_set_ne (Ne.symm hij), fdP_at hi, up2_j hij]
theorem fdP_full {ad : Nat → Nat} {M : Mem} {o ci : Nat} {S : List Nat} (h : ∀ j r, j < nFd ci → rfs o j = some r → r ∈ S ∨ plainT (ftC ci j) = true) : fdP ad M o ci S = fdV ad M o ci := by
  refine (fdP_ext fdV_len (fun j hj => ?_)).symm
  rw [fdV_at hj]
  congr 1
  cases hq : rfs o j with
  | none => exact cS_cg rfl rfl
  | some x =>
    rcases h j x hj hq with h1 | h1
    · exact cS_cg (by rw [Option.filter_some, if_pos (by simp [h1])]) rfl
    · generalize ftC ci j = ty at h1
      cases ty <;> first | rfl | (cases h1; done)
theorem fdP_nil {ad : Nat → Nat} {M : Mem} {o ci : Nat} (hp : ∀ j, j < nFd ci → ftC ci j ≠ .float ∧ ftC ci j ≠ .double) (hz : ∀ j, M o j = 0) : dfl ci = fdP ad M o ci [] := by
  refine fdP_ext (by unfold dfl; rw [List.length_map, List.length_range]) (fun j hj => ?_)
  unfold dfl
  rw [List.getElem?_map, List.getElem?_range hj, hz]
  have e : (rfs o j).filter (fun r => decide (r ∈ ([] : List Nat))) = none := by
    cases rfs o j with
    | none => rfl
    | some x => rw [Option.filter_some, if_neg (by simp)]
  rw [e]
  obtain ⟨h1, h2⟩ := hp j hj
  show some (defaultValue (ftC ci j)) = _
  congr 1
  generalize ftC ci j = ty at h1 h2
  cases ty <;> first | rfl | exact absurd rfl h1 | exact absurd rfl h2
