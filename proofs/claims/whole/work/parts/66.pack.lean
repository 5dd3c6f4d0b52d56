/-! ===== all that is made, as the small logic has it ===== -/
section MW
variable {D : va_G} {cA : FieldType → ClassId} {m : MR} {mc ms pc k n : Nat} {st : List Value} {ws : va_W}
/-- an object made, at the machine's level -/
theorem mkW {p : Program} {l : Launch} {e : Env} {R : Room} {s : State} {mid : MethodId} {args : Array Value} {below : List Frame} {meth : Method} {c : Code} {A : Nat → Prop} {Q : State → Prop} {ls : Array Slot} {H : Heap} {locs : List Loc} {loc : List (Nat × Value)} {y : MR} {C : String} {T : u_T} {N ci i1 i2 mcy msy : Nat} {P' : Nat → va_W → Prop} (C0 : GC m p R s mid args meth c D cA A mc ms) (hlv : lv_has ls m.2.2.1 loc) (hH : GH D A s ws H locs) (hd1 : decode m.2.1 pc = .ok (.new i1, 3)) (hd2 : decode m.2.1 (pc + 3) = .ok (.dup, 1)) (hd3 : decode m.2.1 (pc + 4) = .ok (.invokespecial i2, 3)) (hc : clsOK ci C T N) (hy : okC y 0) (hyc : y.1.cls = C) (hyn : y.1.name = "<init>") (hyr : y.2.2.2.1 = none) (hyl : 1 ≤ y.2.2.1) (hcl : Cond.classLink m.1.cls i1 C ∈ TB) (hinst : Cond.instantiable C N ∈ TB) (him : Cond.instanceMethod y.1 ∈ TB) (hl : ML m.1.cls i2 y.1) (hrm : okRm m y) (hst : (st.map fun v => v.category).sum ≤ 6) (hk : k + 1 + mcy ≤ mc) (hn : n + N + msy ≤ ms) (hG : GI D cA y mcy msy ci P')
    (kk : ∀ (q : Nat) (w1 : va_W) (H2 : Heap) (locs1 : List Loc), P' q w1 → GH D A s (ws ++ w1) H2 locs1 → W p l e R s mid args below meth c H2 locs1 (k + 1 + mcy) (n + N + msy) Q (F0 mid (pc + 7) ls (.ref q :: st))) : W p l e R s mid args below meth c H locs k n Q (F0 mid pc ls st) := by
  obtain ⟨hx, hb, hml, hown, hts, hN0, hK, hA, hR, hcs, hin0, hAO⟩ := C0
  obtain ⟨hoM, hcode, hini, hy1, hy2, hdesc⟩ := hy
  have hG0 := wsM_good y hcode
  have hroom : (rmG y mcy msy).frames + 1 ≤ R.frames ∧ 8 + (y.2.2.1 + 11) + (rmG y mcy msy).locals ≤ R.locals := ⟨Nat.le_trans hrm.1 hR.1, Nat.le_trans hrm.2 hR.2⟩
  have hini' : (Cond.initialized C).before args s = true := by rw [← hyc]; exact hts _ hini
  refine va_new (D := D) (fs := dfl ci) hx hb hts hc.2.1 (ftC ci) hc.2.2.1 hown (hts _ hcl) (hts _ hinst) hini' hK hH.1 hH.2.1 hH.2.2 hA hc.1 (fun j hj => ?_) (by omega) (by omega) hd1 (fun q H1 hP1 hD1 hS1 => ?_)
  · unfold vp_V dfl
    rw [List.getD_eq_getElem?_getD, List.getElem?_map, List.getElem?_range (by rw [nFd_of hc]; exact hj)]
    rfl
  · refine lv_dup hx hb hd2 rfl ?_
    have hpre : ∀ U : State, U.heap = H1 → s.WarmedH U.vm → GPre D cA H1.size [(q, .inr (ci, dfl ci))] [.ref q] ([Value.ref q] : List Value).toArray U := by
      intro U hU hW
      have hPq : va_P D vwCl [(q, .inr (ci, dfl ci))] H1 := by
        intro i x hx
        have hz : i < 1 := (List.getElem?_eq_some_iff.mp hx).1
        obtain rfl : i = 0 := by omega
        refine hP1 ws.length x ?_
        rw [List.getElem?_append_right (Nat.le_refl _), Nat.sub_self]
        exact hx
      refine ⟨rfl, by rw [hU], by rw [hU]; exact hPq, va_K.moved hW.alike hK, ⟨fun i j x y hx hy _ => ?_, fun _ _ _ => trivial⟩, hN0.warm hW, hAO.moved hW.alike⟩
      have hz : i < 1 := (List.getElem?_eq_some_iff.mp hx).1
      have hz2 : j < 1 := (List.getElem?_eq_some_iff.mp hy).1
      omega
    have hM := metG (l := l) (sz := H1.size) (vs := [.ref q]) (hG q) hoM.1 hyl hyr
    have hF : ∀ a, va_A [(q, .inr (ci, dfl ci))] H1.size a → A a := by
      intro a h
      rcases h with ⟨j, e', hj⟩ | h
      · refine hD1.2 (ws.length + j) (a, e') ?_
        rw [List.getElem?_append_right (by omega), show ws.length + j - ws.length = j by omega]
        exact hj
      · exact hA a (Nat.le_trans hS1.1 h)
    have hW8 : 2 * (F0 mid (pc + 3 + 1) ls (.ref q :: .ref q :: st)).monitorRoom + ((Value.ref q :: st).map fun v => v.category).sum ≤ 8 := lv_room (by
      rw [List.map_cons, List.sum_cons]
      show 1 + _ ≤ 8
      omega)
    have hcode2 := hcode
    rw [hyr] at hcode2
    have hmem : Cond.code y.1 y.2.1 y.2.2.1 none ∈ wsM y := by
      rw [← hyr]; exact List.mem_cons_self
    have fin : ∀ (u : va_W) (t : State) (H2 : Heap) (locs1 : List Loc), t.heap = H2 → s.vm.Alike t.vm → P' q u → (va_P D vwCl u t.heap ∧ va_D (va_A [(q, .inr (ci, dfl ci))] H1.size) u) → H1.size ≤ H2.size → (∀ a : Nat, a < H1.size → ¬ va_A [(q, .inr (ci, dfl ci))] H1.size a → H2[a]? = H1[a]?) → va_S A s.heap H2 locs1 → W p l e R s mid args below meth c H2 locs1 (k + 1 + mcy) (n + N + msy) Q (F0 mid (pc + 3 + 1 + 3) ls (.ref q :: st)) := by
      intro u t H2 locs1 ht hvm hp' hB hz1 hk1 hS2
      obtain ⟨b1, b2⟩ := hB
      rw [ht] at b1
      exact kk q u H2 locs1 hp' (GH_join ⟨hP1, hD1, hS1⟩ hA hk1 b1 b2 hS2)
    rcases hl with hl | ⟨host, hl⟩
    · refine va_callv (va_runI (As := []) (rest := .ref q :: st) (n := 0) (Ts := TB) (own := m.1.cls) (nL := m.2.2.1) (bytes := y.2.1) (maxL := y.2.2.1) ⟨hx, hb, hml, hown, hts⟩ hM ⟨⟨rfl, rfl, hroom.1, hroom.2, pay_in hts hG0, hmem, hts _ hcode2, hts _ hini, ⟨hy1, hy2⟩, fun sig h => by rw [h] at hdesc; exact (Option.some.inj hdesc).symm, hts _ hl⟩, hyn, hts _ him⟩ ⟨GPre_blind, hpre⟩ rfl rfl hlv.1 rfl hW8 hd3 ⟨by omega, by omega⟩) hS1 (fun a _ h => hF a h) hF fin
    · refine va_callv (va_runIN (As := []) (rest := .ref q :: st) (n := 0) (host := host) (Ts := TB) (own := m.1.cls) (nL := m.2.2.1) (bytes := y.2.1) (maxL := y.2.2.1) ⟨hx, hb, hml, hown, hts⟩ hM ⟨va_cnB 0 hts hG0 (by unfold wsM; rw [hyr]) rfl rfl (hN0 _ hl rfl) (hts _ hini) ⟨hy1, hy2, hdesc⟩ hroom, hyn, hts _ him⟩ ⟨GPre_blind, hpre⟩ rfl rfl hlv.1 rfl hW8 hd3 ⟨by omega, by omega⟩) hS1 (fun a _ h => hF a h) hF fin
end MW
-- ===== the classes and arrays, by the tables
theorem known_1 {args : Array Value} {s : State} {C : String} {T : u_T} {N ci : Nat} (hts : ∀ w ∈ TB, w.before args s = true) (hc : clsOK ci C T N) (hi : Cond.instantiable C N ∈ TB) : ∃ (cC : ClassId) (iS : Nat → Nat), ∀ q, vwCl[ci]? = some q → u_Kn s q.1 q.2.1 q.2.2 cC iS := by
  obtain ⟨cC, iS, h⟩ := u_known (C := C) (T := T) (N := N) (n := N) hts hc.2.1 (hts _ hi)
  refine ⟨cC, iS, fun q hq => ?_⟩
  rw [hc.1] at hq
  cases hq
  exact h
theorem arr_p {args : Array Value} {s : State} {ty : FieldType} (hty : ty = .byte ∨ ty = .int ∨ ty = .boolean) (h : (Cond.arrayClass ty).before args s = true) : ∃ cA : ClassId, ArrOfT s cA ty ∧ va_RA s cA ty := by
  obtain ⟨c, k, comp, h1, h2, h3⟩ := Cond.arrayClass_spec h
  refine ⟨c, fun n z => ⟨fun k h => (by cases h), k, h2, comp, h3⟩, ?_⟩
  rcases hty with rfl | rfl | rfl <;> exact h1
theorem arr_q {args : Array Value} {s : State} {C : String} (h : (Cond.arrayOver (.object C)).before args s = true) : ∃ cA : ClassId, ArrOfT s cA (.object C) ∧ va_RA s cA (.object C) := by
  obtain ⟨comp, c, k, h1, h2, h3, h4, h5⟩ := Cond.arrayOver_spec h
  exact ⟨c, fun n z => ⟨fun k h => (by cases h), k, h3, comp, h4⟩, k, comp, h3, h4, h1, h5⟩
theorem known_all {args : Array Value} {s : State} (hts : ∀ w ∈ TB, w.before args s = true) (h1 : (Cond.arrayOver (.object "TeethForCoins$Slot")).before args s = true) (h2 : (Cond.arrayOver (.object "TeethForCoins$Teeth")).before args s = true) : ∃ (D : va_G) (cA : FieldType → ClassId), va_K D vwCl (tysO cA) s := by
  have hc : ∀ c : Nat, ∃ (cC : ClassId) (iS : Nat → Nat), ∀ q, vwCl[c]? = some q → u_Kn s q.1 q.2.1 q.2.2 cC iS := by
    intro c
    match c with
    | 0 => exact known_1 hts cls_X0 inst_X0
    | 1 => exact known_1 hts cls_X1 inst_X1
    | 2 => exact known_1 hts cls_X2 inst_X2
    | 3 => exact known_1 hts cls_X3 inst_X3
    | 4 => exact known_1 hts cls_X4 inst_X4
    | 5 => exact known_1 hts cls_X5 inst_X5
    | 6 => exact known_1 hts cls_X6 inst_X6
    | 7 => exact known_1 hts cls_X7 inst_X7
    | 8 => exact known_1 hts cls_X8 inst_X8
    | 9 => exact known_1 hts cls_X9 inst_X9
    | c + 10 =>
      refine ⟨0, fun _ => 0, fun q hq => ?_⟩
      have hl := (List.getElem?_eq_some_iff.mp hq).1
      have : vwCl.length = 10 := rfl
      omega
  have ha : ∀ ty : FieldType, ∃ cA : ClassId, (ty = .byte ∨ ty = .int ∨ ty = .boolean ∨ ty = tyS ∨ ty = tyT) → ArrOfT s cA ty ∧ va_RA s cA ty := by
    intro ty
    by_cases h : ty = .byte ∨ ty = .int ∨ ty = .boolean ∨ ty = tyS ∨ ty = tyT
    · rcases h with rfl | rfl | rfl | rfl | rfl
      · obtain ⟨c, hc⟩ := arr_p (Or.inl rfl) (hts _ ac_byte); exact ⟨c, fun _ => hc⟩
      · obtain ⟨c, hc⟩ := arr_p (Or.inr (Or.inl rfl)) (hts _ ac_int); exact ⟨c, fun _ => hc⟩
      · obtain ⟨c, hc⟩ := arr_p (Or.inr (Or.inr rfl)) (hts _ ac_boolean); exact ⟨c, fun _ => hc⟩
      · obtain ⟨c, hc⟩ := arr_q h1; exact ⟨c, fun _ => hc⟩
      · obtain ⟨c, hc⟩ := arr_q h2; exact ⟨c, fun _ => hc⟩
    · exact ⟨0, fun z => absurd z h⟩
  obtain ⟨cf, hcf⟩ : ∃ cf : FieldType → ClassId, ∀ ty, (ty = .byte ∨ ty = .int ∨ ty = .boolean ∨ ty = tyS ∨ ty = tyT) → ArrOfT s (cf ty) ty ∧ va_RA s (cf ty) ty := ⟨fun ty => Classical.choose (ha ty), fun ty => Classical.choose_spec (ha ty)⟩
  refine ⟨(fun c => Classical.choose (hc c), fun c => Classical.choose (Classical.choose_spec (hc c))), cf, fun c q hq => Classical.choose_spec (Classical.choose_spec (hc c)) q hq, fun k q hq => ?_⟩
  have hm := List.mem_of_getElem? hq
  unfold tysO at hm
  simp only [List.mem_cons, List.not_mem_nil, or_false] at hm
  rcases hm with rfl | rfl | rfl | rfl | rfl
  · exact hcf .byte (Or.inl rfl)
  · exact hcf .int (Or.inr (Or.inl rfl))
  · exact hcf .boolean (Or.inr (Or.inr (Or.inl rfl)))
  · exact hcf tyS (Or.inr (Or.inr (Or.inr (Or.inl rfl))))
  · exact hcf tyT (Or.inr (Or.inr (Or.inr (Or.inr rfl))))
-- ===== the memory at the start
theorem M0_01 (o j : Nat) : M0 o j = 0 ∨ M0 o j = 1 := by
  unfold M0
  split <;> first | exact Or.inl rfl | (dsimp only; split <;> first | exact Or.inr rfl | exact Or.inl rfl)
theorem wf_M0 : wfM M0 := by
  intro o j
  have h0 : ∀ ty : FieldType, inT ty 0 := fun ty => by cases ty <;> exact ⟨by decide, by decide⟩
  have h1 : ∀ ty : FieldType, inT ty 1 := fun ty => by cases ty <;> exact ⟨by decide, by decide⟩
  rcases M0_01 o j with h | h <;> rw [h]
  · exact h0 _
  · exact h1 _
theorem RR_M0 : RR M0 := by
  refine ⟨0, 0, 0, 0, ⟨⟨Nat.zero_le _, rfl, rfl⟩, fun t ht => absurd ht (Nat.not_lt_zero t), fun t ht => absurd ht (Nat.not_lt_zero t)⟩, ⟨⟨Nat.zero_le _, rfl, rfl⟩, fun i hi => absurd hi (Nat.not_lt_zero i)⟩, ⟨Nat.zero_le _, rfl, rfl⟩, ⟨Nat.zero_le _, rfl, rfl⟩, ⟨rfl, by decide, by decide⟩, ⟨rfl, by decide, by decide⟩, fun k hk => absurd hk (Nat.not_lt_zero k), fun j hj => rfl, fun k hk => ?_, rfl, fun s hs => ?_⟩
  · have e : ∀ o, (o = 11 ∨ o = 12 ∨ o = 331 ∨ o = 332) → M0 o k = 1 := by
      intro o ho
      rcases ho with rfl | rfl | rfl | rfl <;> exact if_pos hk
    rw [show oG 0 = 11 from rfl, show oN 0 = 12 from rfl, e 11 (by omega), e 12 (by omega), e 331 (by omega), e 332 (by omega)]
    decide
  · rcases (show s = 0 ∨ s = 1 by omega) with rfl | rfl
    · exact ⟨rfl, fun h => absurd rfl h⟩
    · exact ⟨rfl, fun h => absurd rfl h⟩
-- ===== the world
theorem nFd_le (ci : Nat) : nFd ci ≤ 48 := by
  match ci with
  | 0 => decide
  | 1 => decide
  | 2 => decide
  | 3 => decide
  | 4 => decide
  | 5 => decide
  | 6 => decide
  | 7 => decide
  | 8 => decide
  | 9 => decide
  | c + 10 =>
    unfold nFd
    rw [List.getElem?_eq_none (by show 10 ≤ c + 10; omega)]
    exact Nat.zero_le _
theorem ent_cg48 {cA : FieldType → ClassId} {ad ad' : Nat → Nat} {M : Mem} {o : Nat} (h : ∀ j r, j < 48 → rfs o j = some r → ad' r = ad r) : ent cA ad' M o = ent cA ad M o := by
  by_cases ho : o = 200
  · subst ho
    rw [ent_o (o := 200) (ci := 9) rfl, ent_o (o := 200) (ci := 9) rfl]
    have e : fdV ad' M 200 9 = fdV ad M 200 9 := by
      unfold fdV
      refine List.map_congr_left (fun j hj => cS_cg ?_ rfl)
      have hj2 : j < 48 := Nat.lt_of_lt_of_le (List.mem_range.mp hj) (nFd_le 9)
      cases hr : rfs 200 j with
      | none => rfl
      | some r => simp [h j r hj2 hr]
    rw [e]
  · exact ent_cg (fun j r hr => h j r (by have := rfs_b ho hr; omega) hr) rfl
theorem pk_cg48 {cA : FieldType → ClassId} {ad ad' : Nat → Nat} {M : Mem} {L : List Nat} (h : ∀ o ∈ L, ad' o = ad o ∧ ∀ j r, j < 48 → rfs o j = some r → ad' r = ad r) : pk cA ad' M L = pk cA ad M L := by
  unfold pk
  refine List.map_congr_left (fun o ho => ?_)
  obtain ⟨h1, h3⟩ := h o ho
  rw [h1, ent_cg48 h3]
theorem co_in : ∀ o ∈ CO, o ∈ L8 ++ 200 :: L9 := by decide +kernel
theorem l8_no : ∀ o ∈ L8, o ≠ 999 ∧ o ≠ 200 := by decide +kernel
theorem l9_no : ∀ o ∈ 200 :: L9, o ≠ 999 ∧ o ∉ L8 := by decide +kernel
theorem l8_cl : clo L8 := clo_of (by decide +kernel)
theorem l8_48 : ∀ j, j < 48 → 300 + j ∉ L8 ∧ 300 + j ≠ 999 := by decide +kernel
theorem l9_rf : ∀ o ∈ L9, o ≠ 200 ∧ ∀ j, j < 12 → rfs o j = none := by decide +kernel
theorem packed {D : va_G} {cA : FieldType → ClassId} {A : Nat → Prop} {s : State} {H : Heap} {locs : List Loc} {ad8 ad9 : Nat → Nat} {b : Nat} (h : GH D A s (pk cA ad8 M0 L8 ++ pk cA ad9 M0 (200 :: L9)) H locs) : ∃ ad : Nat → Nat, ad 999 = b ∧ ad 0 = ad8 0 ∧ ad 200 = ad9 200 ∧ Hd D cA ad A s M0 H locs := by
  obtain ⟨ad, had⟩ : ∃ ad : Nat → Nat, ad = fun x => if x = 999 then b else if x ∈ L8 then ad8 x else ad9 x := ⟨_, rfl⟩
  have h8 : ∀ x, x ∈ L8 → ad x = ad8 x := fun x hx => by rw [had]; show (if x = 999 then b else _) = _; rw [if_neg (l8_no x hx).1, if_pos hx]
  have h9 : ∀ x, x ≠ 999 → x ∉ L8 → ad x = ad9 x := fun x h1 h2 => by rw [had]; show (if x = 999 then b else _) = _; rw [if_neg h1, if_neg h2]
  have e8 : pk cA ad M0 L8 = pk cA ad8 M0 L8 := pk_cg48 (fun o ho => ⟨h8 o ho, fun j r _ hr => h8 r (l8_cl o ho j r hr)⟩)
  have e9 : pk cA ad M0 (200 :: L9) = pk cA ad9 M0 (200 :: L9) := pk_cg48 (fun o ho => ⟨h9 o (l9_no o ho).1 (l9_no o ho).2, fun j r hj hr => by
    rcases List.mem_cons.mp ho with rfl | ho9
    · have e : rfs 200 j = some (300 + j) := by
        unfold rfs
        rw [if_neg (by decide)]
        rfl
      rw [e] at hr
      cases hr
      obtain ⟨q1, q2⟩ := l8_48 j hj
      exact h9 _ q2 q1
    · obtain ⟨q1, q2⟩ := l9_rf o ho9
      rw [q2 j (rfs_b q1 hr)] at hr
      cases hr⟩)
  rw [← e8, ← e9, ← pk_app] at h
  obtain ⟨hP, hD, hS⟩ := h
  have at_L : ∀ o, o ∈ L8 ++ 200 :: L9 → ∃ i : Nat, (L8 ++ 200 :: L9)[i]? = some o ∧ (pk cA ad M0 (L8 ++ 200 :: L9))[i]? = some (ad o, ent cA ad M0 o) := by
    intro o ho
    obtain ⟨i, hi⟩ := List.getElem?_of_mem ho
    exact ⟨i, hi, by unfold pk; rw [List.getElem?_map, hi]; rfl⟩
  have at_C : ∀ (i : Nat) (q : Nat × va_E), (wsO cA ad M0)[i]? = some q → ∃ o, CO[i]? = some o ∧ q = (ad o, ent cA ad M0 o) := by
    intro i q hq
    unfold wsO at hq
    rw [List.getElem?_map] at hq
    cases ho : CO[i]? with
    | none => rw [ho] at hq; cases hq
    | some o => rw [ho] at hq; cases hq; exact ⟨o, rfl, rfl⟩
  refine ⟨ad, by rw [had]; exact if_pos rfl, h8 0 (by decide +kernel), h9 200 (by decide) (by decide +kernel), fun i q hq => ?_, ⟨fun i j x y hx hy hxy => ?_, fun i q hq => ?_⟩, hS⟩
  · obtain ⟨o, ho, rfl⟩ := at_C i q hq
    obtain ⟨i2, -, h2⟩ := at_L o (co_in o (List.mem_of_getElem? ho))
    exact hP i2 _ h2
  · obtain ⟨o1, ho1, rfl⟩ := at_C i x hx
    obtain ⟨o2, ho2, rfl⟩ := at_C j y hy
    obtain ⟨i2, hi2, h2⟩ := at_L o1 (co_in o1 (List.mem_of_getElem? ho1))
    obtain ⟨j2, hj2, h3⟩ := at_L o2 (co_in o2 (List.mem_of_getElem? ho2))
    have hij := hD.1 i2 j2 _ _ h2 h3 hxy
    rw [hij, hj2] at hi2
    have ho : o2 = o1 := Option.some.inj hi2
    rw [ho] at ho2
    exact va_nd_inj CO nd_CO i j o1 ho1 ho2
  · obtain ⟨o, ho, rfl⟩ := at_C i q hq
    obtain ⟨i2, -, h2⟩ := at_L o (co_in o (List.mem_of_getElem? ho))
    exact hD.2 i2 _ h2
