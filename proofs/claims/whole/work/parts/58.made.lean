/-! ===== constructors called ===== -/
def rmG (m : MR) (mc ms : Nat) : Room := { frames := m.2.2.2.2.1, cells := mc, slots := ms, locals := m.2.2.2.2.2 }
def GPre (D : va_G) (cA : FieldType → ClassId) (sz : Nat) (w0 : va_W) (vs : List Value) : Array Value → State → Prop :=
  va_Pc vs (fun U => U.heap.size = sz ∧ va_P D vwCl w0 U.heap ∧ va_K D vwCl (tysO cA) U ∧ va_D (fun _ => True) w0 ∧ NW U ∧ AO U)
theorem GPre_blind {D : va_G} {cA : FieldType → ClassId} {sz : Nat} {w0 : va_W} {vs : List Value} : FrameBlind (GPre D cA sz w0 vs) := by
  intro a U g mk q
  obtain ⟨q0, q1, qP, qK, qD, qN, qA⟩ := q
  exact ⟨q0, q1, qP, va_K.moved (u := U) (U := U.calling g mk a) (Vm.Alike.refl U.vm) qK, qD, NW.same (u := U) rfl qN, AO.moved (u := U) (U := U.calling g mk a) (Vm.Alike.refl U.vm) qA⟩
theorem metG {D : va_G} {cA : FieldType → ClassId} {y : MR} {mc ms sz : Nat} {w0 : va_W} {vs : List Value} {P : va_W → Prop} {l : Launch} (hG : GW D cA y mc ms 0 (lv_args 0 vs) [] w0 0 0 P) (ho : plainName y.1.cls = true) (hw : (lg_sl vs).length ≤ y.2.2.1) (hr : y.2.2.2.1 = none) :
    Met l y.1 (wsM y) (rmG y mc ms) (GPre D cA sz w0 vs) (va_Qv (fun w1 : va_W => P w1) (fun w1 t => va_P D vwCl w1 t.heap ∧ va_D (va_A w0 sz) w1) (va_A w0 sz)) mc ms (va_A w0 sz) := by
  refine Met.ofW (cc := y.2.1) (maxL := y.2.2.1) (ret := y.2.2.2.1) ho rfl ?_
  intro p e s mid args below meth c s₁ B hml hv
  obtain ⟨rfl, hsz, hP, hK, hD0, hN, hAO⟩ := hv
  have hts := atoms_spec (ws := wsM y) B.pre
  have hown : s.vm.findClass y.1.cls = some mid.cls := findClass_of_methodNamed B.named
  have hlk := B.notSynchronized
  have hin : meth.name = y.1.name := (name_of_methodNamed B.named B.method).1
  have hD : va_D (va_A w0 sz) w0 := hD0.self (sz := sz)
  have hl := lv_entry vs (n := y.2.2.1) hw
  have hret : meth.sig.returnType = none := B.returns.trans hr
  rw [lg_entry_eq]
  generalize (lg_sl vs ++ List.replicate (y.2.2.1 - (lg_sl vs).length) Slot.unset).toArray = ls at hl ⊢
  refine hG p l e (rmG y mc ms) s mid vs.toArray below meth c (va_A w0 sz) _
    ⟨B.exec, B.bytes, hml, hown, fun w h => hts w (List.mem_cons_of_mem _ h), hN, hK, fun q h => Or.inr (by rw [← hsz]; exact h), ⟨Nat.le_refl _, Nat.le_refl _⟩, ⟨Nat.le_refl _, Nat.le_refl _⟩, fun h => hin.trans h, hAO⟩
    (fun ws' H locs ls pc hp hH hd => ?_) ls s.heap [] hl ⟨hP, hD, va_S.rf⟩
  exact W.vret B.exec B.bytes hret (fun t ht hW => ⟨⟨ws', rfl, hp, by rw [ht]; exact hH.1, hH.2.1⟩, hH.2.2.F ht⟩) hH.2.2.2.2 hd hlk
theorem GH_join {D : va_G} {A : Nat → Prop} {s : State} {ws0 w0 w1 : va_W} {H H1 : Heap} {locs locs1 : List Loc} (hH : GH D A s (ws0 ++ w0) H locs) (hA : ∀ q, s.heap.size ≤ q → A q) (hk1 : ∀ q : Nat, q < H.size → ¬ va_A w0 H.size q → H1[q]? = H[q]?) (hP1 : va_P D vwCl w1 H1) (hD1 : va_D (va_A w0 H.size) w1) (hS1 : va_S A s.heap H1 locs1) : GH D A s (ws0 ++ w1) H1 locs1 := by
  obtain ⟨hP, hD, hS⟩ := hH
  have at0 : ∀ (i : Nat) (x : Nat × va_E), ws0[i]? = some x → (ws0 ++ w0)[i]? = some x := fun i x hx => by
    rw [List.getElem?_append_left (List.getElem?_eq_some_iff.mp hx).1]; exact hx
  have at1 : ∀ (j : Nat) (x : Nat × va_E), w0[j]? = some x → (ws0 ++ w0)[ws0.length + j]? = some x := fun j x hx => by
    rw [List.getElem?_append_right (by omega), show ws0.length + j - ws0.length = j by omega]; exact hx
  have apart : ∀ (i : Nat) (x : Nat × va_E), ws0[i]? = some x → x.1 < H.size ∧ ¬ va_A w0 H.size x.1 := by
    intro i x hx
    have hlt := (hP i x (at0 i x hx)).lt
    refine ⟨hlt, fun h => ?_⟩
    rcases h with ⟨j, e, hj⟩ | h
    · have := hD.1 i (ws0.length + j) x (x.1, e) (at0 i x hx) (at1 j _ hj) rfl
      have := (List.getElem?_eq_some_iff.mp hx).1
      omega
    · omega
  have hF : ∀ q, va_A w0 H.size q → A q := by
    intro q h
    rcases h with ⟨j, e, hj⟩ | h
    · exact hD.2 _ (q, e) (at1 j _ hj)
    · exact hA q (Nat.le_trans hS.1 h)
  have hP0 : va_P D vwCl ws0 H1 := fun i x hx => (hP i x (at0 i x hx)).kept (hk1 x.1 (apart i x hx).1 (apart i x hx).2)
  have hD0 : va_D A ws0 := ⟨fun i j x y hx hy hxy => hD.1 i j x y (at0 i x hx) (at0 j y hy) hxy, fun i x hx => hD.2 i x (at0 i x hx)⟩
  exact ⟨hP0.app hP1, va_D.app hD0 (hD1.weaken (fun i q _ h => hF q.1 h)) (fun i j x y hx hy hxy => (apart i x hx).2 (by rw [hxy]; exact hD1.2 j y hy)), hS1⟩
section GM
variable {D : va_G} {cA : FieldType → ClassId} {m : MR} {mc ms pc k n : Nat} {loc : List (Nat × Value)} {st : List Value} {ws : va_W} {P : va_W → Prop}
theorem GW.mk {y : MR} {C : String} {T : u_T} {N ci i1 i2 mcy msy : Nat} {P' : Nat → va_W → Prop} (hd1 : decode m.2.1 pc = .ok (.new i1, 3)) (hd2 : decode m.2.1 (pc + 3) = .ok (.dup, 1)) (hd3 : decode m.2.1 (pc + 4) = .ok (.invokespecial i2, 3)) (hc : clsOK ci C T N) (hy : okC y 0) (hyc : y.1.cls = C) (hyn : y.1.name = "<init>") (hyr : y.2.2.2.1 = none) (hyl : 1 ≤ y.2.2.1) (hcl : Cond.classLink m.1.cls i1 C ∈ TB) (hinst : Cond.instantiable C N ∈ TB) (him : Cond.instanceMethod y.1 ∈ TB) (hl : ML m.1.cls i2 y.1) (hrm : okRm m y) (hst : (st.map fun v => v.category).sum ≤ 6) (hk : k + 1 + mcy ≤ mc) (hn : n + N + msy ≤ ms) (hG : GI D cA y mcy msy ci P')
    (kk : ∀ (q : Nat) (w1 : va_W), P' q w1 → GW D cA m mc ms (pc + 7) loc (.ref q :: st) (ws ++ w1) (k + 1 + mcy) (n + N + msy) P) : GW D cA m mc ms pc loc st ws k n P := by
  intro p l e R s mid args below meth c A Q C0 F ls H locs hlv hH
  have C' := C0
  obtain ⟨hx, hb, hml, hown, hts, hN0, hK, hA, hR, hcs, hin0, hAO⟩ := C0
  obtain ⟨hoM, hcode, hini, hy1, hy2, hdesc⟩ := hy
  have hG0 := wsM_good y hcode
  have hroom : (rmG y mcy msy).frames + 1 ≤ R.frames ∧ 8 + (y.2.2.1 + 11) + (rmG y mcy msy).locals ≤ R.locals := ⟨Nat.le_trans hrm.1 hR.1, Nat.le_trans hrm.2 hR.2⟩
  have hini' : (Cond.initialized C).before args s = true := by rw [← hyc]; exact hts _ hini
  refine va_new (D := D) (fs := dfl ci) hx hb hts hc.2.1 (ftC ci) hc.2.2.1 hown (hts _ hcl) (hts _ hinst) hini' hK hH.1 hH.2.1 hH.2.2 hA hc.1 (fun j hj => ?_) (by omega) (by omega) hd1 (fun q H1 hP1 hD1 hS1 => ?_)
  · unfold vp_V dfl
    rw [List.getD_eq_getElem?_getD, List.getElem?_map, List.getElem?_range (by rw [nFd_of hc]; exact hj)]
    rfl
  · refine lv_dup hx hb hd2 rfl ?_
    have hpre : ∀ U : State, U.heap = H1 → s.WarmedH U.vm → GPre D cA H1.size [(q, .inr (ci, dfl ci))] [.ref q] ([Value.ref q] : List Value).toArray U := by
      intro U hU hW
      have hPq : va_P D vwCl [(q, .inr (ci, dfl ci))] H1 := by
        intro i x hx
        have hz : i < 1 := (List.getElem?_eq_some_iff.mp hx).1
        obtain rfl : i = 0 := by omega
        refine hP1 ws.length x ?_
        rw [List.getElem?_append_right (Nat.le_refl _), Nat.sub_self]
        exact hx
      refine ⟨rfl, by rw [hU], by rw [hU]; exact hPq, va_K.moved hW.alike hK, ⟨fun i j x y hx hy _ => ?_, fun _ _ _ => trivial⟩, hN0.warm hW, hAO.moved hW.alike⟩
      have hz : i < 1 := (List.getElem?_eq_some_iff.mp hx).1
      have hz2 : j < 1 := (List.getElem?_eq_some_iff.mp hy).1
      omega
    have hM := metG (l := l) (sz := H1.size) (vs := [.ref q]) (hG q) hoM.1 hyl hyr
    have hF : ∀ a, va_A [(q, .inr (ci, dfl ci))] H1.size a → A a := by
      intro a h
      rcases h with ⟨j, e', hj⟩ | h
      · refine hD1.2 (ws.length + j) (a, e') ?_
        rw [List.getElem?_append_right (by omega), show ws.length + j - ws.length = j by omega]
        exact hj
      · exact hA a (Nat.le_trans hS1.1 h)
    have hW8 : 2 * (F0 mid (pc + 3 + 1) ls (.ref q :: .ref q :: st)).monitorRoom + ((Value.ref q :: st).map fun v => v.category).sum ≤ 8 := lv_room (by
      rw [List.map_cons, List.sum_cons]
      show 1 + _ ≤ 8
      omega)
    have hcode2 := hcode
    rw [hyr] at hcode2
    have hmem : Cond.code y.1 y.2.1 y.2.2.1 none ∈ wsM y := by
      rw [← hyr]; exact List.mem_cons_self
    have fin : ∀ (u : va_W) (t : State) (H2 : Heap) (locs1 : List Loc), t.heap = H2 → s.vm.Alike t.vm → P' q u → (va_P D vwCl u t.heap ∧ va_D (va_A [(q, .inr (ci, dfl ci))] H1.size) u) → H1.size ≤ H2.size → (∀ a : Nat, a < H1.size → ¬ va_A [(q, .inr (ci, dfl ci))] H1.size a → H2[a]? = H1[a]?) → va_S A s.heap H2 locs1 → W p l e R s mid args below meth c H2 locs1 (k + 1 + mcy) (n + N + msy) Q (F0 mid (pc + 3 + 1 + 3) ls (.ref q :: st)) := by
      intro u t H2 locs1 ht hvm hp' hB hz1 hk1 hS2
      obtain ⟨b1, b2⟩ := hB
      rw [ht] at b1
      exact kk q u hp' p l e R s mid args below meth c A Q C' F ls H2 locs1 hlv (GH_join ⟨hP1, hD1, hS1⟩ hA hk1 b1 b2 hS2)
    rcases hl with hl | ⟨host, hl⟩
    · refine va_callv (va_runI (As := []) (rest := .ref q :: st) (n := 0) (Ts := TB) (own := m.1.cls) (nL := m.2.2.1) (bytes := y.2.1) (maxL := y.2.2.1) ⟨hx, hb, hml, hown, hts⟩ hM ⟨⟨rfl, rfl, hroom.1, hroom.2, pay_in hts hG0, hmem, hts _ hcode2, hts _ hini, ⟨hy1, hy2⟩, fun sig h => by rw [h] at hdesc; exact (Option.some.inj hdesc).symm, hts _ hl⟩, hyn, hts _ him⟩ ⟨GPre_blind, hpre⟩ rfl rfl hlv.1 rfl hW8 hd3 ⟨by omega, by omega⟩) hS1 (fun a _ h => hF a h) hF fin
    · refine va_callv (va_runIN (As := []) (rest := .ref q :: st) (n := 0) (host := host) (Ts := TB) (own := m.1.cls) (nL := m.2.2.1) (bytes := y.2.1) (maxL := y.2.2.1) ⟨hx, hb, hml, hown, hts⟩ hM ⟨va_cnB 0 hts hG0 (by unfold wsM; rw [hyr]) rfl rfl (hN0 _ hl rfl) (hts _ hini) ⟨hy1, hy2, hdesc⟩ hroom, hyn, hts _ him⟩ ⟨GPre_blind, hpre⟩ rfl rfl hlv.1 rfl hW8 hd3 ⟨by omega, by omega⟩) hS1 (fun a _ h => hF a h) hF fin
/-- a static method called, over the last cells of the world -/
theorem GW.callS {y : MR} {vs : List Value} {nP index mcy msy : Nat} {w0 : va_W} {P' : va_W → Prop} (hd : decode m.2.1 pc = .ok (.invokestatic index, 3)) (hy : okC y nP) (hyr : y.2.2.2.1 = none) (hyl : (lg_sl vs).length ≤ y.2.2.1) (hvs : vs.length = nP) (hi : Cond.static y.1 ∈ TB) (hl : Cond.methodLink m.1.cls index y.1 ∈ TB) (hrm : okRm m y) (hst : (st.map fun v => v.category).sum ≤ 8) (hk : k + mcy ≤ mc) (hn : n + msy ≤ ms) (hG : GW D cA y mcy msy 0 (lv_args 0 vs) [] w0 0 0 P')
    (kk : ∀ w1 : va_W, P' w1 → GW D cA m mc ms (pc + 3) loc st (ws ++ w1) (k + mcy) (n + msy) P) : GW D cA m mc ms pc loc (vs.reverse ++ st) (ws ++ w0) k n P := by
  intro p l e R s mid args below meth c A Q C0 F ls H locs hlv hH
  have C' := C0
  obtain ⟨hx, hb, hml, hown, hts, hN0, hK, hA, hR, hcs, hin0, hAO⟩ := C0
  obtain ⟨hoM, hcode, hini, hy1, hy2, hdesc⟩ := hy
  have hG0 := wsM_good y hcode
  have hroom : (rmG y mcy msy).frames + 1 ≤ R.frames ∧ 8 + (y.2.2.1 + 11) + (rmG y mcy msy).locals ≤ R.locals := ⟨Nat.le_trans hrm.1 hR.1, Nat.le_trans hrm.2 hR.2⟩
  obtain ⟨hP, hD, hS⟩ := hH
  have at1 : ∀ (j : Nat) (x : Nat × va_E), w0[j]? = some x → (ws ++ w0)[ws.length + j]? = some x := fun j x hx => by
    rw [List.getElem?_append_right (by omega), show ws.length + j - ws.length = j by omega]; exact hx
  have hpre : ∀ U : State, U.heap = H → s.WarmedH U.vm → GPre D cA H.size w0 vs vs.toArray U := by
    intro U hU hW
    refine ⟨rfl, by rw [hU], by rw [hU]; exact fun i x hx => hP _ x (at1 i x hx), va_K.moved hW.alike hK, ⟨fun i j x y hx hy hxy => ?_, fun _ _ _ => trivial⟩, hN0.warm hW, hAO.moved hW.alike⟩
    have := hD.1 _ _ x y (at1 i x hx) (at1 j y hy) hxy
    omega
  have hM := metG (l := l) (sz := H.size) hG hoM.1 hyl hyr
  have hF : ∀ a, va_A w0 H.size a → A a := by
    intro a h
    rcases h with ⟨j, e', hj⟩ | h
    · exact hD.2 _ (a, e') (at1 j _ hj)
    · exact hA a (Nat.le_trans hS.1 h)
  refine va_callv (va_runS (As := vs) (rest := st) (n := nP) (Ts := TB) (own := m.1.cls) (nL := m.2.2.1) (bytes := y.2.1) (maxL := y.2.2.1) (ret := y.2.2.2.1) ⟨hx, hb, hml, hown, hts⟩ hM ⟨⟨rfl, rfl, hroom.1, hroom.2, pay_in hts hG0, List.mem_cons_self, hts _ hcode, hts _ hini, ⟨hy1, hy2⟩, fun sig h => by rw [h] at hdesc; exact (Option.some.inj hdesc).symm, hts _ hl⟩, hts _ hi⟩ ⟨GPre_blind, hpre⟩ rfl hvs hlv.1 rfl (lv_room hst) hd ⟨by omega, by omega⟩) hS (fun a _ h => hF a h) hF (fun u t H2 locs1 ht hvm hp' hB hz1 hk1 hS2 => ?_)
  obtain ⟨b1, b2⟩ := hB
  rw [ht] at b1
  exact kk u hp' p l e R s mid args below meth c A Q C' F ls H2 locs1 hlv (GH_join ⟨hP, hD, hS⟩ hA hk1 b1 b2 hS2)
end GM
