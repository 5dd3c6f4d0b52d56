/-! ===== calls ===== -/
/-- the locals with which a method begins -/
def lvA : Nat → List AV → List (Nat × AV)
  | _, [] => []
  | i, v :: vs => (i, v) :: lvA (if cat2 v then i + 2 else i + 1) vs
def wds (vs : List AV) : Nat := (vs.map (fun v => if cat2 v then 2 else 1)).sum
/-- called with these arguments in this memory, the method returns so that P -/
def Call (X : Scr) (m : MR) (as : List AV) (M : Mem) (P : Option AV → Mem → Prop) : Prop := Runs X m 0 (lvA 0 as) [] M P
theorem lvA_c (ad : Nat → Nat) : ∀ (i : Nat) (vs : List AV), lv_args i (vs.map (cV ad)) = cL ad (lvA i vs)
  | _, [] => rfl
  | i, v :: vs => by
    have e : (if (cV ad v).category = 2 then i + 2 else i + 1) = (if cat2 v then i + 2 else i + 1) := by
      rcases v with z | z | o <;> rfl
    show (i, cV ad v) :: lv_args (if (cV ad v).category = 2 then i + 2 else i + 1) (vs.map (cV ad)) = (i, cV ad v) :: cL ad (lvA (if cat2 v then i + 2 else i + 1) vs)
    rw [e, lvA_c ad _ vs]
theorem sl_len (ad : Nat → Nat) : ∀ (vs : List AV), (lg_sl (vs.map (cV ad))).length = wds vs
  | [] => rfl
  | v :: vs => by
    have e := sl_len ad vs
    unfold lg_sl wds at e ⊢
    rw [List.map_cons, List.flatMap_cons, List.length_append, e, List.map_cons, List.sum_cons]
    rcases v with z | z | o <;> rfl
theorem wfL_A {vs : List AV} (h : wfS vs) : ∀ (i : Nat), wfL (lvA i vs) := by
  induction vs with
  | nil => intro i q hq; cases hq
  | cons v vs ih =>
    intro i q hq
    rcases List.mem_cons.mp hq with rfl | h1
    · exact h v List.mem_cons_self
    · exact ih (fun w hw => h w (List.mem_cons_of_mem _ hw)) _ q h1
/-- the world at a call's start and end -/
def BW (D : va_G) (cA : FieldType → ClassId) (ad : Nat → Nat) (A : Nat → Prop) (u : Mem) (t : State) : Prop := va_P D vwCl (wsO cA ad u) t.heap ∧ va_K D vwCl (tysO cA) t ∧ va_D A (wsO cA ad u) ∧ wfM u
def PW (D : va_G) (cA : FieldType → ClassId) (ad : Nat → Nat) (sz : Nat) (M : Mem) (as : List AV) : Array Value → State → Prop :=
  va_Pc (as.map (cV ad)) (fun U => U.heap.size = sz ∧ va_P D vwCl (wsO cA ad M) U.heap ∧ va_K D vwCl (tysO cA) U ∧ va_D (fun _ => True) (wsO cA ad M) ∧ NW U)
theorem PW_blind {D : va_G} {cA : FieldType → ClassId} {ad : Nat → Nat} {sz : Nat} {M : Mem} {as : List AV} : FrameBlind (PW D cA ad sz M as) := by
  intro a U g mk q
  obtain ⟨q0, q1, qP, qK, qD, qN⟩ := q
  exact ⟨q0, q1, qP, va_K.moved (u := U) (U := U.calling g mk a) (Vm.Alike.refl U.vm) qK, qD, NW.same (u := U) rfl qN⟩
/-- what a method's own record must be -/
def okM (m : MR) : Prop := plainName m.1.cls = true ∧ m.1 ≠ yL_law
section MM
variable {X : Scr} {m : MR} {as : List AV} {M : Mem} {P : Option AV → Mem → Prop} {D : va_G} {cA : FieldType → ClassId} {ad : Nat → Nat} {sz : Nat} {l : Launch}
/-- the common part of the three kinds of contract -/
theorem met_core (hC : Call X m as M P) (ho : okM m) (hw : wds as ≤ m.2.2.1) (hS : wfS as) (hM : wfM M) {Qc : Array Value → State → Outcome → State → Prop}
    (hfin : ∀ (p : Program) (e : Env) (s : State) (mid : MethodId) (args : Array Value) (below : List Frame) (meth : Method) (c : Code), p.tables.exec = Jvm.exec → c.code = m.2.1 → meth.sig.returnType = m.2.2.2.1 → meth.locks = false → s.heap.size = sz → va_K D vwCl (tysO cA) s →
      FinR m P p l e (rmO m) s mid args below meth c 0 0 D cA ad (va_A (wsO cA ad M) sz) (MQ below Qc args s 0 0 (va_A (wsO cA ad M) sz))) :
    Met l m.1 (wsM m) (rmO m) (PW D cA ad sz M as) Qc 0 0 (va_A (wsO cA ad M) sz) := by
  refine Met.ofW (cc := m.2.1) (maxL := m.2.2.1) (ret := m.2.2.2.1) ho.1 rfl ?_
  intro p e s mid args below meth c s₁ B hml hv
  obtain ⟨rfl, hsz, hP, hK, hD0, hN⟩ := hv
  have hts := atoms_spec (ws := wsM m) B.pre
  have hown : s.vm.findClass m.1.cls = some mid.cls := findClass_of_methodNamed B.named
  have hD : va_D (va_A (wsO cA ad M) sz) (wsO cA ad M) := hD0.self (sz := sz)
  have hl := lv_entry (as.map (cV ad)) (n := m.2.2.1) (by rw [sl_len]; exact hw)
  rw [lg_entry_eq]
  generalize (lg_sl (as.map (cV ad)) ++ List.replicate (m.2.2.1 - (lg_sl (as.map (cV ad))).length) Slot.unset).toArray = ls at hl ⊢
  rw [lvA_c] at hl
  exact hC p l e (rmO m) s mid (as.map (cV ad)).toArray below meth c 0 0 D cA ad (va_A (wsO cA ad M) sz) _
    ⟨B.exec, B.bytes, hml, hown, fun w h => hts w (List.mem_cons_of_mem _ h), hN, hK, fun q h => Or.inr (by rw [← hsz]; exact h), ⟨Nat.le_refl _, Nat.le_refl _⟩, ⟨Nat.zero_le _, Nat.zero_le _⟩, fun h => absurd h ho.2⟩
    (hfin p e s mid _ below meth c B.exec B.bytes B.returns B.notSynchronized hsz hK) hM (wfL_A hS 0) (fun v h => by cases h) ls s.heap [] hl ⟨hP, hD, va_S.rf⟩
theorem met_i (hC : Call X m as M P) (ho : okM m) (hw : wds as ≤ m.2.2.1) (hS : wfS as) (hM : wfM M) (hr : m.2.2.2.1 = some .int ∨ m.2.2.2.1 = some .boolean) :
    Met l m.1 (wsM m) (rmO m) (PW D cA ad sz M as) (va_Qi (fun (r : Int32) (u : Mem) => ∃ z : Int, r = Int32.ofInt z ∧ inI z ∧ P (some (vi z)) u) (BW D cA ad (va_A (wsO cA ad M) sz)) (va_A (wsO cA ad M) sz)) 0 0 (va_A (wsO cA ad M) sz) := by
  refine met_core hC ho hw hS hM ?_
  intro p e s mid args below meth c hx hb hret hlk hsz hK
  intro r M' H locs ls pc hP hwM hok hH hd
  rcases hr with hr | hr
  · rw [hr] at hok hret
    rcases r with _ | z | z | o
    · exact absurd hok (by simp [okR])
    · exact W.iret (v := Int32.ofInt z) hx hb hret (fun t ht hW => ⟨⟨_, M', rfl, ⟨z, rfl, hok, hP⟩, ⟨by rw [ht]; exact hH.1, va_K.moved hW.alike hK, hH.2.1, hwM⟩⟩, hH.2.2.F ht⟩) hH.2.2.2.2 hd hlk
    · exact absurd hok (by simp [okR])
    · exact absurd hok (by simp [okR])
  · rw [hr] at hok hret
    rcases r with _ | z | z | o
    · exact absurd hok (by simp [okR])
    · have hz : 0 ≤ z ∧ z ≤ 1 := hok
      exact W.zret (v := Int32.ofInt z) hx hb hret (show Value.int _ = Value.int _ by rw [nar_b hz]) (fun t ht hW => ⟨⟨_, M', rfl, ⟨z, rfl, ⟨by omega, by omega⟩, hP⟩, ⟨by rw [ht]; exact hH.1, va_K.moved hW.alike hK, hH.2.1, hwM⟩⟩, hH.2.2.F ht⟩) hH.2.2.2.2 hd hlk
    · exact absurd hok (by simp [okR])
    · exact absurd hok (by simp [okR])
theorem met_l (hC : Call X m as M P) (ho : okM m) (hw : wds as ≤ m.2.2.1) (hS : wfS as) (hM : wfM M) (hr : m.2.2.2.1 = some .long) :
    Met l m.1 (wsM m) (rmO m) (PW D cA ad sz M as) (va_Ql (fun (r : Int64) (u : Mem) => ∃ z : Int, r = Int64.ofInt z ∧ inL z ∧ P (some (vl z)) u) (BW D cA ad (va_A (wsO cA ad M) sz)) (va_A (wsO cA ad M) sz)) 0 0 (va_A (wsO cA ad M) sz) := by
  refine met_core hC ho hw hS hM ?_
  intro p e s mid args below meth c hx hb hret hlk hsz hK
  intro r M' H locs ls pc hP hwM hok hH hd
  rw [hr] at hok hret
  rcases r with _ | z | z | o
  · exact absurd hok (by simp [okR])
  · exact absurd hok (by simp [okR])
  · exact W.lret (v := Int64.ofInt z) hx hb hret (fun t ht hW => ⟨⟨_, M', rfl, ⟨z, rfl, hok, hP⟩, ⟨by rw [ht]; exact hH.1, va_K.moved hW.alike hK, hH.2.1, hwM⟩⟩, hH.2.2.F ht⟩) hH.2.2.2.2 hd hlk
  · exact absurd hok (by simp [okR])
theorem met_v (hC : Call X m as M P) (ho : okM m) (hw : wds as ≤ m.2.2.1) (hS : wfS as) (hM : wfM M) (hr : m.2.2.2.1 = none) :
    Met l m.1 (wsM m) (rmO m) (PW D cA ad sz M as) (va_Qv (fun (u : Mem) => P none u) (BW D cA ad (va_A (wsO cA ad M) sz)) (va_A (wsO cA ad M) sz)) 0 0 (va_A (wsO cA ad M) sz) := by
  refine met_core hC ho hw hS hM ?_
  intro p e s mid args below meth c hx hb hret hlk hsz hK
  intro r M' H locs ls pc hP hwM hok hH hd
  rw [hr] at hok hret
  rcases r with _ | z | z | o
  · exact W.vret hx hb hret (fun t ht hW => ⟨⟨M', rfl, hP, ⟨by rw [ht]; exact hH.1, va_K.moved hW.alike hK, hH.2.1, hwM⟩⟩, hH.2.2.F ht⟩) hH.2.2.2.2 hd hlk
  · exact absurd hok (by simp [okR])
  · exact absurd hok (by simp [okR])
  · exact absurd hok (by simp [okR])
end MM
/-- what a callee's record says: its code is in the tables, its descriptor has n parameters -/
def okC (y : MR) (n : Nat) : Prop := okM y ∧ Cond.code y.1 y.2.1 y.2.2.1 y.2.2.2.1 ∈ TB ∧ Cond.initialized y.1.cls ∈ TB ∧ y.1.cls ≠ "java/lang/invoke/MethodHandle" ∧ y.1.cls ≠ "java/lang/invoke/VarHandle" ∧ (parseMethodDescriptor y.1.desc).map (fun d => d.parameters.length) = some n
/-- how a method is linked -/
def ML (own : String) (index : Nat) (y : MethodName) : Prop := (Cond.methodLink own index y ∈ TB) ∨ ∃ host, Cond.methodLinkNest own index y host ∈ tables_1
/-- the callee's room is within the caller's -/
def okRm (m y : MR) : Prop := y.2.2.2.2.1 + 1 ≤ m.2.2.2.2.1 ∧ 8 + (y.2.2.1 + 11) + y.2.2.2.2.2 ≤ m.2.2.2.2.2
theorem wsM_good (y : MR) (h : Cond.code y.1 y.2.1 y.2.2.1 y.2.2.2.1 ∈ TB) : GoodIn TB (wsM y) := by
  intro w hw
  rcases List.mem_cons.mp hw with rfl | h1
  · exact tb_good _ h
  · exact tb_good _ h1
section CC
variable {X : Scr} {m y : MR} {pc : Nat} {loc : List (Nat × AV)} {st : List AV} {M : Mem} {P P' : Option AV → Mem → Prop}
theorem wfS_r {as rest : List AV} (h : wfS (as.reverse ++ rest)) : wfS as ∧ wfS rest := ⟨fun v hv => h v (List.mem_append_left _ (List.mem_reverse.mpr hv)), fun v hv => h v (List.mem_append_right _ hv)⟩
theorem cat_sum (ad : Nat → Nat) : ∀ (st : List AV), ((st.map (cV ad)).map (fun v => v.category)).sum = wds st
  | [] => rfl
  | v :: st => by
    have e := cat_sum ad st
    unfold wds at e ⊢
    rw [List.map_cons, List.map_cons, List.sum_cons, e, List.map_cons, List.sum_cons]
    rcases v with z | z | o <;> rfl
/-- an instance method called: what the machine does, by the kind of its link -/
theorem runV {p : Program} {l : Launch} {e : Env} {R : Room} {s : State} {mid : MethodId} {args : Array Value} {below : List Frame} {meth : Method} {c : Code} {cells slots : Nat} {D : va_G} {cA : FieldType → ClassId} {ad : Nat → Nat} {A : Nat → Prop} {ls : Array Slot} {H : Heap} {locs : List Loc} {Qc : Array Value → State → Outcome → State → Prop} {n index o ci : Nat} {as : List AV} {q : vw_C}
    (C : Ctx X m p R s mid args c cells slots D cA ad A) (hM : Met l y.1 (wsM y) (rmO y) (PW D cA ad H.size M (vr o :: as)) Qc 0 0 (va_A (wsO cA ad M) H.size)) (hy : okC y n) (hi : Cond.instanceMethod y.1 ∈ TB) (hs : Cond.selects y.1.cls y.1 y.1 ∈ TB) (hl : ML m.1.cls index y.1) (hn : as.length = n) (hrm : okRm m y) (hst : wds st ≤ 8) (hk : kd o = some (.inl ci)) (hc : vwCl[ci]? = some q) (hq : q.1 = y.1.cls)
    (hd : decode m.2.1 pc = .ok (.invokevirtual index, 3)) (hlv : lv_has ls m.2.2.1 (cL ad loc)) (hH : Hd D cA ad A s M H locs) :
    va_Run p l e R s mid args below meth c H locs cells slots 0 0 (F0 mid pc ls ((as.reverse ++ vr o :: st).map (cV ad))) (st.map (cV ad)) (Qc (Value.ref (ad o) :: as.map (cV ad)).toArray) (va_A (wsO cA ad M) H.size) := by
  obtain ⟨hx, hb, hml, hown, hts, hN, hK, hA, hR, hcs, -⟩ := C
  obtain ⟨hoM, hcode, hini, hy1, hy2, hdesc⟩ := hy
  obtain ⟨i, hi0⟩ := at_CO hk
  have he := at_wsO (cA := cA) (ad := ad) (M := M) hi0
  rw [ent_o hk] at he
  have hrec := va_recv hK hH.1 hc he
  rw [hq] at hrec
  have hpre : ∀ U : State, U.heap = H → s.WarmedH U.vm → PW D cA ad H.size M (vr o :: as) (Value.ref (ad o) :: as.map (cV ad)).toArray U := fun U hU hW => ⟨rfl, by rw [hU], by rw [hU]; exact hH.1, va_K.moved hW.alike hK, hH.2.1.weaken (fun _ _ _ _ => trivial), hN.warm hW⟩
  have hG := wsM_good y hcode
  have hroom : (rmO y).frames + 1 ≤ R.frames ∧ 8 + (y.2.2.1 + 11) + (rmO y).locals ≤ R.locals := ⟨Nat.le_trans hrm.1 hR.1, Nat.le_trans hrm.2 hR.2⟩
  have hstack : ((as.reverse ++ vr o :: st).map (cV ad)) = (as.map (cV ad)).reverse ++ Value.ref (ad o) :: st.map (cV ad) := by
    rw [List.map_append, List.map_reverse]; rfl
  have hcat : 2 * (F0 mid pc ls ((as.reverse ++ vr o :: st).map (cV ad))).monitorRoom + ((st.map (cV ad)).map fun v => v.category).sum ≤ 8 := lv_room (by rw [cat_sum]; exact hst)
  rcases hl with hl | ⟨host, hl⟩
  · refine va_runV (As := as.map (cV ad)) (rest := st.map (cV ad)) (n := n) (C := y.1.cls) (Ts := TB) (own := m.1.cls) (nL := m.2.2.1) (bytes := y.2.1) (maxL := y.2.2.1) (ret := y.2.2.2.1) ⟨hx, hb, hml, hown, hts⟩ hM ?_ ⟨PW_blind, hrec, hpre⟩ rfl (by rw [List.length_map]; exact hn) hlv.1 hstack hcat hd ⟨hcs.1, hcs.2⟩
    exact ⟨⟨rfl, rfl, hroom.1, hroom.2, pay_in hts hG, List.mem_cons_self, hts _ hcode, hts _ hini, ⟨hy1, hy2⟩, fun sig h => by rw [h] at hdesc; exact (Option.some.inj hdesc).symm, hts _ hl⟩, hts _ hi, hts _ hs⟩
  · refine va_runVN (As := as.map (cV ad)) (rest := st.map (cV ad)) (n := n) (C := y.1.cls) (host := host) (Ts := TB) (own := m.1.cls) (nL := m.2.2.1) (bytes := y.2.1) (maxL := y.2.2.1) (ret := y.2.2.2.1) ⟨hx, hb, hml, hown, hts⟩ hM ?_ ⟨PW_blind, hrec, hpre⟩ rfl (by rw [List.length_map]; exact hn) hlv.1 hstack hcat hd ⟨hcs.1, hcs.2⟩
    exact ⟨va_cnB n hts hG rfl rfl rfl (hN _ hl rfl) (hts _ hini) ⟨hy1, hy2, hdesc⟩ hroom, hts _ hi, hts _ hs⟩
theorem runS {p : Program} {l : Launch} {e : Env} {R : Room} {s : State} {mid : MethodId} {args : Array Value} {below : List Frame} {meth : Method} {c : Code} {cells slots : Nat} {D : va_G} {cA : FieldType → ClassId} {ad : Nat → Nat} {A : Nat → Prop} {ls : Array Slot} {H : Heap} {locs : List Loc} {Qc : Array Value → State → Outcome → State → Prop} {n index : Nat} {as : List AV}
    (C : Ctx X m p R s mid args c cells slots D cA ad A) (hM : Met l y.1 (wsM y) (rmO y) (PW D cA ad H.size M as) Qc 0 0 (va_A (wsO cA ad M) H.size)) (hy : okC y n) (hi : Cond.static y.1 ∈ TB) (hl : ML m.1.cls index y.1) (hn : as.length = n) (hrm : okRm m y) (hst : wds st ≤ 8)
    (hd : decode m.2.1 pc = .ok (.invokestatic index, 3)) (hlv : lv_has ls m.2.2.1 (cL ad loc)) (hH : Hd D cA ad A s M H locs) :
    va_Run p l e R s mid args below meth c H locs cells slots 0 0 (F0 mid pc ls ((as.reverse ++ st).map (cV ad))) (st.map (cV ad)) (Qc (as.map (cV ad)).toArray) (va_A (wsO cA ad M) H.size) := by
  obtain ⟨hx, hb, hml, hown, hts, hN, hK, hA, hR, hcs, -⟩ := C
  obtain ⟨hoM, hcode, hini, hy1, hy2, hdesc⟩ := hy
  have hpre : ∀ U : State, U.heap = H → s.WarmedH U.vm → PW D cA ad H.size M as (as.map (cV ad)).toArray U := fun U hU hW => ⟨rfl, by rw [hU], by rw [hU]; exact hH.1, va_K.moved hW.alike hK, hH.2.1.weaken (fun _ _ _ _ => trivial), hN.warm hW⟩
  have hG := wsM_good y hcode
  have hroom : (rmO y).frames + 1 ≤ R.frames ∧ 8 + (y.2.2.1 + 11) + (rmO y).locals ≤ R.locals := ⟨Nat.le_trans hrm.1 hR.1, Nat.le_trans hrm.2 hR.2⟩
  have hstack : ((as.reverse ++ st).map (cV ad)) = (as.map (cV ad)).reverse ++ st.map (cV ad) := by
    rw [List.map_append, List.map_reverse]
  have hcat : 2 * (F0 mid pc ls ((as.reverse ++ st).map (cV ad))).monitorRoom + ((st.map (cV ad)).map fun v => v.category).sum ≤ 8 := lv_room (by rw [cat_sum]; exact hst)
  rcases hl with hl | ⟨host, hl⟩
  · refine va_runS (As := as.map (cV ad)) (rest := st.map (cV ad)) (n := n) (Ts := TB) (own := m.1.cls) (nL := m.2.2.1) (bytes := y.2.1) (maxL := y.2.2.1) (ret := y.2.2.2.1) ⟨hx, hb, hml, hown, hts⟩ hM ?_ ⟨PW_blind, hpre⟩ rfl (by rw [List.length_map]; exact hn) hlv.1 hstack hcat hd ⟨hcs.1, hcs.2⟩
    exact ⟨⟨rfl, rfl, hroom.1, hroom.2, pay_in hts hG, List.mem_cons_self, hts _ hcode, hts _ hini, ⟨hy1, hy2⟩, fun sig h => by rw [h] at hdesc; exact (Option.some.inj hdesc).symm, hts _ hl⟩, hts _ hi⟩
  · refine va_runSN (As := as.map (cV ad)) (rest := st.map (cV ad)) (n := n) (host := host) (Ts := TB) (own := m.1.cls) (nL := m.2.2.1) (bytes := y.2.1) (maxL := y.2.2.1) (ret := y.2.2.2.1) ⟨hx, hb, hml, hown, hts⟩ hM ?_ ⟨PW_blind, hpre⟩ rfl (by rw [List.length_map]; exact hn) hlv.1 hstack hcat hd ⟨hcs.1, hcs.2⟩
    exact ⟨va_cnB n hts hG rfl rfl rfl (hN _ hl rfl) (hts _ hini) ⟨hy1, hy2, hdesc⟩ hroom, hts _ hi, trivial⟩
/-- the way on behind a call -/
theorem free_A {s : State} {D : va_G} {cA : FieldType → ClassId} {ad : Nat → Nat} {A : Nat → Prop} {H : Heap} {locs : List Loc} (hH : Hd D cA ad A s M H locs) (hA : ∀ q, s.heap.size ≤ q → A q) : ∀ q, va_A (wsO cA ad M) H.size q → A q := by
  intro q h
  rcases h with ⟨k, e, h⟩ | h
  · exact hH.2.1.2 k (q, e) h
  · exact hA q (Nat.le_trans hH.2.2.1 h)
theorem Runs.callVi {n index o ci : Nat} {as : List AV} {q : vw_C} (hd : decode m.2.1 pc = .ok (.invokevirtual index, 3)) (hy : okC y n) (hi : Cond.instanceMethod y.1 ∈ TB) (hs : Cond.selects y.1.cls y.1 y.1 ∈ TB) (hl : ML m.1.cls index y.1) (hn : as.length = n) (hrm : okRm m y) (hst : wds st ≤ 8) (hw : wds (vr o :: as) ≤ y.2.2.1) (hk : kd o = some (.inl ci)) (hc : vwCl[ci]? = some q) (hq : q.1 = y.1.cls) (hr : y.2.2.2.1 = some .int ∨ y.2.2.2.1 = some .boolean)
    (hC : Call X y (vr o :: as) M P') (kk : ∀ (z : Int) (M1 : Mem), P' (some (vi z)) M1 → Runs X m (pc + 3) loc (vi z :: st) M1 P) : Runs X m pc loc (as.reverse ++ vr o :: st) M P := by
  intro p l e R s mid args below meth c cells slots D cA ad A Q C F hM hL hS ls H locs hlv hH
  have hS2 := wfS_r (as := as) (rest := vr o :: st) hS
  refine va_calli (runV C (met_i hC hy.1 hw (wfS_c trivial hS2.1) hM hr) hy hi hs hl hn hrm hst hk hc hq hd hlv hH) hH.2.2 (fun q _ h => free_A hH C.2.2.2.2.2.2.2.1 q h) (free_A hH C.2.2.2.2.2.2.2.1) (fun r u t H1 locs1 ht hvm hpost hB hz1 hk1 hS1 => ?_)
  obtain ⟨z, rfl, hz, hP'⟩ := hpost
  obtain ⟨b1, b2, b3, b4⟩ := hB
  rw [ht] at b1
  exact kk z u hP' p l e R s mid args below meth c cells slots D cA ad A Q C F b4 hL (wfS_c hz (wfS_t hS2.2)) ls H1 locs1 hlv ⟨b1, D_wsO u hH.2.1, hS1⟩
theorem Runs.callVl {n index o ci : Nat} {as : List AV} {q : vw_C} (hd : decode m.2.1 pc = .ok (.invokevirtual index, 3)) (hy : okC y n) (hi : Cond.instanceMethod y.1 ∈ TB) (hs : Cond.selects y.1.cls y.1 y.1 ∈ TB) (hl : ML m.1.cls index y.1) (hn : as.length = n) (hrm : okRm m y) (hst : wds st ≤ 8) (hw : wds (vr o :: as) ≤ y.2.2.1) (hk : kd o = some (.inl ci)) (hc : vwCl[ci]? = some q) (hq : q.1 = y.1.cls) (hr : y.2.2.2.1 = some .long)
    (hC : Call X y (vr o :: as) M P') (kk : ∀ (z : Int) (M1 : Mem), P' (some (vl z)) M1 → Runs X m (pc + 3) loc (vl z :: st) M1 P) : Runs X m pc loc (as.reverse ++ vr o :: st) M P := by
  intro p l e R s mid args below meth c cells slots D cA ad A Q C F hM hL hS ls H locs hlv hH
  have hS2 := wfS_r (as := as) (rest := vr o :: st) hS
  refine va_calll (runV C (met_l hC hy.1 hw (wfS_c trivial hS2.1) hM hr) hy hi hs hl hn hrm hst hk hc hq hd hlv hH) hH.2.2 (fun q _ h => free_A hH C.2.2.2.2.2.2.2.1 q h) (free_A hH C.2.2.2.2.2.2.2.1) (fun r u t H1 locs1 ht hvm hpost hB hz1 hk1 hS1 => ?_)
  obtain ⟨z, rfl, hz, hP'⟩ := hpost
  obtain ⟨b1, b2, b3, b4⟩ := hB
  rw [ht] at b1
  exact kk z u hP' p l e R s mid args below meth c cells slots D cA ad A Q C F b4 hL (wfS_c hz (wfS_t hS2.2)) ls H1 locs1 hlv ⟨b1, D_wsO u hH.2.1, hS1⟩
theorem Runs.callVv {n index o ci : Nat} {as : List AV} {q : vw_C} (hd : decode m.2.1 pc = .ok (.invokevirtual index, 3)) (hy : okC y n) (hi : Cond.instanceMethod y.1 ∈ TB) (hs : Cond.selects y.1.cls y.1 y.1 ∈ TB) (hl : ML m.1.cls index y.1) (hn : as.length = n) (hrm : okRm m y) (hst : wds st ≤ 8) (hw : wds (vr o :: as) ≤ y.2.2.1) (hk : kd o = some (.inl ci)) (hc : vwCl[ci]? = some q) (hq : q.1 = y.1.cls) (hr : y.2.2.2.1 = none)
    (hC : Call X y (vr o :: as) M P') (kk : ∀ (M1 : Mem), P' none M1 → Runs X m (pc + 3) loc st M1 P) : Runs X m pc loc (as.reverse ++ vr o :: st) M P := by
  intro p l e R s mid args below meth c cells slots D cA ad A Q C F hM hL hS ls H locs hlv hH
  have hS2 := wfS_r (as := as) (rest := vr o :: st) hS
  refine va_callv (runV C (met_v hC hy.1 hw (wfS_c trivial hS2.1) hM hr) hy hi hs hl hn hrm hst hk hc hq hd hlv hH) hH.2.2 (fun q _ h => free_A hH C.2.2.2.2.2.2.2.1 q h) (free_A hH C.2.2.2.2.2.2.2.1) (fun u t H1 locs1 ht hvm hpost hB hz1 hk1 hS1 => ?_)
  obtain ⟨b1, b2, b3, b4⟩ := hB
  rw [ht] at b1
  exact kk u hpost p l e R s mid args below meth c cells slots D cA ad A Q C F b4 hL (wfS_t hS2.2) ls H1 locs1 hlv ⟨b1, D_wsO u hH.2.1, hS1⟩
theorem Runs.callSi {n index : Nat} {as : List AV} (hd : decode m.2.1 pc = .ok (.invokestatic index, 3)) (hy : okC y n) (hi : Cond.static y.1 ∈ TB) (hl : ML m.1.cls index y.1) (hn : as.length = n) (hrm : okRm m y) (hst : wds st ≤ 8) (hw : wds as ≤ y.2.2.1) (hr : y.2.2.2.1 = some .int ∨ y.2.2.2.1 = some .boolean)
    (hC : Call X y as M P') (kk : ∀ (z : Int) (M1 : Mem), P' (some (vi z)) M1 → Runs X m (pc + 3) loc (vi z :: st) M1 P) : Runs X m pc loc (as.reverse ++ st) M P := by
  intro p l e R s mid args below meth c cells slots D cA ad A Q C F hM hL hS ls H locs hlv hH
  have hS2 := wfS_r (as := as) (rest := st) hS
  refine va_calli (runS C (met_i hC hy.1 hw hS2.1 hM hr) hy hi hl hn hrm hst hd hlv hH) hH.2.2 (fun q _ h => free_A hH C.2.2.2.2.2.2.2.1 q h) (free_A hH C.2.2.2.2.2.2.2.1) (fun r u t H1 locs1 ht hvm hpost hB hz1 hk1 hS1 => ?_)
  obtain ⟨z, rfl, hz, hP'⟩ := hpost
  obtain ⟨b1, b2, b3, b4⟩ := hB
  rw [ht] at b1
  exact kk z u hP' p l e R s mid args below meth c cells slots D cA ad A Q C F b4 hL (wfS_c hz hS2.2) ls H1 locs1 hlv ⟨b1, D_wsO u hH.2.1, hS1⟩
theorem Runs.callSl {n index : Nat} {as : List AV} (hd : decode m.2.1 pc = .ok (.invokestatic index, 3)) (hy : okC y n) (hi : Cond.static y.1 ∈ TB) (hl : ML m.1.cls index y.1) (hn : as.length = n) (hrm : okRm m y) (hst : wds st ≤ 8) (hw : wds as ≤ y.2.2.1) (hr : y.2.2.2.1 = some .long)
    (hC : Call X y as M P') (kk : ∀ (z : Int) (M1 : Mem), P' (some (vl z)) M1 → Runs X m (pc + 3) loc (vl z :: st) M1 P) : Runs X m pc loc (as.reverse ++ st) M P := by
  intro p l e R s mid args below meth c cells slots D cA ad A Q C F hM hL hS ls H locs hlv hH
  have hS2 := wfS_r (as := as) (rest := st) hS
  refine va_calll (runS C (met_l hC hy.1 hw hS2.1 hM hr) hy hi hl hn hrm hst hd hlv hH) hH.2.2 (fun q _ h => free_A hH C.2.2.2.2.2.2.2.1 q h) (free_A hH C.2.2.2.2.2.2.2.1) (fun r u t H1 locs1 ht hvm hpost hB hz1 hk1 hS1 => ?_)
  obtain ⟨z, rfl, hz, hP'⟩ := hpost
  obtain ⟨b1, b2, b3, b4⟩ := hB
  rw [ht] at b1
  exact kk z u hP' p l e R s mid args below meth c cells slots D cA ad A Q C F b4 hL (wfS_c hz hS2.2) ls H1 locs1 hlv ⟨b1, D_wsO u hH.2.1, hS1⟩
theorem Runs.callSv {n index : Nat} {as : List AV} (hd : decode m.2.1 pc = .ok (.invokestatic index, 3)) (hy : okC y n) (hi : Cond.static y.1 ∈ TB) (hl : ML m.1.cls index y.1) (hn : as.length = n) (hrm : okRm m y) (hst : wds st ≤ 8) (hw : wds as ≤ y.2.2.1) (hr : y.2.2.2.1 = none)
    (hC : Call X y as M P') (kk : ∀ (M1 : Mem), P' none M1 → Runs X m (pc + 3) loc st M1 P) : Runs X m pc loc (as.reverse ++ st) M P := by
  intro p l e R s mid args below meth c cells slots D cA ad A Q C F hM hL hS ls H locs hlv hH
  have hS2 := wfS_r (as := as) (rest := st) hS
  refine va_callv (runS C (met_v hC hy.1 hw hS2.1 hM hr) hy hi hl hn hrm hst hd hlv hH) hH.2.2 (fun q _ h => free_A hH C.2.2.2.2.2.2.2.1 q h) (free_A hH C.2.2.2.2.2.2.2.1) (fun u t H1 locs1 ht hvm hpost hB hz1 hk1 hS1 => ?_)
  obtain ⟨b1, b2, b3, b4⟩ := hB
  rw [ht] at b1
  exact kk u hpost p l e R s mid args below meth c cells slots D cA ad A Q C F b4 hL hS2.2 ls H1 locs1 hlv ⟨b1, D_wsO u hH.2.1, hS1⟩
end CC
