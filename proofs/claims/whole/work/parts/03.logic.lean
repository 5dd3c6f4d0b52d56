/-! ===== the words of the tables that carry over a call ===== -/
def TB : List Cond := lw_tbl.filter goodWord
def isNest (w : Cond) : Bool := match w with
  | .fieldLinkNest .. => true
  | .methodLinkNest .. => true
  | _ => false
def NW (U : State) : Prop := ∀ w ∈ tables_1, isNest w = true → va_Nw w U
theorem NW.warm {s U : State} (hW : s.WarmedH U.vm) (h : NW s) : NW U := by
  intro w hw hn
  have h1 := h w hw hn
  cases w with
  | fieldLinkNest a i b n d hh => exact va_Nw.warmF hW h1
  | methodLinkNest a i y hh => exact va_Nw.warmM hW h1
  | _ => cases hn
theorem NW.same {u U : State} (hv : u.vm = U.vm) (h : NW u) : NW U := by
  intro w hw hn
  have h1 := h w hw hn
  cases w with
  | fieldLinkNest a i b n d hh => exact va_Nw.same rfl hv h1
  | methodLinkNest a i y hh => exact va_Nw.same rfl hv h1
  | _ => cases hn
theorem tb_of {w : Cond} (h : w ∈ lw_tbl) (g : goodWord w = true) : w ∈ TB := List.mem_filter.mpr ⟨h, g⟩
theorem tb_good : GoodIn TB TB := fun w h => ⟨h, good_of_word (List.mem_filter.mp h).2⟩
theorem tb_p {w : Cond} (i : Nat) (h : (k2_sels lw_privs)[i]? = some w) (g : goodWord w = true) : w ∈ TB := tb_of (List.mem_append_left _ (List.mem_of_getElem? h)) g
theorem tl_1 {w : Cond} (i : Nat) (h : tables_1_1[i]? = some w) : w ∈ tables_1 := List.mem_append_left _ (List.mem_of_getElem? h)
theorem tl_2 {w : Cond} (i : Nat) (h : tables_1_2[i]? = some w) : w ∈ tables_1 := List.mem_append_right _ (List.mem_append_left _ (List.mem_of_getElem? h))
theorem tl_3 {w : Cond} (i : Nat) (h : tables_1_3[i]? = some w) : w ∈ tables_1 := List.mem_append_right _ (List.mem_append_right _ (List.mem_append_left _ (List.mem_of_getElem? h)))
theorem tl_4 {w : Cond} (i : Nat) (h : tables_1_4[i]? = some w) : w ∈ tables_1 := List.mem_append_right _ (List.mem_append_right _ (List.mem_append_right _ (List.mem_append_left _ (List.mem_of_getElem? h))))
theorem tl_5 {w : Cond} (i : Nat) (h : tables_1_5[i]? = some w) : w ∈ tables_1 := List.mem_append_right _ (List.mem_append_right _ (List.mem_append_right _ (List.mem_append_right _ (List.mem_of_getElem? h))))
theorem tb_t {w : Cond} (h : w ∈ tables_1) (g : goodWord w = true) : w ∈ TB := tb_of (List.mem_append_right _ h) g
/-! ===== a method's run ===== -/
/-- name, bytes, locals, return type, frames and words below it -/
abbrev MR : Type := MethodName × ByteArray × Nat × Option FieldType × Nat × Nat
def rmO (m : MR) : Room := { frames := m.2.2.2.2.1, cells := 0, slots := 0, locals := m.2.2.2.2.2 }
def wsM (m : MR) : List Cond := Cond.code m.1 m.2.1 m.2.2.1 m.2.2.2.1 :: TB
def Hd (D : va_G) (cA : FieldType → ClassId) (ad : Nat → Nat) (A : Nat → Prop) (s : State) (M : Mem) (H : Heap) (locs : List Loc) : Prop :=
  va_P D vwCl (wsO cA ad M) H ∧ va_D A (wsO cA ad M) ∧ va_S A s.heap H locs
def Ctx (X : Scr) (m : MR) (p : Program) (R : Room) (s : State) (mid : MethodId) (args : Array Value) (c : Code) (cells slots : Nat) (D : va_G) (cA : FieldType → ClassId) (ad : Nat → Nat) (A : Nat → Prop) : Prop :=
  p.tables.exec = Jvm.exec ∧ c.code = m.2.1 ∧ c.maxLocals = m.2.2.1 ∧ s.vm.findClass m.1.cls = some mid.cls ∧ (∀ w ∈ TB, w.before args s = true) ∧ NW s ∧ va_K D vwCl (tysO cA) s ∧ (∀ q, s.heap.size ≤ q → A q) ∧ (m.2.2.2.2.1 ≤ R.frames ∧ m.2.2.2.2.2 ≤ R.locals) ∧ (cells ≤ R.cells ∧ slots ≤ R.slots) ∧
  (m.1 = yL_law → va_X (ad 999) X.1 (fun j => Int32.ofInt (X.2 j)) s s.heap ∧ ad 999 < s.heap.size ∧ ¬ A (ad 999))
def okR (ret : Option FieldType) (r : Option AV) : Prop := match ret, r with
  | none, none => True
  | some .int, some (.inl z) => inI z
  | some .boolean, some (.inl z) => 0 ≤ z ∧ z ≤ 1
  | some .long, some (.inr (.inl z)) => inL z
  | _, _ => False
def retOp (r : Option AV) : Instr := match r with
  | some (.inl _) => .ireturn
  | some (.inr (.inl _)) => .lreturn
  | _ => .return_
def FinR (m : MR) (P : Option AV → Mem → Prop) (p : Program) (l : Launch) (e : Env) (R : Room) (s : State) (mid : MethodId) (args : Array Value) (below : List Frame) (meth : Method) (c : Code) (cells slots : Nat) (D : va_G) (cA : FieldType → ClassId) (ad : Nat → Nat) (A : Nat → Prop) (Q : State → Prop) : Prop :=
  ∀ (r : Option AV) (M : Mem) (H : Heap) (locs : List Loc) (ls : Array Slot) (pc : Nat), P r M → wfM M → okR m.2.2.2.1 r → Hd D cA ad A s M H locs → decode m.2.1 pc = .ok (retOp r, 1) → W p l e R s mid args below meth c H locs cells slots Q (F0 mid pc ls ((r.map (cV ad)).toList))
def WS (nL : Nat) (p : Program) (l : Launch) (e : Env) (R : Room) (s : State) (mid : MethodId) (args : Array Value) (below : List Frame) (meth : Method) (c : Code) (cells slots : Nat) (D : va_G) (cA : FieldType → ClassId) (ad : Nat → Nat) (A : Nat → Prop) (Q : State → Prop) (pc : Nat) (loc : List (Nat × AV)) (st : List AV) (M : Mem) : Prop :=
  wfM M → wfL loc → wfS st → ∀ (ls : Array Slot) (H : Heap) (locs : List Loc), lv_has ls nL (cL ad loc) → Hd D cA ad A s M H locs → W p l e R s mid args below meth c H locs cells slots Q (F0 mid pc ls (st.map (cV ad)))
/-- from this place of the method, with these locals, this stack and this memory, it returns so that P -/
def Runs (X : Scr) (m : MR) (pc : Nat) (loc : List (Nat × AV)) (st : List AV) (M : Mem) (P : Option AV → Mem → Prop) : Prop :=
  ∀ (p : Program) (l : Launch) (e : Env) (R : Room) (s : State) (mid : MethodId) (args : Array Value) (below : List Frame) (meth : Method) (c : Code) (cells slots : Nat) (D : va_G) (cA : FieldType → ClassId) (ad : Nat → Nat) (A : Nat → Prop) (Q : State → Prop),
    Ctx X m p R s mid args c cells slots D cA ad A → FinR m P p l e R s mid args below meth c cells slots D cA ad A Q → WS m.2.2.1 p l e R s mid args below meth c cells slots D cA ad A Q pc loc st M
section RR
variable {X : Scr} {m : MR} {pc pc' : Nat} {loc loc' : List (Nat × AV)} {st st' : List AV} {M M' : Mem} {P : Option AV → Mem → Prop}
theorem Runs.lift (h : ∀ (p : Program) (l : Launch) (e : Env) (R : Room) (s : State) (mid : MethodId) (args : Array Value) (below : List Frame) (meth : Method) (c : Code) (cells slots : Nat) (D : va_G) (cA : FieldType → ClassId) (ad : Nat → Nat) (A : Nat → Prop) (Q : State → Prop), Ctx X m p R s mid args c cells slots D cA ad A → WS m.2.2.1 p l e R s mid args below meth c cells slots D cA ad A Q pc' loc' st' M' → WS m.2.2.1 p l e R s mid args below meth c cells slots D cA ad A Q pc loc st M) (k : Runs X m pc' loc' st' M' P) : Runs X m pc loc st M P :=
  fun p l e R s mid args below meth c cells slots D cA ad A Q C F => h p l e R s mid args below meth c cells slots D cA ad A Q C (k p l e R s mid args below meth c cells slots D cA ad A Q C F)
theorem wfS_c {v : AV} (hv : wfV v) (h : wfS st) : wfS (v :: st) := fun w hw => by
  rcases List.mem_cons.mp hw with rfl | h1
  · exact hv
  · exact h w h1
theorem wfS_h {v : AV} (h : wfS (v :: st)) : wfV v := h v List.mem_cons_self
theorem wfS_t {v : AV} (h : wfS (v :: st)) : wfS st := fun w hw => h w (List.mem_cons_of_mem _ hw)
theorem wfL_at {k i : Nat} {v : AV} (h : wfL loc) (hk : loc[k]? = some (i, v)) : wfV v := h (i, v) (List.mem_of_getElem? hk)
theorem cL_at {ad : Nat → Nat} {k i : Nat} {v : AV} (hk : loc[k]? = some (i, v)) : (cL ad loc)[k]? = some (i, cV ad v) := by
  unfold cL
  rw [List.getElem?_map, hk]
  rfl
/-- what is in range may be used -/
theorem Runs.wf (k : wfM M → wfL loc → wfS st → Runs X m pc loc st M P) : Runs X m pc loc st M P :=
  fun p l e R s mid args below meth c cells slots D cA ad A Q C F hM hL hS => k hM hL hS p l e R s mid args below meth c cells slots D cA ad A Q C F hM hL hS
/-- fewer locals, in another order -/
theorem Runs.pick (h : ∀ q ∈ loc', q ∈ loc) (k : Runs X m pc loc' st M P) : Runs X m pc loc st M P := by
  refine Runs.lift (fun p l e R s mid args below meth c cells slots D cA ad A Q C w => ?_) k
  intro hM hL hS ls H locs hl hd
  refine w hM (fun q hq => hL q (h q hq)) hS ls H locs ⟨hl.1, hl.2.1, fun q hq => ?_⟩ hd
  unfold cL at hq
  obtain ⟨q0, h0, rfl⟩ := List.mem_map.mp hq
  exact hl.2.2 _ (List.mem_map.mpr ⟨q0, h _ h0, rfl⟩)
theorem Runs.mono {P' : Option AV → Mem → Prop} (k : Runs X m pc loc st M P') (h : ∀ r M1, P' r M1 → P r M1) : Runs X m pc loc st M P :=
  fun p l e R s mid args below meth c cells slots D cA ad A Q C F => k p l e R s mid args below meth c cells slots D cA ad A Q C (fun r M1 H locs ls q hP => F r M1 H locs ls q (h r M1 hP))
-- ===== constants and loads
theorem Runs.iload_n {k : Fin 4} {j : Nat} {z : Int} (hd : decode m.2.1 pc = .ok (.iload_n k, 1)) (hl : loc[j]? = some ((k : Nat), vi z)) (kk : Runs X m (pc + 1) loc (vi z :: st) M P) : Runs X m pc loc st M P := by
  refine Runs.lift (fun p l e R s mid args below meth c cells slots D cA ad A Q C w => ?_) kk
  intro hM hL hS ls H locs hlv hH
  exact lv_iload_n C.1 C.2.1 hd rfl (lv_at hlv j (cL_at hl)) (w hM hL (wfS_c (wfL_at hL hl) hS) ls H locs hlv hH)
theorem Runs.iload {i j : Nat} {z : Int} (hd : decode m.2.1 pc = .ok (.iload i, 2)) (hl : loc[j]? = some (i, vi z)) (kk : Runs X m (pc + 2) loc (vi z :: st) M P) : Runs X m pc loc st M P := by
  refine Runs.lift (fun p l e R s mid args below meth c cells slots D cA ad A Q C w => ?_) kk
  intro hM hL hS ls H locs hlv hH
  exact lv_iload C.1 C.2.1 hd (lv_at hlv j (cL_at hl)) (w hM hL (wfS_c (wfL_at hL hl) hS) ls H locs hlv hH)
theorem Runs.lload_n {k : Fin 4} {j : Nat} {z : Int} (hd : decode m.2.1 pc = .ok (.lload_n k, 1)) (hl : loc[j]? = some ((k : Nat), vl z)) (kk : Runs X m (pc + 1) loc (vl z :: st) M P) : Runs X m pc loc st M P := by
  refine Runs.lift (fun p l e R s mid args below meth c cells slots D cA ad A Q C w => ?_) kk
  intro hM hL hS ls H locs hlv hH
  exact lv_lload_n C.1 C.2.1 hd rfl (lv_at hlv j (cL_at hl)) (w hM hL (wfS_c (wfL_at hL hl) hS) ls H locs hlv hH)
theorem Runs.lload {i j : Nat} {z : Int} (hd : decode m.2.1 pc = .ok (.lload i, 2)) (hl : loc[j]? = some (i, vl z)) (kk : Runs X m (pc + 2) loc (vl z :: st) M P) : Runs X m pc loc st M P := by
  refine Runs.lift (fun p l e R s mid args below meth c cells slots D cA ad A Q C w => ?_) kk
  intro hM hL hS ls H locs hlv hH
  exact lv_lload C.1 C.2.1 hd (lv_at hlv j (cL_at hl)) (w hM hL (wfS_c (wfL_at hL hl) hS) ls H locs hlv hH)
theorem Runs.aload_n {k : Fin 4} {j o : Nat} (hd : decode m.2.1 pc = .ok (.aload_n k, 1)) (hl : loc[j]? = some ((k : Nat), vr o)) (kk : Runs X m (pc + 1) loc (vr o :: st) M P) : Runs X m pc loc st M P := by
  refine Runs.lift (fun p l e R s mid args below meth c cells slots D cA ad A Q C w => ?_) kk
  intro hM hL hS ls H locs hlv hH
  exact lv_aload_n C.1 C.2.1 hd rfl (lv_at hlv j (cL_at hl)) (w hM hL (wfS_c trivial hS) ls H locs hlv hH)
theorem Runs.iconst {n : Int} (hd : decode m.2.1 pc = .ok (.iconst n, 1)) (hn : inI n) (kk : Runs X m (pc + 1) loc (vi n :: st) M P) : Runs X m pc loc st M P := by
  refine Runs.lift (fun p l e R s mid args below meth c cells slots D cA ad A Q C w => ?_) kk
  intro hM hL hS ls H locs hlv hH
  exact lv_iconst C.1 C.2.1 hd rfl (w hM hL (wfS_c hn hS) ls H locs hlv hH)
theorem Runs.bipush {n : Int} (hd : decode m.2.1 pc = .ok (.bipush n, 2)) (hn : (Int8.ofInt n).toInt32 = Int32.ofInt n) (hi : inI n) (kk : Runs X m (pc + 2) loc (vi n :: st) M P) : Runs X m pc loc st M P := by
  refine Runs.lift (fun p l e R s mid args below meth c cells slots D cA ad A Q C w => ?_) kk
  intro hM hL hS ls H locs hlv hH
  exact lv_bipush C.1 C.2.1 hd hn (w hM hL (wfS_c hi hS) ls H locs hlv hH)
theorem Runs.sipush {n : Int} (hd : decode m.2.1 pc = .ok (.sipush n, 3)) (hn : (Int16.ofInt n).toInt32 = Int32.ofInt n) (hi : inI n) (kk : Runs X m (pc + 3) loc (vi n :: st) M P) : Runs X m pc loc st M P := by
  refine Runs.lift (fun p l e R s mid args below meth c cells slots D cA ad A Q C w => ?_) kk
  intro hM hL hS ls H locs hlv hH
  exact lv_sipush C.1 C.2.1 hd hn (w hM hL (wfS_c hi hS) ls H locs hlv hH)
theorem Runs.lconst {n : Fin 2} {z : Int} (hd : decode m.2.1 pc = .ok (.lconst n, 1)) (hn : Int64.ofNat (n : Nat) = Int64.ofInt z) (hi : inL z) (kk : Runs X m (pc + 1) loc (vl z :: st) M P) : Runs X m pc loc st M P := by
  refine Runs.lift (fun p l e R s mid args below meth c cells slots D cA ad A Q C w => ?_) kk
  intro hM hL hS ls H locs hlv hH
  exact lv_lconst C.1 C.2.1 hd hn (w hM hL (wfS_c hi hS) ls H locs hlv hH)
theorem Runs.ldc2 {index : Nat} {v : Int64} {z : Int} (hd : decode m.2.1 pc = .ok (.ldc2_w index, 3)) (hw : Cond.constantLong m.1.cls index v ∈ TB) (hv : v = Int64.ofInt z) (hi : inL z) (kk : Runs X m (pc + 3) loc (vl z :: st) M P) : Runs X m pc loc st M P := by
  refine Runs.lift (fun p l e R s mid args below meth c cells slots D cA ad A Q C w => ?_) kk
  intro hM hL hS ls H locs hlv hH
  subst hv
  exact lv_ldc2 C.1 C.2.1 C.2.2.2.1 (C.2.2.2.2.1 _ hw) hd (w hM hL (wfS_c hi hS) ls H locs hlv hH)
theorem Runs.ldcw {index : Nat} {v : Int32} {z : Int} (hd : decode m.2.1 pc = .ok (.ldc_w index, 3)) (hw : Cond.constant m.1.cls index v ∈ TB) (hv : v = Int32.ofInt z) (hi : inI z) (kk : Runs X m (pc + 3) loc (vi z :: st) M P) : Runs X m pc loc st M P := by
  refine Runs.lift (fun p l e R s mid args below meth c cells slots D cA ad A Q C w => ?_) kk
  intro hM hL hS ls H locs hlv hH
  subst hv
  exact lv_ldcw C.1 C.2.1 C.2.2.2.1 (C.2.2.2.2.1 _ hw) hd (w hM hL (wfS_c hi hS) ls H locs hlv hH)
-- ===== stack
theorem cV_cat1 {ad : Nat → Nat} {v : AV} (h : ∀ z, v ≠ vl z) : (cV ad v).category = 1 := by
  rcases v with z | z | o
  · rfl
  · exact absurd rfl (h z)
  · rfl
theorem Runs.dup {v : AV} (hd : decode m.2.1 pc = .ok (.dup, 1)) (hv : ∀ z, v ≠ vl z) (kk : Runs X m (pc + 1) loc (v :: v :: st) M P) : Runs X m pc loc (v :: st) M P := by
  refine Runs.lift (fun p l e R s mid args below meth c cells slots D cA ad A Q C w => ?_) kk
  intro hM hL hS ls H locs hlv hH
  exact lv_dup C.1 C.2.1 hd (cV_cat1 hv) (w hM hL (wfS_c (wfS_h hS) hS) ls H locs hlv hH)
theorem Runs.dup2 {v u : AV} (hd : decode m.2.1 pc = .ok (.dup2, 1)) (hv : ∀ z, v ≠ vl z) (hu : ∀ z, u ≠ vl z) (kk : Runs X m (pc + 1) loc (v :: u :: v :: u :: st) M P) : Runs X m pc loc (v :: u :: st) M P := by
  refine Runs.lift (fun p l e R s mid args below meth c cells slots D cA ad A Q C w => ?_) kk
  intro hM hL hS ls H locs hlv hH
  exact lv_dup2_11 C.1 C.2.1 hd (cV_cat1 hv) (cV_cat1 hu) (w hM hL (wfS_c (wfS_h hS) (wfS_c (wfS_h (wfS_t hS)) hS)) ls H locs hlv hH)
theorem Runs.pop {v : AV} (hd : decode m.2.1 pc = .ok (.pop, 1)) (hv : ∀ z, v ≠ vl z) (kk : Runs X m (pc + 1) loc st M P) : Runs X m pc loc (v :: st) M P := by
  refine Runs.lift (fun p l e R s mid args below meth c cells slots D cA ad A Q C w => ?_) kk
  intro hM hL hS ls H locs hlv hH
  exact lv_pop C.1 C.2.1 hd (cV_cat1 hv) (w hM hL (wfS_t hS) ls H locs hlv hH)
end RR
