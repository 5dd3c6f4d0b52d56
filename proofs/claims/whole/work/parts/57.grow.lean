/-! ===== a world that grows: constructors ===== -/
def AO (s : State) : Prop := va_AO "TeethForCoins$Slot" s ∧ va_AO "TeethForCoins$Teeth" s
theorem AO.moved {u U : State} (hvm : u.vm.Alike U.vm) (h : AO u) : AO U := ⟨h.1.moved hvm, h.2.moved hvm⟩
def GC (m : MR) (p : Program) (R : Room) (s : State) (mid : MethodId) (args : Array Value) (meth : Method) (c : Code) (D : va_G) (cA : FieldType → ClassId) (A : Nat → Prop) (mc ms : Nat) : Prop :=
  p.tables.exec = Jvm.exec ∧ c.code = m.2.1 ∧ c.maxLocals = m.2.2.1 ∧ s.vm.findClass m.1.cls = some mid.cls ∧ (∀ w ∈ TB, w.before args s = true) ∧ NW s ∧ va_K D vwCl (tysO cA) s ∧ (∀ q, s.heap.size ≤ q → A q) ∧ (m.2.2.2.2.1 ≤ R.frames ∧ m.2.2.2.2.2 ≤ R.locals) ∧ (mc ≤ R.cells ∧ ms ≤ R.slots) ∧ (m.1.name = "<init>" → meth.name = "<init>") ∧ AO s
def GH (D : va_G) (A : Nat → Prop) (s : State) (ws : va_W) (H : Heap) (locs : List Loc) : Prop := va_P D vwCl ws H ∧ va_D A ws ∧ va_S A s.heap H locs
/-- from this place, with these locals, this stack and this world (k cells of n slots made), it returns in a world of which P holds -/
def GW (D : va_G) (cA : FieldType → ClassId) (m : MR) (mc ms pc : Nat) (loc : List (Nat × Value)) (st : List Value) (ws : va_W) (k n : Nat) (P : va_W → Prop) : Prop :=
  ∀ (p : Program) (l : Launch) (e : Env) (R : Room) (s : State) (mid : MethodId) (args : Array Value) (below : List Frame) (meth : Method) (c : Code) (A : Nat → Prop) (Q : State → Prop), GC m p R s mid args meth c D cA A mc ms →
    (∀ (ws' : va_W) (H : Heap) (locs : List Loc) (ls : Array Slot) (pc : Nat), P ws' → GH D A s ws' H locs → decode m.2.1 pc = .ok (.return_, 1) → W p l e R s mid args below meth c H locs mc ms Q (F0 mid pc ls [])) →
    ∀ (ls : Array Slot) (H : Heap) (locs : List Loc), lv_has ls m.2.2.1 loc → GH D A s ws H locs → W p l e R s mid args below meth c H locs k n Q (F0 mid pc ls st)
def dfl (ci : Nat) : List Value := (List.range (nFd ci)).map (fun j => defaultValue (ftC ci j))
/-- a constructor's contract -/
def GI (D : va_G) (cA : FieldType → ClassId) (y : MR) (mc ms ci : Nat) (P : Nat → va_W → Prop) : Prop := ∀ q : Nat, GW D cA y mc ms 0 [(0, .ref q)] [] [(q, .inr (ci, dfl ci))] 0 0 (P q)
section GR
variable {D : va_G} {cA : FieldType → ClassId} {m : MR} {mc ms pc pc' k n k' n' : Nat} {loc loc' : List (Nat × Value)} {st st' : List Value} {ws ws' : va_W} {P : va_W → Prop}
theorem GW.lift (h : ∀ (p : Program) (l : Launch) (e : Env) (R : Room) (s : State) (mid : MethodId) (args : Array Value) (below : List Frame) (meth : Method) (c : Code) (A : Nat → Prop) (Q : State → Prop), GC m p R s mid args meth c D cA A mc ms → (∀ (ls : Array Slot) (H : Heap) (locs : List Loc), lv_has ls m.2.2.1 loc' → GH D A s ws' H locs → W p l e R s mid args below meth c H locs k' n' Q (F0 mid pc' ls st')) → ∀ (ls : Array Slot) (H : Heap) (locs : List Loc), lv_has ls m.2.2.1 loc → GH D A s ws H locs → W p l e R s mid args below meth c H locs k n Q (F0 mid pc ls st)) (kk : GW D cA m mc ms pc' loc' st' ws' k' n' P) : GW D cA m mc ms pc loc st ws k n P :=
  fun p l e R s mid args below meth c A Q C F => h p l e R s mid args below meth c A Q C (kk p l e R s mid args below meth c A Q C F)
theorem GW.done (hd : decode m.2.1 pc = .ok (.return_, 1)) (hk : k ≤ mc) (hn : n ≤ ms) (hP : P ws) : GW D cA m mc ms pc loc [] ws k n P := by
  intro p l e R s mid args below meth c A Q C F ls H locs hl hH
  exact W.widen hk hn (F ws H locs ls pc hP hH hd)
theorem GW.aload_n {i : Fin 4} {j a : Nat} (hd : decode m.2.1 pc = .ok (.aload_n i, 1)) (hl : loc[j]? = some ((i : Nat), .ref a)) (kk : GW D cA m mc ms (pc + 1) loc (.ref a :: st) ws k n P) : GW D cA m mc ms pc loc st ws k n P := by
  refine GW.lift (fun p l e R s mid args below meth c A Q C w => ?_) kk
  intro ls H locs hlv hH
  exact lv_aload_n C.1 C.2.1 hd rfl (lv_at hlv j hl) (w ls H locs hlv hH)
theorem GW.iload_n {i : Fin 4} {j : Nat} {z : Int32} (hd : decode m.2.1 pc = .ok (.iload_n i, 1)) (hl : loc[j]? = some ((i : Nat), .int z)) (kk : GW D cA m mc ms (pc + 1) loc (.int z :: st) ws k n P) : GW D cA m mc ms pc loc st ws k n P := by
  refine GW.lift (fun p l e R s mid args below meth c A Q C w => ?_) kk
  intro ls H locs hlv hH
  exact lv_iload_n C.1 C.2.1 hd rfl (lv_at hlv j hl) (w ls H locs hlv hH)
theorem GW.iconst {z : Int} (hd : decode m.2.1 pc = .ok (.iconst z, 1)) (kk : GW D cA m mc ms (pc + 1) loc (.int (Int32.ofInt z) :: st) ws k n P) : GW D cA m mc ms pc loc st ws k n P := by
  refine GW.lift (fun p l e R s mid args below meth c A Q C w => ?_) kk
  intro ls H locs hlv hH
  exact lv_iconst C.1 C.2.1 hd rfl (w ls H locs hlv hH)
theorem GW.bipush {z : Int} (hd : decode m.2.1 pc = .ok (.bipush z, 2)) (hz : (Int8.ofInt z).toInt32 = Int32.ofInt z) (kk : GW D cA m mc ms (pc + 2) loc (.int (Int32.ofInt z) :: st) ws k n P) : GW D cA m mc ms pc loc st ws k n P := by
  refine GW.lift (fun p l e R s mid args below meth c A Q C w => ?_) kk
  intro ls H locs hlv hH
  exact lv_bipush C.1 C.2.1 hd hz (w ls H locs hlv hH)
theorem GW.sipush {z : Int} (hd : decode m.2.1 pc = .ok (.sipush z, 3)) (hz : (Int16.ofInt z).toInt32 = Int32.ofInt z) (kk : GW D cA m mc ms (pc + 3) loc (.int (Int32.ofInt z) :: st) ws k n P) : GW D cA m mc ms pc loc st ws k n P := by
  refine GW.lift (fun p l e R s mid args below meth c A Q C w => ?_) kk
  intro ls H locs hlv hH
  exact lv_sipush C.1 C.2.1 hd hz (w ls H locs hlv hH)
theorem GW.lconst {i : Fin 2} {z : Int} (hd : decode m.2.1 pc = .ok (.lconst i, 1)) (hz : Int64.ofNat (i : Nat) = Int64.ofInt z) (kk : GW D cA m mc ms (pc + 1) loc (.long (Int64.ofInt z) :: st) ws k n P) : GW D cA m mc ms pc loc st ws k n P := by
  refine GW.lift (fun p l e R s mid args below meth c A Q C w => ?_) kk
  intro ls H locs hlv hH
  exact lv_lconst C.1 C.2.1 hd hz (w ls H locs hlv hH)
theorem GW.goto {off : Int} {tgt : Nat} (hd : decode m.2.1 pc = .ok (.goto off, 3)) (ht : (pc : Int) + off = (tgt : Int)) (kk : GW D cA m mc ms tgt loc st ws k n P) : GW D cA m mc ms pc loc st ws k n P := by
  refine GW.lift (fun p l e R s mid args below meth c A Q C w => ?_) kk
  intro ls H locs hlv hH
  exact lv_goto C.1 C.2.1 hd ht (w ls H locs hlv hH)
theorem GW.icmp_ge {off : Int} {tgt : Nat} {a b : Int} (hd : decode m.2.1 pc = .ok (.if_icmp .ge off, 3)) (ht : (pc : Int) + off = (tgt : Int)) (ha : inI a) (hb : inI b) (k1 : b ≤ a → GW D cA m mc ms tgt loc st ws k n P) (k2 : a < b → GW D cA m mc ms (pc + 3) loc st ws k n P) : GW D cA m mc ms pc loc (.int (Int32.ofInt b) :: .int (Int32.ofInt a) :: st) ws k n P := by
  intro p l e R s mid args below meth c A Q C F ls H locs hlv hH
  exact lv_icmp_ge C.1 C.2.1 hd ht (fun h => k1 ((i32_le hb ha).mp h) p l e R s mid args below meth c A Q C F ls H locs hlv hH) (fun h => k2 (by
    have h3 : ¬ b ≤ a := fun q => h ((i32_le hb ha).mpr q)
    omega) p l e R s mid args below meth c A Q C F ls H locs hlv hH)
theorem GW.istore_n {i : Fin 4} {j : Nat} {z : Int32} (hd : decode m.2.1 pc = .ok (.istore_n i, 1)) (hi : (i : Nat) = j) (hn : j < m.2.2.1) (hl : (j, Value.int z) :: loc.filter (fun q => !(q.1 == j) && !(q.1 + 1 == j && q.2.category == 2)) = loc') (kk : GW D cA m mc ms (pc + 1) loc' st ws k n P) : GW D cA m mc ms pc loc (.int z :: st) ws k n P := by
  refine GW.lift (fun p l e R s mid args below meth c A Q C w => ?_) kk
  intro ls H locs hlv hH
  exact lv_istore_n C.1 C.2.1 hd hi hlv hn hl (fun ls' h' => w ls' H locs h' hH)
theorem GW.iinc {i j : Nat} {z y : Int} (hd : decode m.2.1 pc = .ok (.iinc i y, 3)) (hk : loc[j]? = some (i, .int (Int32.ofInt z))) (hn : i < m.2.2.1) (hl : (i, Value.int (Int32.ofInt (z + y))) :: loc.filter (fun q => !(q.1 == i) && !(q.1 + 1 == i && q.2.category == 2)) = loc') (kk : GW D cA m mc ms (pc + 3) loc' st ws k n P) : GW D cA m mc ms pc loc st ws k n P := by
  refine GW.lift (fun p l e R s mid args below meth c A Q C w => ?_) kk
  intro ls H locs hlv hH
  exact lv_iinc (v := Int32.ofInt (z + y)) C.1 C.2.1 hd hlv hk (by rw [Int32.ofInt_add]) hn hl (fun ls' h' => w ls' H locs h' hH)
/-- the same world, its cells in another order -/
theorem GW.perm (h : ws.Perm ws') (kk : GW D cA m mc ms pc loc st ws' k n P) : GW D cA m mc ms pc loc st ws k n P := by
  refine GW.lift (fun p l e R s mid args below meth c A Q C w => ?_) kk
  intro ls H locs hlv hH
  obtain ⟨hP, hD, hS⟩ := hH
  refine w ls H locs hlv ⟨fun i q hq => ?_, ⟨?_, fun i q hq => ?_⟩, hS⟩
  · obtain ⟨j, hj⟩ := List.getElem?_of_mem (h.mem_iff.mpr (List.mem_of_getElem? hq))
    exact hP j q hj
  · have hn : (ws.map (fun q => q.1)).Pairwise (fun x y => x ≠ y) := by
      rw [List.pairwise_iff_getElem]
      intro i j hi hj hij he
      rw [List.getElem_map, List.getElem_map] at he
      rw [List.length_map] at hi hj
      have := hD.1 i j _ _ (List.getElem?_eq_getElem hi) (List.getElem?_eq_getElem hj) he
      omega
    have hn2 : (ws'.map (fun q => q.1)).Pairwise (fun x y => x ≠ y) := (h.map (fun q => q.1)).pairwise hn (fun h => Ne.symm h)
    rw [List.pairwise_iff_getElem] at hn2
    intro i j x y hi hj hxy
    obtain ⟨li, ei⟩ := List.getElem?_eq_some_iff.mp hi
    obtain ⟨lj, ej⟩ := List.getElem?_eq_some_iff.mp hj
    rcases Nat.lt_trichotomy i j with q | q | q
    · exact absurd (by rw [List.getElem_map, List.getElem_map, ei, ej]; exact hxy) (hn2 i j (by rw [List.length_map]; exact li) (by rw [List.length_map]; exact lj) q)
    · exact q
    · exact absurd (by rw [List.getElem_map, List.getElem_map, ei, ej]; exact hxy.symm) (hn2 j i (by rw [List.length_map]; exact lj) (by rw [List.length_map]; exact li) q)
  · obtain ⟨j, hj⟩ := List.getElem?_of_mem (h.mem_iff.mpr (List.mem_of_getElem? hq))
    exact hD.2 j q hj
theorem GW.obj {idx a : Nat} (hd : decode m.2.1 pc = .ok (.invokespecial idx, 3)) (hw : Cond.methodLink m.1.cls idx Lib.objectInit ∈ TB) (hi : Cond.instanceMethod Lib.objectInit ∈ TB) (hc : Cond.code Lib.objectInit ⟨#[0xb1]⟩ 1 none ∈ TB) (hf : 1 ≤ m.2.2.2.2.1) (hl : 12 ≤ m.2.2.2.2.2) (kk : GW D cA m mc ms (pc + 3) loc [] ws k n P) : GW D cA m mc ms pc loc [.ref a] ws k n P := by
  refine GW.lift (fun p l e R s mid args below meth c A Q C w => ?_) kk
  intro ls H locs hlv hH
  obtain ⟨hx, hb, hml, hown, hts, hN, hK, hA, hR, hcs, hin, hAO⟩ := C
  refine W.objInit hx hb hown (hts _ hw) (hts _ hi) (hts _ hc) rfl (by rw [hml]; exact hlv.1) rfl hd (Nat.le_trans hf hR.1) (show 12 ≤ R.locals from Nat.le_trans hl hR.2) ?_
  exact W.eq (g2 := F0 mid (pc + 3) ls []) rfl (w ls H locs hlv hH)
-- ===== fields and arrays
theorem GW.get {i a ci j index : Nat} {C : String} {T : u_T} {N : Nat} {fs : List Value} {v : Value} (hd : decode m.2.1 pc = .ok (.getfield index, 3)) (hc : clsOK ci C T N) (hj : j < N) (hT : (T j).1 = C) (hl : Cond.fieldLink m.1.cls index C (T j).2.1 (T j).2.2.1 ∈ TB) (he : ws[i]? = some (a, .inr (ci, fs))) (hv : fs[j]? = some v) (kk : GW D cA m mc ms (pc + 3) loc (v :: st) ws k n P) : GW D cA m mc ms pc loc (.ref a :: st) ws k n P := by
  refine GW.lift (fun p l e R s mid args below meth c A Q C w => ?_) kk
  intro ls H locs hlv hH
  obtain ⟨hx, hb, hml, hown, hts, hN, hK, hA, hR, hcs, hin, hAO⟩ := C
  exact va_get hx hb (own := m.1.cls) (ref := _) hts hc.2.1 hown hK hH.1 i he hc.1 j hj (hts _ hl) (fun x hx => by rw [hT] at hx; exact hx) hv hd (w ls H locs hlv hH)
theorem GW.put {i a ci j index : Nat} {C : String} {T : u_T} {N : Nat} {fs : List Value} {v : Value} (hd : decode m.2.1 pc = .ok (.putfield index, 3)) (hc : clsOK ci C T N) (hj : j < N) (hT : (T j).1 = C) (hown2 : C = m.1.cls) (hin : m.1.name = "<init>") (hl : Cond.fieldLink m.1.cls index C (T j).2.1 (T j).2.2.1 ∈ TB) (he : ws[i]? = some (a, .inr (ci, fs))) (hn : narrow (ftC ci j) v = v) (hfit : fits (ftC ci j) v = true) (hlen : j < fs.length) (hs : ws.set i (a, .inr (ci, fs.set j v)) = ws') (kk : GW D cA m mc ms (pc + 3) loc st ws' k n P) : GW D cA m mc ms pc loc (v :: .ref a :: st) ws k n P := by
  refine GW.lift (fun p l e R s mid args below meth c A Q C w => ?_) kk
  intro ls H locs hlv hH
  obtain ⟨hx, hb, hml, hown, hts, hN, hK, hA, hR, hcs, hin0, hAO⟩ := C
  subst hs
  cases hfin : (T j).2.2.2 with
  | true => exact va_putF hx hb (own := m.1.cls) (ref := _) hts hc.2.1 (ftC ci) hc.2.2.1 hc.2.2.2 hown hK hH.1 hH.2.1 hH.2.2 i he hc.1 j hj (hts _ hl) (fun x hx => by rw [hT] at hx; exact hx) hfin (hin0 hin) (hT.trans hown2) (hc.2.2.1 j hj) hn hfit hlen hd (fun H1 locs1 h1 h2 h3 => w ls H1 locs1 hlv ⟨h1, h2, h3⟩)
  | false => exact va_put hx hb (own := m.1.cls) (ref := _) hts hc.2.1 (ftC ci) hc.2.2.1 hc.2.2.2 hown hK hH.1 hH.2.1 hH.2.2 i he hc.1 j hj (hts _ hl) (fun x hx => by rw [hT] at hx; exact hx) hfin (hc.2.2.1 j hj) hn hfit hlen hd (fun H1 locs1 h1 h2 h3 => w ls H1 locs1 hlv ⟨h1, h2, h3⟩)
theorem GW.alen {i a : Nat} {ty : FieldType} {x : vp_A} (hd : decode m.2.1 pc = .ok (.arraylength, 1)) (hty : ty = .byte ∨ ty = .int ∨ ty = .boolean ∨ ty = tyS ∨ ty = tyT) (he : ws[i]? = some (a, .inl (cA ty, x))) (kk : GW D cA m mc ms (pc + 1) loc (.int (Int32.ofNat x.1) :: st) ws k n P) : GW D cA m mc ms pc loc (.ref a :: st) ws k n P := by
  refine GW.lift (fun p l e R s mid args below meth c A Q C w => ?_) kk
  intro ls H locs hlv hH
  obtain ⟨hx, hb, hml, hown, hts, hN, hK, hA, hR, hcs, hin0, hAO⟩ := C
  obtain ⟨t, ht⟩ := ty_at (cA := cA) hty
  exact va_alen hx hb hK hH.1 i t he ht rfl hd (w ls H locs hlv hH)
theorem cA_eq {D : va_G} {s : State} {cA : FieldType → ClassId} {c1 : ClassId} {ty : FieldType} (hty : ty = .byte ∨ ty = .int ∨ ty = .boolean ∨ ty = tyS ∨ ty = tyT) (hK : va_K D vwCl (tysO cA) s) (h : va_RA s c1 ty) : c1 = cA ty := by
  obtain ⟨t, ht⟩ := ty_at (cA := cA) hty
  have h2 := (hK.2 t _ ht).2
  rcases hty with rfl | rfl | rfl | rfl | rfl
  · exact Option.some.inj (Eq.trans (Eq.symm h) h2)
  · exact Option.some.inj (Eq.trans (Eq.symm h) h2)
  · exact Option.some.inj (Eq.trans (Eq.symm h) h2)
  · obtain ⟨_, _, _, _, _, h1⟩ := h
    obtain ⟨_, _, _, _, _, h3⟩ := h2
    exact Option.some.inj (Eq.trans (Eq.symm h1) h3)
  · obtain ⟨_, _, _, _, _, h1⟩ := h
    obtain ⟨_, _, _, _, _, h3⟩ := h2
    exact Option.some.inj (Eq.trans (Eq.symm h1) h3)
theorem GW.newa {atype : ArrayType} {ty : FieldType} {z : Int} {N : Nat} (hd : decode m.2.1 pc = .ok (.newarray atype, 2)) (hat : newarray.typeOf atype = ty) (hty : ty = .byte ∨ ty = .int ∨ ty = .boolean) (hw : Cond.arrayClass ty ∈ TB) (hz : z = (N : Int)) (hN : N < 10000) (hk : k + 1 ≤ mc) (hn : n + N ≤ ms) (kk : ∀ q : Nat, GW D cA m mc ms (pc + 2) loc (.ref q :: st) (ws ++ [(q, .inl (cA ty, N, .inl (fun _ => 0)))]) (k + 1) (n + N) P) : GW D cA m mc ms pc loc (.int (Int32.ofInt z) :: st) ws k n P := by
  intro p l e R s mid args below meth c A Q C F ls H locs hlv hH
  have C' := C
  obtain ⟨hx, hb, hml, hown, hts, hN0, hK, hA, hR, hcs, hin0, hAO⟩ := C
  subst hz
  have hty5 : ty = .byte ∨ ty = .int ∨ ty = .boolean ∨ ty = tyS ∨ ty = tyT := by rcases hty with h | h | h <;> simp [h]
  have hcomp : componentBytes ty ≤ 8 := by rcases hty with rfl | rfl | rfl <;> decide
  have hmul : N * componentBytes ty ≤ 10000 * 8 := Nat.mul_le_mul (by omega) hcomp
  refine va_newa (D := D) (a0 := (N, .inl (fun _ => 0))) hx hb (by rw [hat]; exact hts _ hw) hat hK hH.1 hH.2.1 hH.2.2 hA (fun c1 => ?_) ?_ (N' := N) ?_ (by omega) (by omega) (by omega) hd (fun q c1 H1 hK1 hP1 hD1 hS1 => ?_)
  · rcases hty with rfl | rfl | rfl <;> rfl
  · rw [show (0 : Int32) = Int32.ofInt 0 from rfl, i32_lt (by omega) (by decide)]; omega
  · rw [cl_ix (by omega) (by omega)]; omega
  · have hr : va_RA s c1 ty := (hK1.2 5 (c1, ty) rfl).2
    rw [cA_eq hty5 hK hr] at hP1 hD1
    exact kk q p l e R s mid args below meth c A Q C' F ls H1 locs hlv ⟨hP1, hD1, hS1⟩
theorem GW.newq {cn : String} {index : Nat} {z : Int} {N : Nat} (hd : decode m.2.1 pc = .ok (.anewarray index, 3)) (hcn : cn = "TeethForCoins$Slot" ∨ cn = "TeethForCoins$Teeth") (hw : Cond.classLink m.1.cls index cn ∈ TB) (hz : z = (N : Int)) (hN : N < 10000) (hk : k + 1 ≤ mc) (hn : n + N ≤ ms) (kk : ∀ q : Nat, GW D cA m mc ms (pc + 3) loc (.ref q :: st) (ws ++ [(q, .inl (cA (.object cn), N, .inr (.inr (.inr (.inr (fun _ => none))))))]) (k + 1) (n + N) P) : GW D cA m mc ms pc loc (.int (Int32.ofInt z) :: st) ws k n P := by
  intro p l e R s mid args below meth c A Q C F ls H locs hlv hH
  have C' := C
  obtain ⟨hx, hb, hml, hown, hts, hN0, hK, hA, hR, hcs, hin0, hAO⟩ := C
  subst hz
  have hty5 : (FieldType.object cn) = .byte ∨ (FieldType.object cn) = .int ∨ (FieldType.object cn) = .boolean ∨ (FieldType.object cn) = tyS ∨ (FieldType.object cn) = tyT := by rcases hcn with h | h <;> simp [h]
  have hover : va_AO cn s := by rcases hcn with rfl | rfl; exact hAO.1; exact hAO.2
  refine va_newq (D := D) hx hb hown (hts _ hw) hover hK hH.1 hH.2.1 hH.2.2 hA ?_ (N' := N) ?_ (by omega) (by omega) (by omega) hd (fun q c1 H1 hK1 hP1 hD1 hS1 => ?_)
  · rw [show (0 : Int32) = Int32.ofInt 0 from rfl, i32_lt (by omega) (by decide)]; omega
  · rw [cl_ix (by omega) (by omega)]; omega
  · have hr : va_RA s c1 (.object cn) := (hK1.2 5 (c1, .object cn) rfl).2
    rw [cA_eq hty5 hK hr] at hP1 hD1
    exact kk q p l e R s mid args below meth c A Q C' F ls H1 locs hlv ⟨hP1, hD1, hS1⟩
theorem GW.iast {i a N : Nat} {f : Nat → Int32} {ix : Int} {x : Int32} (hd : decode m.2.1 pc = .ok (.iastore, 1)) (he : ws[i]? = some (a, .inl (cA .int, N, .inl f))) (hin : 0 ≤ ix ∧ ix < (N : Int)) (hN : N < 10000) (hs : ws.set i (a, .inl (cA .int, N, .inl (upd f ix.toNat x))) = ws') (kk : GW D cA m mc ms (pc + 1) loc st ws' k n P) : GW D cA m mc ms pc loc (.int x :: .int (Int32.ofInt ix) :: .ref a :: st) ws k n P := by
  refine GW.lift (fun p l e R s mid args below meth c A Q C w => ?_) kk
  intro ls H locs hlv hH
  obtain ⟨hx, hb, hml, hown, hts, hN0, hK, hA, hR, hcs, hin0, hAO⟩ := C
  subst hs
  refine va_iast hx hb hK hH.1 hH.2.1 hH.2.2 i 1 he rfl (in_ix hin.1 hin.2 (by omega)) hd (fun H1 locs1 h1 h2 h3 => ?_)
  rw [cl_ix hin.1 (by omega)] at h1 h2
  exact w ls H1 locs1 hlv ⟨h1, h2, h3⟩
theorem GW.astq {i a N qk v ci t0 : Nat} {f : Nat → Option Nat} {r : vw_C} {vs : List Value} {ix : Int} (hd : decode m.2.1 pc = .ok (.aastore, 1)) (he : ws[i]? = some (a, .inl (cA (.object r.1), N, .inr (.inr (.inr (.inr f)))))) (ht : (tysO cA)[t0]? = some (cA (.object r.1), .object r.1)) (hv : ws[qk]? = some (v, .inr (ci, vs))) (hc : vwCl[ci]? = some r) (hin : 0 ≤ ix ∧ ix < (N : Int)) (hN : N < 10000) (hs : ws.set i (a, .inl (cA (.object r.1), N, .inr (.inr (.inr (.inr (va_up f ix.toNat (some v))))))) = ws') (kk : GW D cA m mc ms (pc + 1) loc st ws' k n P) : GW D cA m mc ms pc loc (.ref v :: .int (Int32.ofInt ix) :: .ref a :: st) ws k n P := by
  refine GW.lift (fun p l e R s mid args below meth c A Q C w => ?_) kk
  intro ls H locs hlv hH
  obtain ⟨hx, hb, hml, hown, hts, hN0, hK, hA, hR, hcs, hin0, hAO⟩ := C
  subst hs
  refine va_astq hx hb hK hH.1 hH.2.1 hH.2.2 i t0 qk ci he ht hv hc (in_ix hin.1 hin.2 (by omega)) hd (fun H1 locs1 h1 h2 h3 => ?_)
  rw [cl_ix hin.1 (by omega)] at h1 h2
  exact w ls H1 locs1 hlv ⟨h1, h2, h3⟩
end GR
