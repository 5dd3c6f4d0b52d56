/-! ===== locals that are written, branches ===== -/
def cat2 (v : AV) : Bool := match v with
  | .inr (.inl _) => true
  | _ => false
def insL (i : Nat) (v : AV) : List (Nat × AV) → List (Nat × AV)
  | [] => [(i, v)]
  | q :: t => if i < q.1 then (i, v) :: q :: t else q :: insL i v t
/-- a local of one word written -/
def st1 (loc : List (Nat × AV)) (i : Nat) (v : AV) : List (Nat × AV) := insL i v (loc.filter (fun q => !(q.1 == i) && !(q.1 + 1 == i && cat2 q.2)))
/-- a local of two words written -/
def st2 (loc : List (Nat × AV)) (i : Nat) (v : AV) : List (Nat × AV) := insL i v (loc.filter (fun q => !(q.1 == i) && (!(q.1 == i + 1) && !(q.1 + 1 == i && cat2 q.2))))
theorem mem_insL {i : Nat} {v : AV} {q : Nat × AV} : ∀ {l : List (Nat × AV)}, q ∈ insL i v l → q = (i, v) ∨ q ∈ l
  | [], h => by simpa [insL] using h
  | a :: t, h => by
    unfold insL at h
    split at h
    · rcases List.mem_cons.mp h with h1 | h1
      · exact Or.inl h1
      · exact Or.inr h1
    · rcases List.mem_cons.mp h with h1 | h1
      · exact Or.inr (by rw [h1]; exact List.mem_cons_self)
      · rcases mem_insL h1 with h2 | h2
        · exact Or.inl h2
        · exact Or.inr (List.mem_cons_of_mem _ h2)
theorem cV_cat2 (ad : Nat → Nat) (v : AV) : ((cV ad v).category == 2) = cat2 v := by rcases v with z | z | o <;> rfl
theorem lv_mem {ad : Nat → Nat} {ls : Array Slot} {nL : Nat} {l : List (Nat × Value)} {loc : List (Nat × AV)} (h : lv_has ls nL l) (hs : ∀ q ∈ loc, (q.1, cV ad q.2) ∈ l) : lv_has ls nL (cL ad loc) := by
  refine ⟨h.1, h.2.1, fun q hq => ?_⟩
  unfold cL at hq
  obtain ⟨q0, h0, rfl⟩ := List.mem_map.mp hq
  exact h.2.2 _ (hs q0 h0)
theorem st1_sub {ad : Nat → Nat} {loc : List (Nat × AV)} {i : Nat} {v : AV} : ∀ q ∈ st1 loc i v, (q.1, cV ad q.2) ∈ (i, cV ad v) :: (cL ad loc).filter (fun q => !(q.1 == i) && !(q.1 + 1 == i && q.2.category == 2)) := by
  intro q hq
  rcases mem_insL hq with rfl | h
  · exact List.mem_cons_self
  · refine List.mem_cons_of_mem _ ?_
    obtain ⟨h1, h2⟩ := List.mem_filter.mp h
    refine List.mem_filter.mpr ⟨List.mem_map.mpr ⟨q, h1, rfl⟩, ?_⟩
    show (!(q.1 == i) && !(q.1 + 1 == i && (cV ad q.2).category == 2)) = true
    rw [cV_cat2]
    exact h2
theorem st2_sub {ad : Nat → Nat} {loc : List (Nat × AV)} {i : Nat} {v : AV} : ∀ q ∈ st2 loc i v, (q.1, cV ad q.2) ∈ (i, cV ad v) :: (cL ad loc).filter (fun q => !(q.1 == i) && (!(q.1 == i + 1) && !(q.1 + 1 == i && q.2.category == 2))) := by
  intro q hq
  rcases mem_insL hq with rfl | h
  · exact List.mem_cons_self
  · refine List.mem_cons_of_mem _ ?_
    obtain ⟨h1, h2⟩ := List.mem_filter.mp h
    refine List.mem_filter.mpr ⟨List.mem_map.mpr ⟨q, h1, rfl⟩, ?_⟩
    show (!(q.1 == i) && (!(q.1 == i + 1) && !(q.1 + 1 == i && (cV ad q.2).category == 2))) = true
    rw [cV_cat2]
    exact h2
theorem wfL_st1 {loc : List (Nat × AV)} {i : Nat} {v : AV} (h : wfL loc) (hv : wfV v) : wfL (st1 loc i v) := by
  intro q hq
  rcases mem_insL hq with rfl | h1
  · exact hv
  · exact h q (List.mem_filter.mp h1).1
theorem wfL_st2 {loc : List (Nat × AV)} {i : Nat} {v : AV} (h : wfL loc) (hv : wfV v) : wfL (st2 loc i v) := by
  intro q hq
  rcases mem_insL hq with rfl | h1
  · exact hv
  · exact h q (List.mem_filter.mp h1).1
section RF
variable {X : Scr} {m : MR} {pc pc' : Nat} {loc loc' : List (Nat × AV)} {st st' : List AV} {M M' : Mem} {P : Option AV → Mem → Prop}
theorem Runs.istore_n {k : Fin 4} {i : Nat} {z : Int} (hd : decode m.2.1 pc = .ok (.istore_n k, 1)) (hi : (k : Nat) = i) (hn : i < m.2.2.1) (hl : st1 loc i (vi z) = loc') (kk : Runs X m (pc + 1) loc' st M P) : Runs X m pc loc (vi z :: st) M P := by
  refine Runs.lift (fun p l e R s mid args below meth c cells slots D cA ad A Q C w => ?_) kk
  intro hM hL hS ls H locs hlv hH
  subst hl
  exact lv_istore_n C.1 C.2.1 hd hi hlv hn rfl (fun ls' h' => w hM (wfL_st1 hL (wfS_h hS)) (wfS_t hS) ls' H locs (lv_mem h' st1_sub) hH)
theorem Runs.istore {i : Nat} {z : Int} (hd : decode m.2.1 pc = .ok (.istore i, 2)) (hn : i < m.2.2.1) (hl : st1 loc i (vi z) = loc') (kk : Runs X m (pc + 2) loc' st M P) : Runs X m pc loc (vi z :: st) M P := by
  refine Runs.lift (fun p l e R s mid args below meth c cells slots D cA ad A Q C w => ?_) kk
  intro hM hL hS ls H locs hlv hH
  subst hl
  exact lv_istore C.1 C.2.1 hd hlv hn rfl (fun ls' h' => w hM (wfL_st1 hL (wfS_h hS)) (wfS_t hS) ls' H locs (lv_mem h' st1_sub) hH)
theorem Runs.lstore_n {k : Fin 4} {i : Nat} {z : Int} (hd : decode m.2.1 pc = .ok (.lstore_n k, 1)) (hi : (k : Nat) = i) (hn : i + 1 < m.2.2.1) (hl : st2 loc i (vl z) = loc') (kk : Runs X m (pc + 1) loc' st M P) : Runs X m pc loc (vl z :: st) M P := by
  refine Runs.lift (fun p l e R s mid args below meth c cells slots D cA ad A Q C w => ?_) kk
  intro hM hL hS ls H locs hlv hH
  subst hl
  exact lv_lstore_n C.1 C.2.1 hd hi hlv hn rfl (fun ls' h' => w hM (wfL_st2 hL (wfS_h hS)) (wfS_t hS) ls' H locs (lv_mem h' st2_sub) hH)
theorem Runs.lstore {i : Nat} {z : Int} (hd : decode m.2.1 pc = .ok (.lstore i, 2)) (hn : i + 1 < m.2.2.1) (hl : st2 loc i (vl z) = loc') (kk : Runs X m (pc + 2) loc' st M P) : Runs X m pc loc (vl z :: st) M P := by
  refine Runs.lift (fun p l e R s mid args below meth c cells slots D cA ad A Q C w => ?_) kk
  intro hM hL hS ls H locs hlv hH
  subst hl
  exact lv_lstore C.1 C.2.1 hd hlv hn rfl (fun ls' h' => w hM (wfL_st2 hL (wfS_h hS)) (wfS_t hS) ls' H locs (lv_mem h' st2_sub) hH)
theorem Runs.iinc {i k : Nat} {n z : Int} (hd : decode m.2.1 pc = .ok (.iinc i n, 3)) (hk : loc[k]? = some (i, vi z)) (hr : inI (z + n)) (hn : i < m.2.2.1) (hl : st1 loc i (vi (z + n)) = loc') (kk : Runs X m (pc + 3) loc' st M P) : Runs X m pc loc st M P := by
  refine Runs.lift (fun p l e R s mid args below meth c cells slots D cA ad A Q C w => ?_) kk
  intro hM hL hS ls H locs hlv hH
  subst hl
  exact lv_iinc (v := Int32.ofInt (z + n)) C.1 C.2.1 hd hlv (cL_at hk) (by rw [Int32.ofInt_add]) hn rfl (fun ls' h' => w hM (wfL_st1 hL (show inI (z + n) from hr)) hS ls' H locs (lv_mem h' st1_sub) hH)
-- ===== jumps
theorem Runs.goto {off : Int} {tgt : Nat} (hd : decode m.2.1 pc = .ok (.goto off, 3)) (ht : (pc : Int) + off = (tgt : Int)) (kk : Runs X m tgt loc st M P) : Runs X m pc loc st M P := by
  refine Runs.lift (fun p l e R s mid args below meth c cells slots D cA ad A Q C w => ?_) kk
  intro hM hL hS ls H locs hlv hH
  exact lv_goto C.1 C.2.1 hd ht (w hM hL hS ls H locs hlv hH)
theorem Runs.ifnull {o : Nat} {off : Int} (hd : decode m.2.1 pc = .ok (.ifnull off, 3)) (kk : Runs X m (pc + 3) loc st M P) : Runs X m pc loc (vr o :: st) M P := by
  refine Runs.lift (fun p l e R s mid args below meth c cells slots D cA ad A Q C w => ?_) kk
  intro hM hL hS ls H locs hlv hH
  exact lv_ifnull C.1 C.2.1 hd (w hM hL (wfS_t hS) ls H locs hlv hH)
theorem Runs.ifnonnull {o : Nat} {off : Int} {tgt : Nat} (hd : decode m.2.1 pc = .ok (.ifnonnull off, 3)) (ht : (pc : Int) + off = (tgt : Int)) (kk : Runs X m tgt loc st M P) : Runs X m pc loc (vr o :: st) M P := by
  refine Runs.lift (fun p l e R s mid args below meth c cells slots D cA ad A Q C w => ?_) kk
  intro hM hL hS ls H locs hlv hH
  exact lv_ifnonnull C.1 C.2.1 hd ht (w hM hL (wfS_t hS) ls H locs hlv hH)
/-- two ways on, of which one is taken -/
theorem Runs.two {c1 : Prop} {pa pb : Nat} {sa : List AV} (h : ∀ (p : Program) (l : Launch) (e : Env) (R : Room) (s : State) (mid : MethodId) (args : Array Value) (below : List Frame) (meth : Method) (c : Code) (cells slots : Nat) (D : va_G) (cA : FieldType → ClassId) (ad : Nat → Nat) (A : Nat → Prop) (Q : State → Prop), Ctx X m p R s mid args c cells slots D cA ad A → (c1 → WS m.2.2.1 p l e R s mid args below meth c cells slots D cA ad A Q pa loc sa M) → (¬ c1 → WS m.2.2.1 p l e R s mid args below meth c cells slots D cA ad A Q pb loc sa M) → WS m.2.2.1 p l e R s mid args below meth c cells slots D cA ad A Q pc loc st M) (ka : c1 → Runs X m pa loc sa M P) (kb : ¬ c1 → Runs X m pb loc sa M P) : Runs X m pc loc st M P :=
  fun p l e R s mid args below meth c cells slots D cA ad A Q C F => h p l e R s mid args below meth c cells slots D cA ad A Q C (fun q => ka q p l e R s mid args below meth c cells slots D cA ad A Q C F) (fun q => kb q p l e R s mid args below meth c cells slots D cA ad A Q C F)
theorem i32_e0 {a : Int} (ha : inI a) : Int32.ofInt a = 0 ↔ a = 0 := by rw [← i32_0, i32_eq ha (by decide)]
theorem i32_l0 {a : Int} (ha : inI a) : Int32.ofInt a < 0 ↔ a < 0 := by rw [← i32_0, i32_lt ha (by decide)]
theorem i32_g0 {a : Int} (ha : inI a) : 0 < Int32.ofInt a ↔ 0 < a := by rw [← i32_0, i32_lt (by decide) ha]
theorem i32_le0 {a : Int} (ha : inI a) : Int32.ofInt a ≤ 0 ↔ a ≤ 0 := by rw [← i32_0, i32_le ha (by decide)]
theorem i32_ge0 {a : Int} (ha : inI a) : 0 ≤ Int32.ofInt a ↔ 0 ≤ a := by rw [← i32_0, i32_le (by decide) ha]
theorem Runs.if_eq {a : Int} {off : Int} {tgt : Nat} (hd : decode m.2.1 pc = .ok (.ifCond .eq off, 3)) (ht : (pc : Int) + off = (tgt : Int)) (k1 : a = 0 → Runs X m tgt loc st M P) (k2 : a ≠ 0 → Runs X m (pc + 3) loc st M P) : Runs X m pc loc (vi a :: st) M P := by
  refine Runs.two (c1 := a = 0) (fun p l e R s mid args below meth c cells slots D cA ad A Q C w1 w2 => ?_) k1 k2
  intro hM hL hS ls H locs hlv hH
  have ha : inI a := wfS_h hS
  exact lv_if_eq C.1 C.2.1 hd ht (fun h => w1 ((i32_e0 ha).mp h) hM hL (wfS_t hS) ls H locs hlv hH) (fun h => w2 (fun q => h ((i32_e0 ha).mpr q)) hM hL (wfS_t hS) ls H locs hlv hH)
theorem Runs.if_ne {a : Int} {off : Int} {tgt : Nat} (hd : decode m.2.1 pc = .ok (.ifCond .ne off, 3)) (ht : (pc : Int) + off = (tgt : Int)) (k1 : a ≠ 0 → Runs X m tgt loc st M P) (k2 : a = 0 → Runs X m (pc + 3) loc st M P) : Runs X m pc loc (vi a :: st) M P := by
  refine Runs.two (c1 := a ≠ 0) (fun p l e R s mid args below meth c cells slots D cA ad A Q C w1 w2 => ?_) k1 (fun h => k2 (Classical.not_not.mp h))
  intro hM hL hS ls H locs hlv hH
  have ha : inI a := wfS_h hS
  exact lv_if_ne C.1 C.2.1 hd ht (fun h => w1 (fun q => h ((i32_e0 ha).mpr q)) hM hL (wfS_t hS) ls H locs hlv hH) (fun h => w2 (fun q => q ((i32_e0 ha).mp h)) hM hL (wfS_t hS) ls H locs hlv hH)
theorem Runs.if_lt {a : Int} {off : Int} {tgt : Nat} (hd : decode m.2.1 pc = .ok (.ifCond .lt off, 3)) (ht : (pc : Int) + off = (tgt : Int)) (k1 : a < 0 → Runs X m tgt loc st M P) (k2 : 0 ≤ a → Runs X m (pc + 3) loc st M P) : Runs X m pc loc (vi a :: st) M P := by
  refine Runs.two (c1 := a < 0) (fun p l e R s mid args below meth c cells slots D cA ad A Q C w1 w2 => ?_) k1 (fun h => k2 (by omega))
  intro hM hL hS ls H locs hlv hH
  have ha : inI a := wfS_h hS
  exact lv_if_lt C.1 C.2.1 hd ht (fun h => w1 ((i32_l0 ha).mp h) hM hL (wfS_t hS) ls H locs hlv hH) (fun h => w2 (fun q => h ((i32_l0 ha).mpr q)) hM hL (wfS_t hS) ls H locs hlv hH)
theorem Runs.if_ge {a : Int} {off : Int} {tgt : Nat} (hd : decode m.2.1 pc = .ok (.ifCond .ge off, 3)) (ht : (pc : Int) + off = (tgt : Int)) (k1 : 0 ≤ a → Runs X m tgt loc st M P) (k2 : a < 0 → Runs X m (pc + 3) loc st M P) : Runs X m pc loc (vi a :: st) M P := by
  refine Runs.two (c1 := 0 ≤ a) (fun p l e R s mid args below meth c cells slots D cA ad A Q C w1 w2 => ?_) k1 (fun h => k2 (by omega))
  intro hM hL hS ls H locs hlv hH
  have ha : inI a := wfS_h hS
  exact lv_if_ge C.1 C.2.1 hd ht (fun h => w1 ((i32_ge0 ha).mp h) hM hL (wfS_t hS) ls H locs hlv hH) (fun h => w2 (fun q => h ((i32_ge0 ha).mpr q)) hM hL (wfS_t hS) ls H locs hlv hH)
theorem Runs.if_gt {a : Int} {off : Int} {tgt : Nat} (hd : decode m.2.1 pc = .ok (.ifCond .gt off, 3)) (ht : (pc : Int) + off = (tgt : Int)) (k1 : 0 < a → Runs X m tgt loc st M P) (k2 : a ≤ 0 → Runs X m (pc + 3) loc st M P) : Runs X m pc loc (vi a :: st) M P := by
  refine Runs.two (c1 := 0 < a) (fun p l e R s mid args below meth c cells slots D cA ad A Q C w1 w2 => ?_) k1 (fun h => k2 (by omega))
  intro hM hL hS ls H locs hlv hH
  have ha : inI a := wfS_h hS
  exact lv_if_gt C.1 C.2.1 hd ht (fun h => w1 ((i32_g0 ha).mp h) hM hL (wfS_t hS) ls H locs hlv hH) (fun h => w2 (fun q => h ((i32_g0 ha).mpr q)) hM hL (wfS_t hS) ls H locs hlv hH)
theorem Runs.if_le {a : Int} {off : Int} {tgt : Nat} (hd : decode m.2.1 pc = .ok (.ifCond .le off, 3)) (ht : (pc : Int) + off = (tgt : Int)) (k1 : a ≤ 0 → Runs X m tgt loc st M P) (k2 : 0 < a → Runs X m (pc + 3) loc st M P) : Runs X m pc loc (vi a :: st) M P := by
  refine Runs.two (c1 := a ≤ 0) (fun p l e R s mid args below meth c cells slots D cA ad A Q C w1 w2 => ?_) k1 (fun h => k2 (by omega))
  intro hM hL hS ls H locs hlv hH
  have ha : inI a := wfS_h hS
  exact lv_if_le C.1 C.2.1 hd ht (fun h => w1 ((i32_le0 ha).mp h) hM hL (wfS_t hS) ls H locs hlv hH) (fun h => w2 (fun q => h ((i32_le0 ha).mpr q)) hM hL (wfS_t hS) ls H locs hlv hH)
theorem Runs.icmp_eq {a b : Int} {off : Int} {tgt : Nat} (hd : decode m.2.1 pc = .ok (.if_icmp .eq off, 3)) (ht : (pc : Int) + off = (tgt : Int)) (k1 : a = b → Runs X m tgt loc st M P) (k2 : a ≠ b → Runs X m (pc + 3) loc st M P) : Runs X m pc loc (vi b :: vi a :: st) M P := by
  refine Runs.two (c1 := a = b) (fun p l e R s mid args below meth c cells slots D cA ad A Q C w1 w2 => ?_) k1 k2
  intro hM hL hS ls H locs hlv hH
  have hb : inI b := wfS_h hS
  have ha : inI a := wfS_h (wfS_t hS)
  exact lv_icmp_eq C.1 C.2.1 hd ht (fun h => w1 ((i32_eq ha hb).mp h) hM hL (wfS_t (wfS_t hS)) ls H locs hlv hH) (fun h => w2 (fun q => h ((i32_eq ha hb).mpr q)) hM hL (wfS_t (wfS_t hS)) ls H locs hlv hH)
theorem Runs.icmp_ne {a b : Int} {off : Int} {tgt : Nat} (hd : decode m.2.1 pc = .ok (.if_icmp .ne off, 3)) (ht : (pc : Int) + off = (tgt : Int)) (k1 : a ≠ b → Runs X m tgt loc st M P) (k2 : a = b → Runs X m (pc + 3) loc st M P) : Runs X m pc loc (vi b :: vi a :: st) M P := by
  refine Runs.two (c1 := a ≠ b) (fun p l e R s mid args below meth c cells slots D cA ad A Q C w1 w2 => ?_) k1 (fun h => k2 (Classical.not_not.mp h))
  intro hM hL hS ls H locs hlv hH
  have hb : inI b := wfS_h hS
  have ha : inI a := wfS_h (wfS_t hS)
  exact lv_icmp_ne C.1 C.2.1 hd ht (fun h => w1 (fun q => h ((i32_eq ha hb).mpr q)) hM hL (wfS_t (wfS_t hS)) ls H locs hlv hH) (fun h => w2 (fun q => q ((i32_eq ha hb).mp h)) hM hL (wfS_t (wfS_t hS)) ls H locs hlv hH)
theorem Runs.icmp_lt {a b : Int} {off : Int} {tgt : Nat} (hd : decode m.2.1 pc = .ok (.if_icmp .lt off, 3)) (ht : (pc : Int) + off = (tgt : Int)) (k1 : a < b → Runs X m tgt loc st M P) (k2 : b ≤ a → Runs X m (pc + 3) loc st M P) : Runs X m pc loc (vi b :: vi a :: st) M P := by
  refine Runs.two (c1 := a < b) (fun p l e R s mid args below meth c cells slots D cA ad A Q C w1 w2 => ?_) k1 (fun h => k2 (by omega))
  intro hM hL hS ls H locs hlv hH
  have hb : inI b := wfS_h hS
  have ha : inI a := wfS_h (wfS_t hS)
  exact lv_icmp_lt C.1 C.2.1 hd ht (fun h => w1 ((i32_lt ha hb).mp h) hM hL (wfS_t (wfS_t hS)) ls H locs hlv hH) (fun h => w2 (fun q => h ((i32_lt ha hb).mpr q)) hM hL (wfS_t (wfS_t hS)) ls H locs hlv hH)
theorem Runs.icmp_ge {a b : Int} {off : Int} {tgt : Nat} (hd : decode m.2.1 pc = .ok (.if_icmp .ge off, 3)) (ht : (pc : Int) + off = (tgt : Int)) (k1 : b ≤ a → Runs X m tgt loc st M P) (k2 : a < b → Runs X m (pc + 3) loc st M P) : Runs X m pc loc (vi b :: vi a :: st) M P := by
  refine Runs.two (c1 := b ≤ a) (fun p l e R s mid args below meth c cells slots D cA ad A Q C w1 w2 => ?_) k1 (fun h => k2 (by omega))
  intro hM hL hS ls H locs hlv hH
  have hb : inI b := wfS_h hS
  have ha : inI a := wfS_h (wfS_t hS)
  exact lv_icmp_ge C.1 C.2.1 hd ht (fun h => w1 ((i32_le hb ha).mp h) hM hL (wfS_t (wfS_t hS)) ls H locs hlv hH) (fun h => w2 (fun q => h ((i32_le hb ha).mpr q)) hM hL (wfS_t (wfS_t hS)) ls H locs hlv hH)
theorem Runs.icmp_gt {a b : Int} {off : Int} {tgt : Nat} (hd : decode m.2.1 pc = .ok (.if_icmp .gt off, 3)) (ht : (pc : Int) + off = (tgt : Int)) (k1 : b < a → Runs X m tgt loc st M P) (k2 : a ≤ b → Runs X m (pc + 3) loc st M P) : Runs X m pc loc (vi b :: vi a :: st) M P := by
  refine Runs.two (c1 := b < a) (fun p l e R s mid args below meth c cells slots D cA ad A Q C w1 w2 => ?_) k1 (fun h => k2 (by omega))
  intro hM hL hS ls H locs hlv hH
  have hb : inI b := wfS_h hS
  have ha : inI a := wfS_h (wfS_t hS)
  exact lv_icmp_gt C.1 C.2.1 hd ht (fun h => w1 ((i32_lt hb ha).mp h) hM hL (wfS_t (wfS_t hS)) ls H locs hlv hH) (fun h => w2 (fun q => h ((i32_lt hb ha).mpr q)) hM hL (wfS_t (wfS_t hS)) ls H locs hlv hH)
theorem Runs.icmp_le {a b : Int} {off : Int} {tgt : Nat} (hd : decode m.2.1 pc = .ok (.if_icmp .le off, 3)) (ht : (pc : Int) + off = (tgt : Int)) (k1 : a ≤ b → Runs X m tgt loc st M P) (k2 : b < a → Runs X m (pc + 3) loc st M P) : Runs X m pc loc (vi b :: vi a :: st) M P := by
  refine Runs.two (c1 := a ≤ b) (fun p l e R s mid args below meth c cells slots D cA ad A Q C w1 w2 => ?_) k1 (fun h => k2 (by omega))
  intro hM hL hS ls H locs hlv hH
  have hb : inI b := wfS_h hS
  have ha : inI a := wfS_h (wfS_t hS)
  exact lv_icmp_le C.1 C.2.1 hd ht (fun h => w1 ((i32_le ha hb).mp h) hM hL (wfS_t (wfS_t hS)) ls H locs hlv hH) (fun h => w2 (fun q => h ((i32_le ha hb).mpr q)) hM hL (wfS_t (wfS_t hS)) ls H locs hlv hH)
-- ===== longs compared, and the branch on it
def zcmp (a b : Int) : Int := if b < a then 1 else if a = b then 0 else -1
theorem Runs.lcmp {a b : Int} (hd : decode m.2.1 pc = .ok (.lcmp, 1)) (kk : Runs X m (pc + 1) loc (vi (zcmp a b) :: st) M P) : Runs X m pc loc (vl b :: vl a :: st) M P := by
  refine Runs.lift (fun p l e R s mid args below meth c cells slots D cA ad A Q C w => ?_) kk
  intro hM hL hS ls H locs hlv hH
  have hb : inL b := wfS_h hS
  have ha : inL a := wfS_h (wfS_t hS)
  have hz : inI (zcmp a b) := by unfold zcmp; split <;> (try split) <;> decide
  have k := w hM hL (wfS_c (show wfV (vi (zcmp a b)) from hz) (wfS_t (wfS_t hS))) ls H locs hlv hH
  refine W.lcmp C.1 C.2.1 hd ?_
  have e : lg_cmp (Int64.ofInt a) (Int64.ofInt b) = Int32.ofInt (zcmp a b) := by
    unfold lg_cmp zcmp
    simp only [gt_iff_lt, i64_lt hb ha, i64_eq ha hb]
    split
    · rfl
    · split <;> rfl
  rw [e]; exact k
theorem zcmp_lt {a b : Int} : zcmp a b < 0 ↔ a < b := by unfold zcmp; split <;> (try split) <;> omega
theorem zcmp_le {a b : Int} : zcmp a b ≤ 0 ↔ a ≤ b := by unfold zcmp; split <;> (try split) <;> omega
theorem zcmp_gt {a b : Int} : 0 < zcmp a b ↔ b < a := by unfold zcmp; split <;> (try split) <;> omega
theorem zcmp_ge {a b : Int} : 0 ≤ zcmp a b ↔ b ≤ a := by unfold zcmp; split <;> (try split) <;> omega
theorem zcmp_eq {a b : Int} : zcmp a b = 0 ↔ a = b := by unfold zcmp; split <;> (try split) <;> omega
theorem Runs.lcmp_lt {a b : Int} {off : Int} {tgt : Nat} (hd : decode m.2.1 pc = .ok (.lcmp, 1)) (hd2 : decode m.2.1 (pc + 1) = .ok (.ifCond .lt off, 3)) (ht : ((pc + 1 : Nat) : Int) + off = (tgt : Int)) (k1 : a < b → Runs X m tgt loc st M P) (k2 : b ≤ a → Runs X m (pc + 4) loc st M P) : Runs X m pc loc (vl b :: vl a :: st) M P :=
  Runs.lcmp hd (Runs.if_lt hd2 ht (fun h => k1 (zcmp_lt.mp h)) (fun h => k2 (zcmp_ge.mp h)))
theorem Runs.lcmp_ge {a b : Int} {off : Int} {tgt : Nat} (hd : decode m.2.1 pc = .ok (.lcmp, 1)) (hd2 : decode m.2.1 (pc + 1) = .ok (.ifCond .ge off, 3)) (ht : ((pc + 1 : Nat) : Int) + off = (tgt : Int)) (k1 : b ≤ a → Runs X m tgt loc st M P) (k2 : a < b → Runs X m (pc + 4) loc st M P) : Runs X m pc loc (vl b :: vl a :: st) M P :=
  Runs.lcmp hd (Runs.if_ge hd2 ht (fun h => k1 (zcmp_ge.mp h)) (fun h => k2 (zcmp_lt.mp h)))
theorem Runs.lcmp_gt {a b : Int} {off : Int} {tgt : Nat} (hd : decode m.2.1 pc = .ok (.lcmp, 1)) (hd2 : decode m.2.1 (pc + 1) = .ok (.ifCond .gt off, 3)) (ht : ((pc + 1 : Nat) : Int) + off = (tgt : Int)) (k1 : b < a → Runs X m tgt loc st M P) (k2 : a ≤ b → Runs X m (pc + 4) loc st M P) : Runs X m pc loc (vl b :: vl a :: st) M P :=
  Runs.lcmp hd (Runs.if_gt hd2 ht (fun h => k1 (zcmp_gt.mp h)) (fun h => k2 (zcmp_le.mp h)))
theorem Runs.lcmp_le {a b : Int} {off : Int} {tgt : Nat} (hd : decode m.2.1 pc = .ok (.lcmp, 1)) (hd2 : decode m.2.1 (pc + 1) = .ok (.ifCond .le off, 3)) (ht : ((pc + 1 : Nat) : Int) + off = (tgt : Int)) (k1 : a ≤ b → Runs X m tgt loc st M P) (k2 : b < a → Runs X m (pc + 4) loc st M P) : Runs X m pc loc (vl b :: vl a :: st) M P :=
  Runs.lcmp hd (Runs.if_le hd2 ht (fun h => k1 (zcmp_le.mp h)) (fun h => k2 (zcmp_gt.mp h)))
theorem Runs.lcmp_eq {a b : Int} {off : Int} {tgt : Nat} (hd : decode m.2.1 pc = .ok (.lcmp, 1)) (hd2 : decode m.2.1 (pc + 1) = .ok (.ifCond .eq off, 3)) (ht : ((pc + 1 : Nat) : Int) + off = (tgt : Int)) (k1 : a = b → Runs X m tgt loc st M P) (k2 : a ≠ b → Runs X m (pc + 4) loc st M P) : Runs X m pc loc (vl b :: vl a :: st) M P :=
  Runs.lcmp hd (Runs.if_eq hd2 ht (fun h => k1 (zcmp_eq.mp h)) (fun h => k2 (fun q => h (zcmp_eq.mpr q))))
theorem Runs.lcmp_ne {a b : Int} {off : Int} {tgt : Nat} (hd : decode m.2.1 pc = .ok (.lcmp, 1)) (hd2 : decode m.2.1 (pc + 1) = .ok (.ifCond .ne off, 3)) (ht : ((pc + 1 : Nat) : Int) + off = (tgt : Int)) (k1 : a ≠ b → Runs X m tgt loc st M P) (k2 : a = b → Runs X m (pc + 4) loc st M P) : Runs X m pc loc (vl b :: vl a :: st) M P :=
  Runs.lcmp hd (Runs.if_ne hd2 ht (fun h => k1 (fun q => h (zcmp_eq.mpr q))) (fun h => k2 (zcmp_eq.mp h)))
-- ===== switches
theorem Runs.tableIn {dflt lo hi : Int} {offs : Array Int} {len : Nat} {a : Int} {off : Int} {tgt : Nat} (hd : decode m.2.1 pc = .ok (.tableswitch dflt lo hi offs, len)) (h1 : lo ≤ a) (h2 : a ≤ hi) (ho : offs[(a - lo).toNat]? = some off) (ht : (pc : Int) + off = (tgt : Int)) (kk : Runs X m tgt loc st M P) : Runs X m pc loc (vi a :: st) M P := by
  refine Runs.lift (fun p l e R s mid args below meth c cells slots D cA ad A Q C w => ?_) kk
  intro hM hL hS ls H locs hlv hH
  have ha : inI a := wfS_h hS
  exact lv_tableIn C.1 C.2.1 hd (by rw [i32_t ha]; omega) (by rw [i32_t ha]; omega) (by rw [i32_t ha]; exact ho) ht (w hM hL (wfS_t hS) ls H locs hlv hH)
theorem Runs.tableOut {dflt lo hi : Int} {offs : Array Int} {len : Nat} {a : Int} {tgt : Nat} (hd : decode m.2.1 pc = .ok (.tableswitch dflt lo hi offs, len)) (h : a < lo ∨ hi < a) (ht : (pc : Int) + dflt = (tgt : Int)) (kk : Runs X m tgt loc st M P) : Runs X m pc loc (vi a :: st) M P := by
  refine Runs.lift (fun p l e R s mid args below meth c cells slots D cA ad A Q C w => ?_) kk
  intro hM hL hS ls H locs hlv hH
  have ha : inI a := wfS_h hS
  exact lv_tableOut C.1 C.2.1 hd (by rw [i32_t ha]; exact h) ht (w hM hL (wfS_t hS) ls H locs hlv hH)
theorem Runs.lookup {dflt : Int} {ps : Array (Int × Int)} {len : Nat} {a : Int} {off : Int} {tgt : Nat} (hd : decode m.2.1 pc = .ok (.lookupswitch dflt ps, len)) (hp : (ps.toList.zip (ps.toList.drop 1)).all (fun (a, next) => a.1 < next.1) = true) (ho : Op.lookupswitch.offset ps.toList dflt a = off) (ht : (pc : Int) + off = (tgt : Int)) (kk : Runs X m tgt loc st M P) : Runs X m pc loc (vi a :: st) M P := by
  refine Runs.lift (fun p l e R s mid args below meth c cells slots D cA ad A Q C w => ?_) kk
  intro hM hL hS ls H locs hlv hH
  have ha : inI a := wfS_h hS
  exact lv_lookup C.1 C.2.1 hd hp (by rw [i32_t ha]; exact ho) ht (w hM hL (wfS_t hS) ls H locs hlv hH)
-- ===== returns
theorem Runs.ret0 (hd : decode m.2.1 pc = .ok (.return_, 1)) (hr : m.2.2.2.1 = none) (k : P none M) : Runs X m pc loc [] M P := by
  intro p l e R s mid args below meth c cells slots D cA ad A Q C F hM hL hS ls H locs hlv hH
  exact F none M H locs ls pc k hM (by rw [hr]; trivial) hH hd
theorem Runs.reti {z : Int} (hd : decode m.2.1 pc = .ok (.ireturn, 1)) (hr : m.2.2.2.1 = some .int) (k : P (some (vi z)) M) : Runs X m pc loc [vi z] M P := by
  intro p l e R s mid args below meth c cells slots D cA ad A Q C F hM hL hS ls H locs hlv hH
  exact F (some (vi z)) M H locs ls pc k hM (by rw [hr]; exact wfS_h hS) hH hd
theorem Runs.retz {z : Int} (hd : decode m.2.1 pc = .ok (.ireturn, 1)) (hr : m.2.2.2.1 = some .boolean) (hz : 0 ≤ z ∧ z ≤ 1) (k : P (some (vi z)) M) : Runs X m pc loc [vi z] M P := by
  intro p l e R s mid args below meth c cells slots D cA ad A Q C F hM hL hS ls H locs hlv hH
  exact F (some (vi z)) M H locs ls pc k hM (by rw [hr]; exact hz) hH hd
theorem Runs.retl {z : Int} (hd : decode m.2.1 pc = .ok (.lreturn, 1)) (hr : m.2.2.2.1 = some .long) (k : P (some (vl z)) M) : Runs X m pc loc [vl z] M P := by
  intro p l e R s mid args below meth c cells slots D cA ad A Q C F hM hL hS ls H locs hlv hH
  exact F (some (vl z)) M H locs ls pc k hM (by rw [hr]; exact wfS_h hS) hH hd
end RF
