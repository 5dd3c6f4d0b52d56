/-! ===== arithmetic ===== -/
theorem i32_t {a : Int} (h : inI a) : (Int32.ofInt a).toInt = a := Int32.toInt_ofInt_of_le (by omega) (by omega)
theorem i64_t {a : Int} (h : inL a) : (Int64.ofInt a).toInt = a := Int64.toInt_ofInt_of_le (by omega) (by omega)
theorem i32_le {a b : Int} (ha : inI a) (hb : inI b) : Int32.ofInt a ≤ Int32.ofInt b ↔ a ≤ b := by rw [Int32.le_iff_toInt_le, i32_t ha, i32_t hb]
theorem i32_lt {a b : Int} (ha : inI a) (hb : inI b) : Int32.ofInt a < Int32.ofInt b ↔ a < b := by rw [Int32.lt_iff_toInt_lt, i32_t ha, i32_t hb]
theorem i32_eq {a b : Int} (ha : inI a) (hb : inI b) : Int32.ofInt a = Int32.ofInt b ↔ a = b := by rw [← Int32.toInt_inj, i32_t ha, i32_t hb]
theorem i64_le {a b : Int} (ha : inL a) (hb : inL b) : Int64.ofInt a ≤ Int64.ofInt b ↔ a ≤ b := by rw [Int64.le_iff_toInt_le, i64_t ha, i64_t hb]
theorem i64_lt {a b : Int} (ha : inL a) (hb : inL b) : Int64.ofInt a < Int64.ofInt b ↔ a < b := by rw [Int64.lt_iff_toInt_lt, i64_t ha, i64_t hb]
theorem i64_eq {a b : Int} (ha : inL a) (hb : inL b) : Int64.ofInt a = Int64.ofInt b ↔ a = b := by rw [← Int64.toInt_inj, i64_t ha, i64_t hb]
theorem i32_0 : Int32.ofInt 0 = 0 := rfl
theorem i64_0 : Int64.ofInt 0 = 0 := rfl
theorem i32_of (x : Int32) : Int32.ofInt x.toInt = x := Int32.ofInt_toInt x
theorem i32_in (x : Int32) : inI x.toInt := ⟨Int32.le_toInt x, by have := Int32.toInt_lt x; omega⟩
theorem i64_in (x : Int64) : inL x.toInt := ⟨Int64.le_toInt x, by have := Int64.toInt_lt x; omega⟩
/-- the operations on bits, as they are on 32 and 64 bits -/
def zand (a b : Int) : Int := (Int32.ofInt a &&& Int32.ofInt b).toInt
def zor (a b : Int) : Int := (Int32.ofInt a ||| Int32.ofInt b).toInt
def zxor (a b : Int) : Int := (Int32.ofInt a ^^^ Int32.ofInt b).toInt
def zshl (a b : Int) : Int := (Int32.ofInt a <<< (Int32.ofInt b &&& 31)).toInt
def zshr (a b : Int) : Int := (Int32.ofInt a >>> (Int32.ofInt b &&& 31)).toInt
def zushr (a b : Int) : Int := ((Int32.ofInt a).toUInt32 >>> ((Int32.ofInt b).toUInt32 &&& Int32.toUInt32 31)).toInt32.toInt
def qand (a b : Int) : Int := (Int64.ofInt a &&& Int64.ofInt b).toInt
def qor (a b : Int) : Int := (Int64.ofInt a ||| Int64.ofInt b).toInt
def qshl (a b : Int) : Int := (Int64.ofInt a <<< ((Int32.ofInt b).toInt64 &&& 63)).toInt
def qshr (a b : Int) : Int := (Int64.ofInt a >>> ((Int32.ofInt b).toInt64 &&& 63)).toInt
def qushr (a b : Int) : Int := ((Int64.ofInt a).toUInt64 >>> ((Int32.ofInt b).toInt64.toUInt64 &&& Int64.toUInt64 63)).toInt64.toInt
/-- 64 bits, wrapping -/
def wrapL (a : Int) : Int := (Int64.ofInt a).toInt
def l2i (a : Int) : Int := (Int32.ofInt a).toInt
def i2b (a : Int) : Int := (Int32.ofInt a).toInt8.toInt32.toInt
section RA
variable {X : Scr} {m : MR} {pc pc' : Nat} {loc loc' : List (Nat × AV)} {st st' : List AV} {M M' : Mem} {P : Option AV → Mem → Prop}
theorem Runs.iadd {a b : Int} (hd : decode m.2.1 pc = .ok (.iadd, 1)) (hr : inI (a + b)) (kk : Runs X m (pc + 1) loc (vi (a + b) :: st) M P) : Runs X m pc loc (vi b :: vi a :: st) M P := by
  refine Runs.lift (fun p l e R s mid args below meth c cells slots D cA ad A Q C w => ?_) kk
  intro hM hL hS ls H locs hlv hH
  have k := w hM hL (wfS_c hr (wfS_t (wfS_t hS))) ls H locs hlv hH
  refine lv_iadd C.1 C.2.1 hd ?_
  rw [← Int32.ofInt_add]; exact k
theorem Runs.isub {a b : Int} (hd : decode m.2.1 pc = .ok (.isub, 1)) (hr : inI (a - b)) (kk : Runs X m (pc + 1) loc (vi (a - b) :: st) M P) : Runs X m pc loc (vi b :: vi a :: st) M P := by
  refine Runs.lift (fun p l e R s mid args below meth c cells slots D cA ad A Q C w => ?_) kk
  intro hM hL hS ls H locs hlv hH
  have k := w hM hL (wfS_c hr (wfS_t (wfS_t hS))) ls H locs hlv hH
  refine lv_isub C.1 C.2.1 hd ?_
  rw [← Int32.ofInt_sub]; exact k
theorem Runs.imul {a b : Int} (hd : decode m.2.1 pc = .ok (.imul, 1)) (hr : inI (a * b)) (kk : Runs X m (pc + 1) loc (vi (a * b) :: st) M P) : Runs X m pc loc (vi b :: vi a :: st) M P := by
  refine Runs.lift (fun p l e R s mid args below meth c cells slots D cA ad A Q C w => ?_) kk
  intro hM hL hS ls H locs hlv hH
  have k := w hM hL (wfS_c hr (wfS_t (wfS_t hS))) ls H locs hlv hH
  refine lv_imul C.1 C.2.1 hd ?_
  rw [← Int32.ofInt_mul]; exact k
theorem Runs.ineg {a : Int} (hd : decode m.2.1 pc = .ok (.ineg, 1)) (hr : inI (-a)) (kk : Runs X m (pc + 1) loc (vi (-a) :: st) M P) : Runs X m pc loc (vi a :: st) M P := by
  refine Runs.lift (fun p l e R s mid args below meth c cells slots D cA ad A Q C w => ?_) kk
  intro hM hL hS ls H locs hlv hH
  have k := w hM hL (wfS_c hr (wfS_t hS)) ls H locs hlv hH
  refine lv_ineg C.1 C.2.1 hd ?_
  rw [← Int32.ofInt_neg]; exact k
theorem i32_div {a b : Int} (ha : 0 ≤ a) (ha2 : inI a) (hb : 0 < b) (hb2 : inI b) : Int32.ofInt a / Int32.ofInt b = Int32.ofInt (a / b) := by
  have h := Int32.ofInt_tdiv (a := a) (b := b) (by rw [show Int32.minValue.toInt = -2147483648 from rfl]; omega) (by rw [show Int32.maxValue.toInt = 2147483647 from rfl]; omega) (by rw [show Int32.minValue.toInt = -2147483648 from rfl]; omega) (by rw [show Int32.maxValue.toInt = 2147483647 from rfl]; omega)
  rw [← h, Int.tdiv_eq_ediv_of_nonneg ha]
theorem i64_div {a b : Int} (ha : 0 ≤ a) (ha2 : inL a) (hb : 0 < b) (hb2 : inL b) : Int64.ofInt a / Int64.ofInt b = Int64.ofInt (a / b) := by
  have h := Int64.ofInt_tdiv (a := a) (b := b) (by rw [show Int64.minValue.toInt = -9223372036854775808 from rfl]; omega) (by rw [show Int64.maxValue.toInt = 9223372036854775807 from rfl]; omega) (by rw [show Int64.minValue.toInt = -9223372036854775808 from rfl]; omega) (by rw [show Int64.maxValue.toInt = 9223372036854775807 from rfl]; omega)
  rw [← h, Int.tdiv_eq_ediv_of_nonneg ha]
theorem div_inI {a b : Int} (ha : 0 ≤ a) (ha2 : inI a) (hb : 0 < b) : inI (a / b) := ⟨by have := Int.ediv_nonneg ha (Int.le_of_lt hb); omega, by have := Int.ediv_le_self b ha; omega⟩
theorem div_inL {a b : Int} (ha : 0 ≤ a) (ha2 : inL a) (hb : 0 < b) : inL (a / b) := ⟨by have := Int.ediv_nonneg ha (Int.le_of_lt hb); omega, by have := Int.ediv_le_self b ha; omega⟩
theorem mod_inI {a b : Int} (hb2 : inI b) (hb : 0 < b) : inI (a % b) := ⟨by have := Int.emod_nonneg a (Int.ne_of_gt hb); omega, by have := Int.emod_lt_of_pos a hb; omega⟩
theorem mod_inL {a b : Int} (hb2 : inL b) (hb : 0 < b) : inL (a % b) := ⟨by have := Int.emod_nonneg a (Int.ne_of_gt hb); omega, by have := Int.emod_lt_of_pos a hb; omega⟩
theorem Runs.idiv {a b : Int} (hd : decode m.2.1 pc = .ok (.idiv, 1)) (ha : 0 ≤ a) (hb : 0 < b) (kk : Runs X m (pc + 1) loc (vi (a / b) :: st) M P) : Runs X m pc loc (vi b :: vi a :: st) M P := by
  refine Runs.lift (fun p l e R s mid args below meth c cells slots D cA ad A Q C w => ?_) kk
  intro hM hL hS ls H locs hlv hH
  have hbi : inI b := wfS_h hS
  have hai : inI a := wfS_h (wfS_t hS)
  have k := w hM hL (wfS_c (div_inI ha hai hb) (wfS_t (wfS_t hS))) ls H locs hlv hH
  refine lv_idiv C.1 C.2.1 hd (by rw [← i32_0, i32_eq hbi (by decide)]; omega) ?_
  rw [i32_div ha hai hb hbi]; exact k
theorem Runs.irem {a b : Int} (hd : decode m.2.1 pc = .ok (.irem, 1)) (ha : 0 ≤ a) (hb : 0 < b) (kk : Runs X m (pc + 1) loc (vi (a % b) :: st) M P) : Runs X m pc loc (vi b :: vi a :: st) M P := by
  refine Runs.lift (fun p l e R s mid args below meth c cells slots D cA ad A Q C w => ?_) kk
  intro hM hL hS ls H locs hlv hH
  have hbi : inI b := wfS_h hS
  have hai : inI a := wfS_h (wfS_t hS)
  have k := w hM hL (wfS_c (mod_inI hbi hb) (wfS_t (wfS_t hS))) ls H locs hlv hH
  refine lv_irem C.1 C.2.1 hd (by rw [← i32_0, i32_eq hbi (by decide)]; omega) ?_
  rw [i32_div ha hai hb hbi, ← Int32.ofInt_mul, ← Int32.ofInt_sub, show a - a / b * b = a % b by rw [Int.emod_def, Int.mul_comm]]; exact k
theorem Runs.ldiv {a b : Int} (hd : decode m.2.1 pc = .ok (.ldiv, 1)) (ha : 0 ≤ a) (hb : 0 < b) (kk : Runs X m (pc + 1) loc (vl (a / b) :: st) M P) : Runs X m pc loc (vl b :: vl a :: st) M P := by
  refine Runs.lift (fun p l e R s mid args below meth c cells slots D cA ad A Q C w => ?_) kk
  intro hM hL hS ls H locs hlv hH
  have hbi : inL b := wfS_h hS
  have hai : inL a := wfS_h (wfS_t hS)
  have k := w hM hL (wfS_c (div_inL ha hai hb) (wfS_t (wfS_t hS))) ls H locs hlv hH
  refine lv_ldiv C.1 C.2.1 hd (by rw [← i64_0, i64_eq hbi (by decide)]; omega) ?_
  rw [i64_div ha hai hb hbi]; exact k
theorem Runs.lrem {a b : Int} (hd : decode m.2.1 pc = .ok (.lrem, 1)) (ha : 0 ≤ a) (hb : 0 < b) (kk : Runs X m (pc + 1) loc (vl (a % b) :: st) M P) : Runs X m pc loc (vl b :: vl a :: st) M P := by
  refine Runs.lift (fun p l e R s mid args below meth c cells slots D cA ad A Q C w => ?_) kk
  intro hM hL hS ls H locs hlv hH
  have hbi : inL b := wfS_h hS
  have hai : inL a := wfS_h (wfS_t hS)
  have k := w hM hL (wfS_c (mod_inL hbi hb) (wfS_t (wfS_t hS))) ls H locs hlv hH
  refine lv_lrem C.1 C.2.1 hd (by rw [← i64_0, i64_eq hbi (by decide)]; omega) ?_
  rw [i64_div ha hai hb hbi, ← Int64.ofInt_mul, ← Int64.ofInt_sub, show a - a / b * b = a % b by rw [Int.emod_def, Int.mul_comm]]; exact k
theorem Runs.iand {a b : Int} (hd : decode m.2.1 pc = .ok (.iand, 1)) (kk : Runs X m (pc + 1) loc (vi (zand a b) :: st) M P) : Runs X m pc loc (vi b :: vi a :: st) M P := by
  refine Runs.lift (fun p l e R s mid args below meth c cells slots D cA ad A Q C w => ?_) kk
  intro hM hL hS ls H locs hlv hH
  have k := w hM hL (wfS_c (i32_in _) (wfS_t (wfS_t hS))) ls H locs hlv hH
  refine lv_iand C.1 C.2.1 hd ?_
  rw [← i32_of (Int32.ofInt a &&& Int32.ofInt b)]; exact k
theorem Runs.ior {a b : Int} (hd : decode m.2.1 pc = .ok (.ior, 1)) (kk : Runs X m (pc + 1) loc (vi (zor a b) :: st) M P) : Runs X m pc loc (vi b :: vi a :: st) M P := by
  refine Runs.lift (fun p l e R s mid args below meth c cells slots D cA ad A Q C w => ?_) kk
  intro hM hL hS ls H locs hlv hH
  have k := w hM hL (wfS_c (i32_in _) (wfS_t (wfS_t hS))) ls H locs hlv hH
  refine lv_ior C.1 C.2.1 hd ?_
  rw [← i32_of (Int32.ofInt a ||| Int32.ofInt b)]; exact k
theorem Runs.ixor {a b : Int} (hd : decode m.2.1 pc = .ok (.ixor, 1)) (kk : Runs X m (pc + 1) loc (vi (zxor a b) :: st) M P) : Runs X m pc loc (vi b :: vi a :: st) M P := by
  refine Runs.lift (fun p l e R s mid args below meth c cells slots D cA ad A Q C w => ?_) kk
  intro hM hL hS ls H locs hlv hH
  have k := w hM hL (wfS_c (i32_in _) (wfS_t (wfS_t hS))) ls H locs hlv hH
  refine lv_ixor C.1 C.2.1 hd ?_
  rw [← i32_of (Int32.ofInt a ^^^ Int32.ofInt b)]; exact k
theorem Runs.ishl {a b : Int} (hd : decode m.2.1 pc = .ok (.ishl, 1)) (kk : Runs X m (pc + 1) loc (vi (zshl a b) :: st) M P) : Runs X m pc loc (vi b :: vi a :: st) M P := by
  refine Runs.lift (fun p l e R s mid args below meth c cells slots D cA ad A Q C w => ?_) kk
  intro hM hL hS ls H locs hlv hH
  have k := w hM hL (wfS_c (i32_in _) (wfS_t (wfS_t hS))) ls H locs hlv hH
  refine lv_ishl C.1 C.2.1 hd ?_
  rw [← i32_of (Int32.ofInt a <<< (Int32.ofInt b &&& 31))]; exact k
theorem Runs.ishr {a b : Int} (hd : decode m.2.1 pc = .ok (.ishr, 1)) (kk : Runs X m (pc + 1) loc (vi (zshr a b) :: st) M P) : Runs X m pc loc (vi b :: vi a :: st) M P := by
  refine Runs.lift (fun p l e R s mid args below meth c cells slots D cA ad A Q C w => ?_) kk
  intro hM hL hS ls H locs hlv hH
  have k := w hM hL (wfS_c (i32_in _) (wfS_t (wfS_t hS))) ls H locs hlv hH
  refine lv_ishr C.1 C.2.1 hd ?_
  rw [← i32_of (Int32.ofInt a >>> (Int32.ofInt b &&& 31))]; exact k
theorem Runs.iushr {a b : Int} (hd : decode m.2.1 pc = .ok (.iushr, 1)) (kk : Runs X m (pc + 1) loc (vi (zushr a b) :: st) M P) : Runs X m pc loc (vi b :: vi a :: st) M P := by
  refine Runs.lift (fun p l e R s mid args below meth c cells slots D cA ad A Q C w => ?_) kk
  intro hM hL hS ls H locs hlv hH
  have k := w hM hL (wfS_c (i32_in _) (wfS_t (wfS_t hS))) ls H locs hlv hH
  refine lv_iushr C.1 C.2.1 hd rfl ?_
  rw [← i32_of (((Int32.ofInt a).toUInt32 >>> ((Int32.ofInt b).toUInt32 &&& Int32.toUInt32 31)).toInt32)]; exact k
-- ===== longs
theorem Runs.i2l {a : Int} (hd : decode m.2.1 pc = .ok (.i2l, 1)) (kk : Runs X m (pc + 1) loc (vl a :: st) M P) : Runs X m pc loc (vi a :: st) M P := by
  refine Runs.lift (fun p l e R s mid args below meth c cells slots D cA ad A Q C w => ?_) kk
  intro hM hL hS ls H locs hlv hH
  have ha : inI a := wfS_h hS
  exact lv_i2l C.1 C.2.1 hd (Int64.toInt_inj.mp (by rw [Int32.toInt_toInt64, i32_t ha, i64_t ⟨by omega, by omega⟩])) (w hM hL (wfS_c (show inL a from ⟨by omega, by omega⟩) (wfS_t hS)) ls H locs hlv hH)
theorem Runs.l2i {a : Int} (hd : decode m.2.1 pc = .ok (.l2i, 1)) (kk : Runs X m (pc + 1) loc (vi (l2i a) :: st) M P) : Runs X m pc loc (vl a :: st) M P := by
  refine Runs.lift (fun p l e R s mid args below meth c cells slots D cA ad A Q C w => ?_) kk
  intro hM hL hS ls H locs hlv hH
  exact lv_l2i C.1 C.2.1 hd (by rw [Int64.toInt32_ofInt, Jvm.Pilot.@@N@@.l2i, i32_of]) (w hM hL (wfS_c (i32_in _) (wfS_t hS)) ls H locs hlv hH)
theorem Runs.i2b {a : Int} (hd : decode m.2.1 pc = .ok (.i2b, 1)) (kk : Runs X m (pc + 1) loc (vi (i2b a) :: st) M P) : Runs X m pc loc (vi a :: st) M P := by
  refine Runs.lift (fun p l e R s mid args below meth c cells slots D cA ad A Q C w => ?_) kk
  intro hM hL hS ls H locs hlv hH
  exact lv_i2b C.1 C.2.1 hd (by rw [Jvm.Pilot.@@N@@.i2b, i32_of]) (w hM hL (wfS_c (i32_in _) (wfS_t hS)) ls H locs hlv hH)
theorem Runs.ladd {a b : Int} (hd : decode m.2.1 pc = .ok (.ladd, 1)) (hr : inL (a + b)) (kk : Runs X m (pc + 1) loc (vl (a + b) :: st) M P) : Runs X m pc loc (vl b :: vl a :: st) M P := by
  refine Runs.lift (fun p l e R s mid args below meth c cells slots D cA ad A Q C w => ?_) kk
  intro hM hL hS ls H locs hlv hH
  have k := w hM hL (wfS_c hr (wfS_t (wfS_t hS))) ls H locs hlv hH
  refine lv_ladd C.1 C.2.1 hd ?_
  rw [← Int64.ofInt_add]; exact k
theorem Runs.lmul {a b : Int} (hd : decode m.2.1 pc = .ok (.lmul, 1)) (hr : inL (a * b)) (kk : Runs X m (pc + 1) loc (vl (a * b) :: st) M P) : Runs X m pc loc (vl b :: vl a :: st) M P := by
  refine Runs.lift (fun p l e R s mid args below meth c cells slots D cA ad A Q C w => ?_) kk
  intro hM hL hS ls H locs hlv hH
  have k := w hM hL (wfS_c hr (wfS_t (wfS_t hS))) ls H locs hlv hH
  refine lv_lmul C.1 C.2.1 hd ?_
  rw [← Int64.ofInt_mul]; exact k
theorem Runs.laddW {a b : Int} (hd : decode m.2.1 pc = .ok (.ladd, 1)) (kk : Runs X m (pc + 1) loc (vl (wrapL (a + b)) :: st) M P) : Runs X m pc loc (vl b :: vl a :: st) M P := by
  refine Runs.lift (fun p l e R s mid args below meth c cells slots D cA ad A Q C w => ?_) kk
  intro hM hL hS ls H locs hlv hH
  have k := w hM hL (wfS_c (i64_in _) (wfS_t (wfS_t hS))) ls H locs hlv hH
  refine lv_ladd C.1 C.2.1 hd ?_
  rw [← Int64.ofInt_add, ← Int64.ofInt_toInt (Int64.ofInt (a + b))]; exact k
theorem Runs.lmulW {a b : Int} (hd : decode m.2.1 pc = .ok (.lmul, 1)) (kk : Runs X m (pc + 1) loc (vl (wrapL (a * b)) :: st) M P) : Runs X m pc loc (vl b :: vl a :: st) M P := by
  refine Runs.lift (fun p l e R s mid args below meth c cells slots D cA ad A Q C w => ?_) kk
  intro hM hL hS ls H locs hlv hH
  have k := w hM hL (wfS_c (i64_in _) (wfS_t (wfS_t hS))) ls H locs hlv hH
  refine lv_lmul C.1 C.2.1 hd ?_
  rw [← Int64.ofInt_mul, ← Int64.ofInt_toInt (Int64.ofInt (a * b))]; exact k
theorem Runs.land {a b : Int} (hd : decode m.2.1 pc = .ok (.land, 1)) (kk : Runs X m (pc + 1) loc (vl (qand a b) :: st) M P) : Runs X m pc loc (vl b :: vl a :: st) M P := by
  refine Runs.lift (fun p l e R s mid args below meth c cells slots D cA ad A Q C w => ?_) kk
  intro hM hL hS ls H locs hlv hH
  have k := w hM hL (wfS_c (i64_in _) (wfS_t (wfS_t hS))) ls H locs hlv hH
  refine lv_land C.1 C.2.1 hd ?_
  rw [← Int64.ofInt_toInt (Int64.ofInt a &&& Int64.ofInt b)]; exact k
theorem Runs.lor {a b : Int} (hd : decode m.2.1 pc = .ok (.lor, 1)) (kk : Runs X m (pc + 1) loc (vl (qor a b) :: st) M P) : Runs X m pc loc (vl b :: vl a :: st) M P := by
  refine Runs.lift (fun p l e R s mid args below meth c cells slots D cA ad A Q C w => ?_) kk
  intro hM hL hS ls H locs hlv hH
  have k := w hM hL (wfS_c (i64_in _) (wfS_t (wfS_t hS))) ls H locs hlv hH
  refine lv_lor C.1 C.2.1 hd ?_
  rw [← Int64.ofInt_toInt (Int64.ofInt a ||| Int64.ofInt b)]; exact k
theorem Runs.lshl {a b : Int} (hd : decode m.2.1 pc = .ok (.lshl, 1)) (kk : Runs X m (pc + 1) loc (vl (qshl a b) :: st) M P) : Runs X m pc loc (vi b :: vl a :: st) M P := by
  refine Runs.lift (fun p l e R s mid args below meth c cells slots D cA ad A Q C w => ?_) kk
  intro hM hL hS ls H locs hlv hH
  have k := w hM hL (wfS_c (i64_in _) (wfS_t (wfS_t hS))) ls H locs hlv hH
  refine lv_lshl C.1 C.2.1 hd rfl ?_
  rw [← Int64.ofInt_toInt (Int64.ofInt a <<< ((Int32.ofInt b).toInt64 &&& 63))]; exact k
theorem Runs.lshr {a b : Int} (hd : decode m.2.1 pc = .ok (.lshr, 1)) (kk : Runs X m (pc + 1) loc (vl (qshr a b) :: st) M P) : Runs X m pc loc (vi b :: vl a :: st) M P := by
  refine Runs.lift (fun p l e R s mid args below meth c cells slots D cA ad A Q C w => ?_) kk
  intro hM hL hS ls H locs hlv hH
  have k := w hM hL (wfS_c (i64_in _) (wfS_t (wfS_t hS))) ls H locs hlv hH
  refine lv_lshr C.1 C.2.1 hd rfl ?_
  rw [← Int64.ofInt_toInt (Int64.ofInt a >>> ((Int32.ofInt b).toInt64 &&& 63))]; exact k
theorem Runs.lushr {a b : Int} (hd : decode m.2.1 pc = .ok (.lushr, 1)) (kk : Runs X m (pc + 1) loc (vl (qushr a b) :: st) M P) : Runs X m pc loc (vi b :: vl a :: st) M P := by
  refine Runs.lift (fun p l e R s mid args below meth c cells slots D cA ad A Q C w => ?_) kk
  intro hM hL hS ls H locs hlv hH
  have k := w hM hL (wfS_c (i64_in _) (wfS_t (wfS_t hS))) ls H locs hlv hH
  refine lv_lushr C.1 C.2.1 hd rfl ?_
  rw [← Int64.ofInt_toInt (((Int64.ofInt a).toUInt64 >>> ((Int32.ofInt b).toInt64.toUInt64 &&& Int64.toUInt64 63)).toInt64)]; exact k
end RA
