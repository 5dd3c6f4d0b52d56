/-! ===== the small logic: values, memory, the world's fixed shape ===== -/
abbrev AV : Type := Int ⊕ (Int ⊕ Nat)
abbrev vi (z : Int) : AV := .inl z
abbrev vl (z : Int) : AV := .inr (.inl z)
abbrev vr (o : Nat) : AV := .inr (.inr o)
abbrev Mem : Type := Nat → Nat → Int
abbrev Scr : Type := Nat × (Nat → Int)
abbrev inI (z : Int) : Prop := -2147483648 ≤ z ∧ z ≤ 2147483647
abbrev inL (z : Int) : Prop := -9223372036854775808 ≤ z ∧ z ≤ 9223372036854775807
abbrev tyS : FieldType := .object "TeethForCoins$Slot"
abbrev tyT : FieldType := .object "TeethForCoins$Teeth"
abbrev Kd : Type := Nat ⊕ (FieldType × Nat)
/-- what kind of cell a number stands for: an object of a class (its place in vwCl), or an array -/
def kdT (o : Nat) : Option Kd := match o with
  | 0 => some (.inl 8)
  | 1 => some (.inl 7)
  | 2 => some (.inr (.byte, 72))
  | 3 => some (.inl 1)
  | 4 => some (.inr (.int, 4))
  | 5 => some (.inr (.int, 4))
  | 10 => some (.inl 3)
  | 11 => some (.inr (.int, 16))
  | 12 => some (.inr (.int, 16))
  | 13 => some (.inl 3)
  | 14 => some (.inr (.int, 16))
  | 15 => some (.inr (.int, 16))
  | 16 => some (.inl 3)
  | 17 => some (.inr (.int, 16))
  | 18 => some (.inr (.int, 16))
  | 20 => some (.inl 0)
  | 21 => some (.inr (tyT, 8))
  | 22 => some (.inl 0)
  | 23 => some (.inr (tyT, 8))
  | 24 => some (.inl 0)
  | 25 => some (.inr (tyT, 8))
  | 30 => some (.inr (tyS, 2))
  | 31 => some (.inl 5)
  | 32 => some (.inl 5)
  | 33 => some (.inl 2)
  | 34 => some (.inl 4)
  | 35 => some (.inr (.int, 1024))
  | 36 => some (.inr (.int, 1000))
  | 200 => some (.inl 9)
  | 301 => some (.inr (.int, 72))
  | 307 => some (.inr (.int, 10))
  | 308 => some (.inr (.boolean, 10))
  | 309 => some (.inr (.int, 10))
  | 310 => some (.inr (.int, 10))
  | 311 => some (.inr (.boolean, 10))
  | 312 => some (.inr (.int, 10))
  | 313 => some (.inr (.int, 10))
  | 314 => some (.inr (.int, 80))
  | 316 => some (.inr (.int, 4))
  | 317 => some (.inr (.int, 4))
  | 322 => some (.inr (.int, 10))
  | 323 => some (.inr (.boolean, 10))
  | 324 => some (.inr (.int, 10))
  | 325 => some (.inr (.int, 10))
  | 326 => some (.inr (.boolean, 10))
  | 327 => some (.inr (.int, 4))
  | 328 => some (.inr (.int, 4))
  | 329 => some (.inr (.int, 968))
  | 331 => some (.inr (.int, 16))
  | 332 => some (.inr (.int, 16))
  | 333 => some (.inr (.int, 242))
  | 334 => some (.inr (.int, 60))
  | 335 => some (.inr (.int, 1936))
  | 336 => some (.inr (.int, 64))
  | 337 => some (.inr (.boolean, 2))
  | 338 => some (.inr (.int, 2))
  | 342 => some (.inr (.int, 4))
  | 343 => some (.inr (.int, 4))
  | 347 => some (.inr (.boolean, 1000))
  | _ => none
def kd (o : Nat) : Option Kd := if 100 ≤ o ∧ o < 154 then (if o % 2 = 0 then some (.inl 6) else some (.inr (.int, 150))) else kdT o
/-- the references, which never change once all is made -/
def rfT (o j : Nat) : Option Nat := match o, j with
  | 0, 0 => some 1
  | 0, 1 => some 100
  | 0, 2 => some 3
  | 0, 3 => some 20
  | 0, 4 => some 10
  | 0, 5 => some 30
  | 0, 8 => some 33
  | 0, 9 => some 34
  | 0, 10 => some 35
  | 0, 11 => some 36
  | 1, 0 => some 2
  | 3, 0 => some 4
  | 3, 1 => some 5
  | 10, 0 => some 11
  | 10, 1 => some 12
  | 13, 0 => some 14
  | 13, 1 => some 15
  | 16, 0 => some 17
  | 16, 1 => some 18
  | 20, 0 => some 21
  | 22, 0 => some 23
  | 24, 0 => some 25
  | 21, i => if i < 8 then some (102 + 2 * i) else none
  | 23, i => if i < 8 then some (120 + 2 * i) else none
  | 25, i => if i < 8 then some (138 + 2 * i) else none
  | 30, 0 => some 31
  | 30, 1 => some 32
  | 31, 0 => some 118
  | 31, 1 => some 22
  | 31, 2 => some 13
  | 32, 0 => some 136
  | 32, 1 => some 24
  | 32, 2 => some 16
  | 200, i => some (300 + i)
  | _, _ => none
def rfs (o j : Nat) : Option Nat := if 100 ≤ o ∧ o < 154 then (if o % 2 = 0 ∧ j = 0 then some (o + 1) else none) else rfT o j
def nFd (ci : Nat) : Nat := match vwCl[ci]? with
  | some q => q.2.2
  | none => 0
/-- the types of a class's fields -/
def ftC (ci : Nat) : Nat → FieldType := match ci with
  | 0 => tyX0
  | 1 => tyX1
  | 2 => tyX2
  | 3 => tyX3
  | 4 => tyX4
  | 5 => tyX5
  | 6 => tyX6
  | 7 => tyX7
  | 8 => tyX8
  | _ => tyX9
/-- the type of a slot -/
def sty (o j : Nat) : FieldType := match kd o with
  | some (.inl ci) => ftC ci j
  | some (.inr (ty, _)) => ty
  | none => .int
def inT (ty : FieldType) (z : Int) : Prop := match ty with
  | .long => inL z
  | .boolean => 0 ≤ z ∧ z ≤ 1
  | .byte => -128 ≤ z ∧ z ≤ 127
  | _ => inI z
def wfM (M : Mem) : Prop := ∀ o j, inT (sty o j) (M o j)
def wfV (v : AV) : Prop := match v with
  | .inl z => inI z
  | .inr (.inl z) => inL z
  | .inr (.inr _) => True
def wfS (st : List AV) : Prop := ∀ v ∈ st, wfV v
def wfL (loc : List (Nat × AV)) : Prop := ∀ q ∈ loc, wfV q.2
/-- a value as the machine has it -/
def cV (ad : Nat → Nat) (v : AV) : Value := match v with
  | .inl z => .int (Int32.ofInt z)
  | .inr (.inl z) => .long (Int64.ofInt z)
  | .inr (.inr o) => .ref (ad o)
def cL (ad : Nat → Nat) (loc : List (Nat × AV)) : List (Nat × Value) := loc.map (fun q => (q.1, cV ad q.2))
/-- a slot as the machine has it -/
def cS (ad : Nat → Nat) (ty : FieldType) (r : Option Nat) (z : Int) : Value := match ty with
  | .long => .long (Int64.ofInt z)
  | .object _ => va_rf (r.map ad)
  | .array _ => va_rf (r.map ad)
  | _ => .int (Int32.ofInt z)
def fdV (ad : Nat → Nat) (M : Mem) (o ci : Nat) : List Value := (List.range (nFd ci)).map (fun j => cS ad (ftC ci j) (rfs o j) (M o j))
def arP (ad : Nat → Nat) (M : Mem) (o : Nat) (ty : FieldType) : (Nat → Int32) ⊕ (Nat → Int64) ⊕ (Nat → UInt32) ⊕ (Nat → UInt64) ⊕ (Nat → Option Nat) := match ty with
  | .object _ => .inr (.inr (.inr (.inr (fun j => (rfs o j).map ad))))
  | _ => .inl (fun j => Int32.ofInt (M o j))
def ent (cA : FieldType → ClassId) (ad : Nat → Nat) (M : Mem) (o : Nat) : va_E := match kd o with
  | some (.inl ci) => .inr (ci, fdV ad M o ci)
  | some (.inr (ty, n)) => .inl (cA ty, n, arP ad M o ty)
  | none => .inr (0, [])
def CO : List Nat := (List.range 400).filter (fun o => (kd o).isSome)
def wsO (cA : FieldType → ClassId) (ad : Nat → Nat) (M : Mem) : va_W := CO.map (fun o => (ad o, ent cA ad M o))
def tysO (cA : FieldType → ClassId) : List (ClassId × FieldType) := [(cA .byte, .byte), (cA .int, .int), (cA .boolean, .boolean), (cA tyS, tyS), (cA tyT, tyT)]
def up2 (M : Mem) (o j : Nat) (z : Int) : Mem := fun o' j' => if o' = o ∧ j' = j then z else M o' j'
theorem up2_s (M : Mem) (o j : Nat) (z : Int) : up2 M o j z o j = z := by simp [up2]
theorem kd_lt {o : Nat} {k : Kd} (h : kd o = some k) : o < 400 := by
  rcases Nat.lt_or_ge o 400 with h1 | h1
  · exact h1
  · exfalso
    unfold kd at h
    rw [if_neg (by omega)] at h
    unfold kdT at h
    split at h <;> first | omega | cases h
theorem mem_CO {o : Nat} {k : Kd} (h : kd o = some k) : o ∈ CO := by
  unfold CO
  rw [List.mem_filter, List.mem_range]
  exact ⟨kd_lt h, by rw [h]; rfl⟩
theorem at_CO {o : Nat} {k : Kd} (h : kd o = some k) : ∃ i : Nat, CO[i]? = some o := List.getElem?_of_mem (mem_CO h)
theorem at_wsO {cA : FieldType → ClassId} {ad : Nat → Nat} {M : Mem} {o i : Nat} (h : CO[i]? = some o) : (wsO cA ad M)[i]? = some (ad o, ent cA ad M o) := by
  unfold wsO
  rw [List.getElem?_map, h]
  rfl
theorem nd_CO : va_nd CO = true := by decide +kernel
theorem ent_ne {cA : FieldType → ClassId} {ad : Nat → Nat} {M M' : Mem} {o : Nat} (h : ∀ j, M' o j = M o j) : ent cA ad M' o = ent cA ad M o := by
  have e : M' o = M o := funext h
  unfold ent fdV arP
  simp only [e]
/-- one cell's entry changed: the world of the changed memory -/
theorem set_wsO {cA : FieldType → ClassId} {ad : Nat → Nat} {M M' : Mem} {o i : Nat} (h : CO[i]? = some o) (hne : ∀ o', o' ≠ o → ∀ j, M' o' j = M o' j) : (wsO cA ad M).set i (ad o, ent cA ad M' o) = wsO cA ad M' := by
  apply List.ext_getElem?
  intro k
  have hl : i < CO.length := (List.getElem?_eq_some_iff.mp h).1
  have hl2 : i < (wsO cA ad M).length := by unfold wsO; rw [List.length_map]; exact hl
  by_cases hk : k = i
  · subst hk
    rw [List.getElem?_set_self hl2, at_wsO h]
  · rw [List.getElem?_set_ne (Ne.symm hk)]
    unfold wsO
    rw [List.getElem?_map, List.getElem?_map]
    cases hq : CO[k]? with
    | none => rfl
    | some o' =>
      have hne' : o' ≠ o := fun e => hk (va_nd_inj CO nd_CO k i o (by rw [hq, e]) h)
      simp only [Option.map_some]
      rw [ent_ne (M := M) (M' := M') (hne o' hne')]
theorem D_wsO {A : Nat → Prop} {cA : FieldType → ClassId} {ad : Nat → Nat} {M : Mem} (M' : Mem) (h : va_D A (wsO cA ad M)) : va_D A (wsO cA ad M') := by
  have key : ∀ (i : Nat) (q : Nat × va_E), (wsO cA ad M')[i]? = some q → ∃ q', (wsO cA ad M)[i]? = some q' ∧ q'.1 = q.1 := by
    intro i q hq
    unfold wsO at hq ⊢
    rw [List.getElem?_map] at hq
    rw [List.getElem?_map]
    cases ho : CO[i]? with
    | none => rw [ho] at hq; cases hq
    | some o =>
      rw [ho] at hq
      cases hq
      exact ⟨_, rfl, rfl⟩
  refine ⟨fun i j p q hi hj he => ?_, fun k q hk => ?_⟩
  · obtain ⟨p', h1, h2⟩ := key i p hi
    obtain ⟨q', h3, h4⟩ := key j q hj
    exact h.1 i j p' q' h1 h3 (by rw [h2, h4, he])
  · obtain ⟨q', h1, h2⟩ := key k q hk
    rw [← h2]
    exact h.2 k q' h1
theorem A_wsO {cA : FieldType → ClassId} {ad : Nat → Nat} {M : Mem} (M' : Mem) {sz : Nat} : ∀ q, va_A (wsO cA ad M) sz q → va_A (wsO cA ad M') sz q := by
  intro q h
  rcases h with ⟨k, e, h⟩ | h
  · unfold wsO at h
    rw [List.getElem?_map] at h
    cases ho : CO[k]? with
    | none => rw [ho] at h; cases h
    | some o =>
      rw [ho] at h
      cases h
      exact Or.inl ⟨k, _, at_wsO ho⟩
  · exact Or.inr h
