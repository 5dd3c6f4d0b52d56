/-! ===== the text written, wiped; the rates ===== -/
theorem bv_mod {x : BitVec 64} : x.toInt % 256 = ((x.setWidth 8).toNat : Int) := by
  have h := x.isLt
  rw [BitVec.toNat_setWidth, BitVec.toInt_eq_toNat_cond]
  split <;> omega
theorem sh_low {x : BitVec 64} {s : Nat} (hs : s ≤ 56) : (x >>> s).setWidth 8 = (x.sshiftRight s).setWidth 8 := by
  apply BitVec.eq_of_getLsbD_eq
  intro i hi
  rw [BitVec.getLsbD_setWidth, BitVec.getLsbD_setWidth, BitVec.getLsbD_ushiftRight, BitVec.getLsbD_sshiftRight]
  have h1 : ¬ 64 ≤ i := by omega
  have h2 : s + i < 64 := by omega
  simp [h1, h2]
theorem l2i_mod {y : Int} : l2i y % 256 = y % 256 := by
  unfold l2i
  have hz : Int32.size = 4294967296 := rfl
  rw [Int32.toInt_ofInt, hz]
  unfold Int.bmod
  simp only []
  split <;> omega
theorem i2b_mod {y : Int} : i2b y % 256 = y % 256 := by
  unfold i2b
  rw [Int8.toInt_toInt32, Int32.toInt_toInt8]
  have h : (Int32.ofInt y).toInt % 256 = y % 256 := l2i_mod
  rw [← h]
  unfold Int.bmod
  simp only []
  split <;> omega
theorem l2i_in (y : Int) : inI (l2i y) := i32_in _
theorem byte_eq {v : Int} {k : Nat} (hk : k < 8) : i2b (l2i (qushr v (8 * (k : Int)))) % 256 = zand (l2i (qshr v (8 * (k : Int)))) 255 := by
  rw [zand_255 (l2i_in _), i2b_mod, l2i_mod, l2i_mod]
  have key : ∀ s : Nat, s ≤ 56 → qushr v (8 * (k : Int)) = ((Int64.ofInt v).toBitVec >>> s).toInt → qshr v (8 * (k : Int)) = ((Int64.ofInt v).toBitVec.sshiftRight s).toInt → qushr v (8 * (k : Int)) % 256 = qshr v (8 * (k : Int)) % 256 := by
    intro s hs e1 e2
    rw [e1, e2, bv_mod, bv_mod, sh_low hs]
  rcases (show k = 0 ∨ k = 1 ∨ k = 2 ∨ k = 3 ∨ k = 4 ∨ k = 5 ∨ k = 6 ∨ k = 7 by omega) with rfl | rfl | rfl | rfl | rfl | rfl | rfl | rfl
  · exact key 0 (by decide) rfl rfl
  · exact key 8 (by decide) rfl rfl
  · exact key 16 (by decide) rfl rfl
  · exact key 24 (by decide) rfl rfl
  · exact key 32 (by decide) rfl rfl
  · exact key 40 (by decide) rfl rfl
  · exact key 48 (by decide) rfl rfl
  · exact key 56 (by decide) rfl rfl
/-- the objects of the slots -/
def slo (o : Nat) : Prop := (13 ≤ o ∧ o < 20) ∨ (22 ≤ o ∧ o < 26) ∨ o = 31 ∨ o = 32 ∨ (118 ≤ o ∧ o < 154) ∨ (333 ≤ o ∧ o ≤ 338)
theorem SL_eq {M M2 : Mem} {s : Nat} (hs : s < 2) (e : ∀ o, slo o → M2 o = M o) (h : SL M s) : SL M2 s := by
  unfold SL BkR at h ⊢
  obtain ⟨n, b, a1, a2, a3, a4, a5, a6⟩ := h
  rw [e 333 (by unfold slo; omega), e 334 (by unfold slo; omega), e 335 (by unfold slo; omega), e 336 (by unfold slo; omega), e 338 (by unfold slo; omega)]
  rw [e (oT (9 * (s + 1))) (by unfold oT slo; omega), e (oC (9 * (s + 1))) (by unfold oC slo; omega), e (oB (s + 1)) (by unfold oB slo; omega), e (oG (s + 1)) (by unfold oG slo; omega), e (oN (s + 1)) (by unfold oN slo; omega)]
  refine ⟨n, b, a1, a2, a3, a4, fun i hi => ?_, a6⟩
  rw [e (oT (9 * (s + 1) + 1 + i)) (by unfold oT slo; omega), e (oC (9 * (s + 1) + 1 + i)) (by unfold oC slo; omega)]
  exact a5 i hi
theorem slots_eq {M M2 : Mem} (e : ∀ o, slo o → M2 o = M o) (h : ∀ s, s < 2 → M (oS s) 3 = M 337 s ∧ (M 337 s ≠ 0 → SL M s)) : ∀ s, s < 2 → M2 (oS s) 3 = M2 337 s ∧ (M2 337 s ≠ 0 → SL M2 s) := by
  intro s hs
  rw [e (oS s) (by unfold oS slo; omega), e 337 (by unfold slo; omega)]
  exact ⟨(h s hs).1, fun hk => SL_eq hs e ((h s hs).2 hk)⟩
theorem RMB_eq {M M2 : Mem} {n b : Nat} (hq : ∀ o j, mbo o j → M2 o j = M o j) (h : RM M n ∧ RB M n b) : RM M2 n ∧ RB M2 n b := by
  obtain ⟨h1, h2⟩ := h
  have e : ∀ o, ((99 < o ∧ o < 118) ∨ o = 20 ∨ (306 < o ∧ o < 315) ∨ o = 329) → M2 o = M o := fun o ho => funext (fun j => hq o j (by unfold mbo; omega))
  have e6 : M2 200 6 = M 200 6 := hq 200 6 (by unfold mbo; omega)
  have e30 : M2 200 30 = M 200 30 := hq 200 30 (by unfold mbo; omega)
  refine ⟨?_, ?_⟩
  · unfold RM at h1 ⊢
    rw [e (oT 0) (by unfold oT; omega), e (oC 0) (by unfold oC; omega), e6, e 307 (by omega), e 308 (by omega), e 309 (by omega), e 310 (by omega), e 311 (by omega), e 312 (by omega), e 313 (by omega), e 314 (by omega)]
    exact h1
  · unfold RB BkR at h2 ⊢
    rw [e (oB 0) (by unfold oB; omega), e30, e 329 (by omega), e 308 (by omega), e 311 (by omega)]
    refine ⟨h2.1, fun i hi => ?_⟩
    rw [e (oT (9 * 0 + 1 + i)) (by unfold oT; omega), e (oC (9 * 0 + 1 + i)) (by unfold oC; omega)]
    exact h2.2 i hi
/-- the text alone has changed -/
def txo (o j : Nat) : Prop := o = 1 ∨ o = 2 ∨ o = 301 ∨ (o = 200 ∧ j = 2)
theorem RR_text {M M2 : Mem} {n b g L L2 : Nat} (hR : RRp M n b g L) (hq : ∀ o j, ¬ unw o j → ¬ txo o j → M2 o j = M o j) (hL : L2 ≤ 72 ∧ M2 1 1 = (L2 : Int) ∧ M2 200 2 = (L2 : Int)) (hB : ∀ j, j < 72 → M2 301 j = bytF M2 j) : RRp M2 n b g L2 := by
  obtain ⟨h1, h2, ⟨x1, x2, x3, x4, x5, x6, x7, x8, x9⟩⟩ := hR
  obtain ⟨r1, r2⟩ := RMB_eq (M2 := M2) (fun o j hm => hq o j (by unfold mbo at hm; unfold unw; omega) (by unfold mbo at hm; unfold txo; omega)) ⟨h1, h2⟩
  have e : ∀ o, (o = 0 ∨ o = 3 ∨ o = 4 ∨ o = 5 ∨ o = 11 ∨ o = 12 ∨ o = 316 ∨ o = 317 ∨ o = 331 ∨ o = 332) → M2 o = M o := fun o ho => funext (fun j => hq o j (by unfold unw; omega) (by unfold txo; omega))
  have e2 : ∀ j, (j = 15 ∨ j = 4 ∨ j = 5) → M2 200 j = M 200 j := fun j hj => hq 200 j (by unfold unw; omega) (by unfold txo; omega)
  refine ⟨r1, r2, ?_, hL, ?_, ?_, ?_, hB, ?_, ?_, slots_eq (fun o ho => funext (fun j => hq o j (by unfold slo at ho; unfold unw; omega) (by unfold slo at ho; unfold txo; omega))) x9⟩
  · rw [e 3 (by omega), e2 15 (by omega)]; exact x1
  · rw [e 0 (by omega), e2 4 (by omega)]; exact x3
  · rw [e 0 (by omega), e2 5 (by omega)]; exact x4
  · rw [e 4 (by omega), e 5 (by omega), e 316 (by omega), e 317 (by omega)]; exact x5
  · rw [e (oG 0) (by unfold oG; omega), e (oN 0) (by unfold oN; omega), e 331 (by omega), e 332 (by omega)]; exact x7
  · rw [hq 35 0 (by unfold unw; omega) (by unfold txo; omega)]; exact x8
section AT
variable {X : Scr} {M : Mem}
theorem ag_wipe (h : RR M) : Agree X mX8_wipe mX9_wipe [vr 0] [vr 200] M := by
  obtain ⟨n, b, g, L, hR⟩ := id h
  obtain ⟨-, -, ⟨-, ⟨l1, l2, l3⟩, -, -, -, tx, -⟩⟩ := id hR
  refine ⟨fun r M1 => r = some (vi (L : Int)) ∧ M1 = up2 M 1 1 0, kX8_wipe_0 ⟨by rw [l2], rfl⟩, ?_⟩
  rintro r M1 ⟨rfl, rfl⟩
  refine kX9_wipe_0 ⟨?_, n, b, g, 0, RR_text hR (fun o j hu ht => ?_) ⟨Nat.zero_le _, ?_, ?_⟩ (fun j hj => ?_)⟩
  · rw [up2_j (by decide), up2_o (by decide), l3]
  · by_cases ho : o = 200
    · subst ho
      rw [up2_j (fun z => ht (by unfold txo; omega)), up2_j (fun z => hu (by unfold unw; omega)), up2_o (by decide)]
    · rw [up2_o ho, up2_o ho, up2_o (fun z => ht (by unfold txo; omega))]
  · rw [up2_o (by decide), up2_o (by decide), up2_eq]; rfl
  · rw [up2_eq]; rfl
  · unfold bytF
    rw [up2_o (by decide), up2_o (by decide), up2_o (by decide), up2_o (by decide), up2_o (by decide), up2_o (by decide)]
    exact tx j hj
/-- the i-th byte that a call of write brings -/
def byW (v : Int) (nn i : Nat) : Int := zand (l2i (qshr v (8 * ((nn - 1 - i : Nat) : Int)))) 255
theorem xwrite_n {L nn : Nat} {v : Int} (hL : M 1 1 = (L : Int)) (h8 : nn ≤ 8) (hs : L + nn ≤ 72) : Runs X mX8_write 36 [(0, vr 0), (2, vl v), (4, vi ((nn : Int) - 1))] [] M (fun r M1 => r = some (vi ((L + nn : Nat) : Int)) ∧ (∀ o, o ≠ 1 → o ≠ 2 → M1 o = M o) ∧ M1 1 1 = ((L + nn : Nat) : Int) ∧ (∀ j, (j < L ∨ L + nn ≤ j) → M1 2 j = M 2 j) ∧ ∀ i, i < nn → M1 2 (L + i) % 256 = byW v nn i) := by
  obtain ⟨P, hP⟩ : ∃ P : Option AV → Mem → Prop, P = fun r M1 => r = some (vi ((L + nn : Nat) : Int)) ∧ (∀ o, o ≠ 1 → o ≠ 2 → M1 o = M o) ∧ M1 1 1 = ((L + nn : Nat) : Int) ∧ (∀ j, (j < L ∨ L + nn ≤ j) → M1 2 j = M 2 j) ∧ ∀ i, i < nn → M1 2 (L + i) % 256 = byW v nn i := ⟨_, rfl⟩
  rw [← hP]
  have go : ∀ k, k ≤ nn → ∀ M2 : Mem, (∀ o, o ≠ 1 → o ≠ 2 → M2 o = M o) → M2 1 1 = ((L + k : Nat) : Int) → (∀ j, (j < L ∨ L + k ≤ j) → M2 2 j = M 2 j) → (∀ i, i < k → M2 2 (L + i) % 256 = byW v nn i) → Runs X mX8_write 36 [(0, vr 0), (2, vl v), (4, vi ((nn : Int) - 1 - (k : Int)))] [] M2 P := by
    refine up_loop (n := nn) ?_ ?_
    · intro M2 k1 k2 k3 k4
      refine kX8_write_36 (fun q => kX8_write_63 ?_) (fun q => by omega)
      rw [hP]
      exact ⟨by rw [k2], k1, k2, k3, k4⟩
    · intro k hk ih M2 k1 k2 k3 k4
      have ek : (nn : Int) - 1 - (k : Int) = ((nn - 1 - k : Nat) : Int) := by omega
      refine kX8_write_36 (fun q => by omega) (fun q => ?_)
      obtain ⟨bv, hbv⟩ : ∃ bv, bv = i2b (l2i (qushr v (8 * ((nn : Int) - 1 - (k : Int))))) := ⟨_, rfl⟩
      have hb8 : -128 ≤ bv ∧ bv ≤ 127 := by
        rw [hbv]
        unfold i2b
        rw [Int8.toInt_toInt32]
        have h1 := Int8.le_toInt (Int32.ofInt (l2i (qushr v (8 * ((nn : Int) - 1 - (k : Int)))))).toInt8
        have h2 := Int8.toInt_lt (Int32.ofInt (l2i (qushr v (8 * ((nn : Int) - 1 - (k : Int)))))).toInt8
        omega
      have app : Call X mX7_append [vr 1, vi bv] M2 (ret0 (up2 (up2 M2 2 (L + k) bv) 1 1 ((L + k + 1 : Nat) : Int))) := by
        have e1 : (up2 M2 2 ((M2 1 1)).toNat bv) 1 1 = ((L + k : Nat) : Int) := by rw [up2_o (by decide), k2]
        refine kX7_append_0 (fun q => by omega) (fun q => kX7_append_7 (fun q => by omega) (fun q => ?_))
        refine kX7_append_19 (h4 := by rw [e1]; omega) (kX7_append_39 ⟨rfl, ?_⟩)
        rw [e1, k2, cast1, show (((L + k : Nat)) : Int).toNat = L + k by omega]
      rw [← hP] at *
      refine kX8_write_41 (by rw [← hbv]; exact app) (on0 ?_)
      refine kX8_write_57 ?_
      rw [show (nn : Int) - 1 - (k : Int) + -1 = (nn : Int) - 1 - ((k + 1 : Nat) : Int) by omega]
      refine ih _ (fun o o1 o2 => ?_) ?_ (fun j hj => ?_) (all_S.mpr ⟨fun i hi => ?_, ?_⟩)
      · funext j
        rw [up2_o o1, up2_o o2, k1 o o1 o2]
      · rw [up2_eq]; rfl
      · rw [up2_o (by decide), up2_j (by omega)]
        exact k3 j (by omega)
      · rw [up2_o (by decide), up2_j (by omega)]
        exact k4 i hi
      · rw [up2_o (by decide), up2_eq, hbv, ek]
        exact byte_eq (by omega)
  have g0 := go 0 (Nat.zero_le _) M (fun o _ _ => rfl) hL (fun j _ => rfl) (fun i hi => by omega)
  rw [show (nn : Int) - 1 - ((0 : Nat) : Int) = (nn : Int) - 1 by omega] at g0
  exact g0
theorem mwrite_n {L nn : Nat} {v : Int} (hL : M 200 2 = (L : Int)) (h8 : nn ≤ 8) (hs : L + nn ≤ 72) : Runs X mX9_write 39 [(0, vr 200), (2, vl v), (4, vi ((nn : Int) - 1))] [] M (fun r M1 => r = some (vi ((L + nn : Nat) : Int)) ∧ (∀ o j, o ≠ 301 → (o ≠ 200 ∨ j ≠ 2) → M1 o j = M o j) ∧ M1 200 2 = ((L + nn : Nat) : Int) ∧ (∀ j, (j < L ∨ L + nn ≤ j) → M1 301 j = M 301 j) ∧ ∀ i, i < nn → M1 301 (L + i) = byW v nn i) := by
  obtain ⟨P, hP⟩ : ∃ P : Option AV → Mem → Prop, P = fun r M1 => r = some (vi ((L + nn : Nat) : Int)) ∧ (∀ o j, o ≠ 301 → (o ≠ 200 ∨ j ≠ 2) → M1 o j = M o j) ∧ M1 200 2 = ((L + nn : Nat) : Int) ∧ (∀ j, (j < L ∨ L + nn ≤ j) → M1 301 j = M 301 j) ∧ ∀ i, i < nn → M1 301 (L + i) = byW v nn i := ⟨_, rfl⟩
  rw [← hP]
  have go : ∀ k, k ≤ nn → ∀ M2 : Mem, (∀ o j, o ≠ 301 → (o ≠ 200 ∨ j ≠ 2) → M2 o j = M o j) → M2 200 2 = ((L + k : Nat) : Int) → (∀ j, (j < L ∨ L + k ≤ j) → M2 301 j = M 301 j) → (∀ i, i < k → M2 301 (L + i) = byW v nn i) → Runs X mX9_write 39 [(0, vr 200), (2, vl v), (4, vi ((nn : Int) - 1 - (k : Int)))] [] M2 P := by
    refine up_loop (n := nn) ?_ ?_
    · intro M2 k1 k2 k3 k4
      refine kX9_write_39 (fun q => kX9_write_81 ?_) (fun q => by omega)
      rw [hP]
      exact ⟨by rw [k2], k1, k2, k3, k4⟩
    · intro k hk ih M2 k1 k2 k3 k4
      have ek : (nn : Int) - 1 - (k : Int) = ((nn - 1 - k : Nat) : Int) := by omega
      have et : ((M2 200 2)).toNat = L + k := by omega
      refine kX9_write_39 (fun q => by omega) (fun q => ?_)
      obtain ⟨bv, hbv⟩ : ∃ bv, bv = zand (l2i (qshr v (8 * ((nn : Int) - 1 - (k : Int))))) 255 := ⟨_, rfl⟩
      have e1 : ∀ z, (up2 M2 301 (L + k) z) 200 2 = ((L + k : Nat) : Int) := fun z => by rw [up2_o (by decide), k2]
      refine kX9_write_44 (h4 := by rw [et, e1]; omega) ?_
      rw [et, e1, cast1, ← hbv, show (nn : Int) - 1 - (k : Int) + -1 = (nn : Int) - 1 - ((k + 1 : Nat) : Int) by omega]
      refine ih _ (fun o j o1 o2 => ?_) ?_ (fun j hj => ?_) (all_S.mpr ⟨fun i hi => ?_, ?_⟩)
      · by_cases ho : o = 200
        · subst ho
          rw [up2_j (by omega), up2_o (by decide)]
          exact k1 200 j o1 o2
        · rw [up2_o ho, up2_o o1]
          exact k1 o j o1 o2
      · rw [up2_eq]; rfl
      · rw [up2_o (by decide), up2_j (by omega)]
        exact k3 j (by omega)
      · rw [up2_o (by decide), up2_j (by omega)]
        exact k4 i hi
      · rw [up2_o (by decide), up2_eq, hbv, ek]
        rfl
  have g0 := go 0 (Nat.zero_le _) M (fun o j _ _ => rfl) hL (fun j _ => rfl) (fun i hi => by omega)
  rw [show (nn : Int) - 1 - ((0 : Nat) : Int) = (nn : Int) - 1 by omega] at g0
  exact g0
theorem ag_write {n v : Int} (h : RR M) : Agree X mX8_write mX9_write [vr 0, vi n, vl v] [vr 200, vi n, vl v] M := by
  obtain ⟨nt, b, g, L, hR⟩ := id h
  obtain ⟨-, -, ⟨-, ⟨l1, l2, l3⟩, -, -, -, tx, -⟩⟩ := id hR
  have l3' : (up2 M 200 0 0) 200 2 = (L : Int) := by rw [up2_j (by decide)]; exact l3
  by_cases hn : 1 ≤ n ∧ n ≤ 8
  · obtain ⟨nn, rfl⟩ : ∃ nn : Nat, n = (nn : Int) := ⟨n.toNat, by omega⟩
    by_cases hs : L + nn ≤ 72
    · refine ⟨_, kX8_write_0 (fun q => by omega) (fun _ => kX8_write_5 (fun _ => kX8_write_14 (fun _ => kX8_write_31 (xwrite_n l2 (by omega) hs)) (fun q => by omega)) (fun q => by omega)), ?_⟩
      rintro r M1 ⟨rfl, k1, k2, k3, k4⟩
      have m2 : (up2 M1 200 0 0) 200 2 = (L : Int) := by rw [up2_j (by decide), k1 200 (by decide) (by decide)]; exact l3
      refine kX9_write_0 in_n (on ?_)
      refine kX9_write_14 (fun _ => ?_) (fun q => absurd hn (b2i_d0.mp q))
      refine kX9_write_20 (fun _ => kX9_write_34 ?_) (fun q => by omega)
      refine (mwrite_n m2 (by omega) hs).mono ?_
      rintro r M2 ⟨rfl, j1, j2, j3, j4⟩
      have e1 : M2 1 1 = M1 1 1 := by rw [j1 1 1 (by decide) (Or.inl (by decide)), up2_o (by decide)]
      have e2 : ∀ j, M2 2 j = M1 2 j := fun j => by rw [j1 2 j (by decide) (Or.inl (by decide)), up2_o (by decide)]
      refine ⟨rfl, nt, b, g, L + nn, RR_text hR (fun o j hu ht => ?_) ⟨hs, by rw [e1]; exact k2, j2⟩ (fun j hj => ?_)⟩
      · unfold txo at ht
        rw [j1 o j (by omega) (by omega), q0 o j hu, k1 o (by omega) (by omega)]
      · unfold bytF
        rw [e2]
        by_cases hj2 : j < L ∨ L + nn ≤ j
        · rw [j3 j hj2, k3 j hj2, up2_o (by decide), k1 301 (by decide) (by decide)]
          exact tx j hj
        · obtain ⟨i, rfl⟩ : ∃ i, j = L + i := ⟨j - L, by omega⟩
          rw [j4 i (by omega), k4 i (by omega)]
    · refine Agree.ask0 (r0 := vi (-4)) h ?_ ?_
      · exact kX8_write_0 (fun q => by omega) (fun _ => kX8_write_5 (fun _ => kX8_write_14 (fun q => by omega) (fun _ => kX8_write_28 ⟨rfl, rfl⟩)) (fun q => by omega))
      · refine kX9_write_0 in_n (on ?_)
        refine kX9_write_14 (fun _ => ?_) (fun q => absurd hn (b2i_d0.mp q))
        exact kX9_write_20 (fun q => by omega) (fun _ => kX9_write_31 ⟨rfl, q0⟩)
  · refine Agree.ask0 (r0 := vi (-2)) h ?_ ?_
    · exact kX8_write_0 (fun q => kX8_write_11 ⟨rfl, rfl⟩) (fun _ => kX8_write_5 (fun q => by omega) (fun _ => kX8_write_11 ⟨rfl, rfl⟩))
    · refine kX9_write_0 in_n (on ?_)
      exact kX9_write_14 (fun q => absurd (b2i_d1.mp q) hn) (fun _ => kX9_write_17 ⟨rfl, q0⟩)
end AT
