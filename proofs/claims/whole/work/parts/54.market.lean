/-! ===== the market, read by both ===== -/
theorem head_ok {B : Nat → Int} {L : Nat} (h : autF B L L 0 0 0 0 0 = -9) : 3 ≤ L ∧ autA B L 3 76 0 0 0 = -9 := by
  by_cases hL : L = 0
  · subst hL
    have e : autF B 0 0 0 0 0 0 0 = if 0 < (0 : Nat) ∧ (0 : Int) = 0 then -9 else ((0 : Nat) : Int) := autF_0
    rw [e, if_neg (by omega)] at h
    exact absurd h (by decide)
  · obtain ⟨f, rfl⟩ : ∃ f, L = f + 1 := ⟨L - 1, by omega⟩
    have hb : bgn B 0 0 0 = decide (B 0 = 76) := rfl
    by_cases h76 : B 0 = 76
    · rw [autF_b (by decide) (by rw [hb]; simp [h76]), h76] at h
      have h2 : autA B (f + 1) 1 76 1 0 0 = -9 := h
      rw [aut_step (by omega) (by decide)] at h2
      split at h2
      · rename_i c1
        rw [show nst 76 1 = 2 from rfl, aut_step (by omega) (by decide)] at h2
        split at h2
        · rename_i c2
          rw [show nst 76 2 = 0 from rfl] at h2
          exact ⟨by omega, h2⟩
        · omega
      · omega
    · rw [autF_bn (by decide) (by rw [hb]; simp [h76])] at h
      exact absurd h (by decide)
def cl (M : Mem) (c t : Nat) : Int := M (oC 0) (15 * t + c)
/-- the class has read m parts of the text B -/
def XI (M MX : Mem) (B : Nat → Int) (m : Nat) : Prop := (∀ o, o ≠ 0 → o ≠ oT 0 → o ≠ oC 0 → o ≠ 3 → o ≠ 4 → o ≠ 5 → o ≠ oB 0 → MX o = M o) ∧ (MX 0 6 = B 1 - 48 ∧ MX 0 7 = B 2 - 48) ∧ (MX (oT 0) 1 = (tcn B m : Nat) ∧ tcn B m ≤ 10) ∧ (MX 3 2 = (gcn B m : Nat) ∧ gcn B m ≤ 4) ∧ MX (oB 0) 1 = 0 ∧ RdT B m (cl MX 0) (cl MX 1) (cl MX 2) (cl MX 3) (cl MX 4) ∧ (∀ t, t < tcn B m → cl MX 5 t = cl MX 2 t ∧ cl MX 6 t = 1 ∧ cl MX 7 t = cl MX 3 t) ∧ RdG B m (MX 4) (MX 5)
theorem rdM_o {M : Mem} {n q o : Nat} {B : Nat → Int} (h1 : o ≠ oT 0) (h2 : o ≠ oC 0) : rdM M n q B o = M o := by
  funext j
  unfold rdM
  rw [up2_o h2, up2_o h2, up2_o h2, addM_o h1 h2]
theorem rdM_T {M : Mem} {n q : Nat} {B : Nat → Int} : rdM M n q B (oT 0) 1 = (n : Int) + 1 := by
  unfold rdM addM
  rw [up2_o oTC, up2_o oTC, up2_o oTC, up2_o oTC, up2_o oTC, up2_o oTC, up2_o oTC, up2_o oTC, up2_o oTC, up2_o oTC, up2_o oTC, up2_o oTC, up2_eq]
theorem rdM_c {M : Mem} {n q c t : Nat} {B : Nat → Int} (hc : c < 8) (ht : t < n) : cl (rdM M n q B) c t = cl M c t := by
  unfold cl rdM addM
  rw [up2_j (by omega), up2_j (by omega), up2_j (by omega), up2_j (by omega), up2_j (by omega), up2_j (by omega), up2_j (by omega), up2_j (by omega), up2_j (by omega), up2_j (by omega), up2_j (by omega), up2_j (by omega), up2_o oCT]
theorem rdM_n {M : Mem} {n q : Nat} {B : Nat → Int} : cl (rdM M n q B) 0 n = B (q + 1) - 48 ∧ cl (rdM M n q B) 1 n = (if B (q + 2) = 76 then 1 else 0) ∧ cl (rdM M n q B) 2 n = B (q + 3) - 48 ∧ cl (rdM M n q B) 3 n = B (q + 4) - 48 ∧ cl (rdM M n q B) 4 n = (if B q = 66 then 1 else 0) ∧ cl (rdM M n q B) 5 n = B (q + 3) - 48 ∧ cl (rdM M n q B) 6 n = 1 ∧ cl (rdM M n q B) 7 n = B (q + 4) - 48 := by
  have e : (if (if B (q + 2) = 76 then (1 : Int) else 0) = 0 then (0 : Int) else 1) = if B (q + 2) = 76 then 1 else 0 := by
    by_cases h : B (q + 2) = 76
    · rw [if_pos h]; rfl
    · rw [if_neg h]; rfl
  unfold cl rdM addM
  rw [e]
  refine ⟨?_, ?_, ?_, ?_, ?_, ?_, ?_, ?_⟩
  · rw [up2_j (by omega), up2_j (by omega), up2_j (by omega), up2_j (by omega), up2_j (by omega), up2_j (by omega), up2_j (by omega), up2_j (by omega), up2_j (by omega), up2_j (by omega), up2_j (by omega)]
    exact up2_eq
  · rw [up2_j (by omega), up2_j (by omega), up2_j (by omega), up2_j (by omega), up2_j (by omega), up2_j (by omega), up2_j (by omega), up2_j (by omega), up2_j (by omega), up2_j (by omega), up2_eq]
  · rw [up2_j (by omega), up2_j (by omega), up2_eq]
  · rw [up2_j (by omega), up2_j (by omega), up2_j (by omega), up2_j (by omega), up2_j (by omega), up2_eq]
  · rw [up2_eq]
  · rw [up2_j (by omega), up2_eq]
  · rw [up2_j (by omega), up2_j (by omega), up2_j (by omega), up2_eq]
  · rw [up2_j (by omega), up2_j (by omega), up2_j (by omega), up2_j (by omega), up2_eq]
theorem XI_T {M MX : Mem} {B Bx : Nat → Int} {m : Nat} (h : XI M MX B m) (hT : isT (B (pos B m)) = true) (h10 : tcn B m < 10) (hB : ∀ k, k < 5 → Bx (pos B m + k) = B (pos B m + k)) : XI M (rdM MX (tcn B m) (pos B m) Bx) B (m + 1) := by
  obtain ⟨a0, ⟨a1, a2⟩, ⟨a3, a4⟩, ⟨a5, a6⟩, a7, a8, a9, a10⟩ := h
  obtain ⟨p1, p2, p3⟩ := pos_T hT
  have h71 : B (pos B m) ≠ 71 := fun z => by rw [z] at hT; exact T71 hT
  obtain ⟨n0, n1, n2, n3, n4, n5, n6, n7⟩ := rdM_n (M := MX) (n := tcn B m) (q := pos B m) (B := Bx)
  have b0 := hB 0 (by decide)
  have b1 := hB 1 (by decide)
  have b2 := hB 2 (by decide)
  have b3 := hB 3 (by decide)
  have b4 := hB 4 (by decide)
  rw [Nat.add_zero] at b0
  rw [b1] at n0
  rw [b2] at n1
  rw [b3] at n2 n5
  rw [b4] at n3 n7
  rw [b0] at n4
  have ro : ∀ o, o ≠ oT 0 → o ≠ oC 0 → rdM MX (tcn B m) (pos B m) Bx o = MX o := fun o o1 o2 => rdM_o o1 o2
  refine ⟨fun o o1 o2 o3 o4 o5 o6 o7 => by rw [ro o o2 o3, a0 o o1 o2 o3 o4 o5 o6 o7], ?_, ⟨?_, by omega⟩, ⟨?_, by omega⟩, ?_, ?_, fun t ht => ?_, ?_⟩
  · rw [ro 0 (by unfold oT; decide) (by unfold oC; decide)]; exact ⟨a1, a2⟩
  · rw [rdM_T, p2]; omega
  · rw [ro 3 (by unfold oT; decide) (by unfold oC; decide), p3]; exact a5
  · rw [ro (oB 0) (by unfold oB oT; decide) (by unfold oB oC; decide)]; exact a7
  · refine RdT_T a8 (fun t ht => ⟨rdM_c (by decide) ht, rdM_c (by decide) ht, rdM_c (by decide) ht, rdM_c (by decide) ht, rdM_c (by decide) ht⟩) (fun _ => ?_)
    exact ⟨n0, n1, n2, n3, n4⟩
  · rw [p2] at ht
    by_cases hq : t = tcn B m
    · rw [hq, n5, n2, n6, n7, n3]
      exact ⟨rfl, rfl, rfl⟩
    · have ht2 : t < tcn B m := by omega
      rw [rdM_c (by decide) ht2, rdM_c (by decide) ht2, rdM_c (by decide) ht2, rdM_c (by decide) ht2, rdM_c (by decide) ht2]
      exact a9 t ht2
  · rw [ro 4 (by unfold oT; decide) (by unfold oC; decide), ro 5 (by unfold oT; decide) (by unfold oC; decide)]
    exact RdG_G a10 (fun t _ => ⟨rfl, rfl⟩) (fun z => absurd z h71)
theorem XI_G {M MX : Mem} {B : Nat → Int} {m : Nat} {p u : Int} (h : XI M MX B m) (hG : B (pos B m) = 71) (h4 : gcn B m < 4) (hg : gIs B (pos B m) p u) : XI M (gaddM MX (gcn B m) p u) B (m + 1) := by
  obtain ⟨a0, ⟨a1, a2⟩, ⟨a3, a4⟩, ⟨a5, a6⟩, a7, a8, a9, a10⟩ := h
  obtain ⟨p1, p2, p3⟩ := pos_G hG
  have hT : ¬ isT (B (pos B m)) = true := fun z => by rw [hG] at z; exact T71 z
  have ro : ∀ o, o ≠ 3 → o ≠ 4 → o ≠ 5 → gaddM MX (gcn B m) p u o = MX o := fun o o1 o2 o3 => funext (fun j => by unfold gaddM; rw [up2_o o1, up2_o o3, up2_o o2])
  have e4 : ∀ j, gaddM MX (gcn B m) p u 4 j = if j = gcn B m then p else MX 4 j := fun j => by
    unfold gaddM
    rw [up2_o (by decide), up2_o (by decide)]
    by_cases hj : j = gcn B m
    · rw [if_pos hj, hj, up2_eq]
    · rw [if_neg hj, up2_j hj]
  have e5 : ∀ j, gaddM MX (gcn B m) p u 5 j = if j = gcn B m then u else MX 5 j := fun j => by
    unfold gaddM
    rw [up2_o (by decide)]
    by_cases hj : j = gcn B m
    · rw [if_pos hj, hj, up2_eq]
    · rw [if_neg hj, up2_j hj, up2_o (by decide)]
  have ec : ∀ c, cl (gaddM MX (gcn B m) p u) c = cl MX c := fun c => by
    funext t
    unfold cl
    rw [ro (oC 0) (by unfold oC; decide) (by unfold oC; decide) (by unfold oC; decide)]
  refine ⟨fun o o1 o2 o3 o4 o5 o6 o7 => by rw [ro o o4 o5 o6, a0 o o1 o2 o3 o4 o5 o6 o7], ?_, ⟨?_, by omega⟩, ⟨?_, by omega⟩, ?_, ?_, fun t ht => ?_, ?_⟩
  · rw [ro 0 (by decide) (by decide) (by decide)]; exact ⟨a1, a2⟩
  · rw [ro (oT 0) (by unfold oT; decide) (by unfold oT; decide) (by unfold oT; decide), p2]; exact a3
  · unfold gaddM
    rw [up2_eq, p3]; omega
  · rw [ro (oB 0) (by unfold oB; decide) (by unfold oB; decide) (by unfold oB; decide)]; exact a7
  · rw [ec, ec, ec, ec, ec]
    exact RdT_T a8 (fun t _ => ⟨rfl, rfl, rfl, rfl, rfl⟩) (fun z => absurd z hT)
  · rw [ec, ec, ec, ec, ec]
    rw [p2] at ht
    exact a9 t ht
  · refine RdG_G a10 (fun t ht => ?_) (fun _ => ?_)
    · rw [e4, e5, if_neg (by omega), if_neg (by omega)]
      exact ⟨rfl, rfl⟩
    · rw [e4, e5, if_pos rfl, if_pos rfl]
      exact hg
section MK
variable {X : Scr} {M : Mem}
theorem xmarket_n {L : Nat} {B : Nat → Int} (h1 : M 1 1 = (L : Int)) (h72 : L ≤ 72) (hB : ∀ j, j < 72 → bytF M j = B j) (hV : autF B L L 0 0 0 0 0 = -9) : Runs X mX8_market 15 [(0, vr 0)] [] M (fun r M2 => ∃ m, pos B m = L ∧ XI M M2 B m ∧ r = some (vi (tcn B m : Nat))) := by
  obtain ⟨P, hP⟩ : ∃ P : Option AV → Mem → Prop, P = fun r M2 => ∃ m, pos B m = L ∧ XI M M2 B m ∧ r = some (vi (tcn B m : Nat)) := ⟨_, rfl⟩
  rw [← hP]
  obtain ⟨hL3, hA⟩ := head_ok hV
  have o1 : ∀ M2 : Mem, M2 2 = M 2 → bytF M2 = bytF M := fun M2 h => bytF_eq h
  refine kX8_market_15 (figureAt_n (q := 1) (by decide)) (on ?_)
  rw [hB 1 (by decide)]
  refine kX8_market_24 (figureAt_n (q := 2) (by decide)) (on ?_)
  rw [o1 _ (show (up2 M 0 6 (B 1 - 48)) 2 = M 2 from funext (fun j => up2_o (by decide))), hB 2 (by decide)]
  refine kX8_market_36 ?_
  have loop : ∀ (d m : Nat) (MX : Mem), L - pos B m ≤ d → pos B m ≤ L → XI M MX B m → (∃ k, autA B L (pos B m) k 0 (tcn B m : Nat) (gcn B m : Nat) = -9) → Runs X mX8_market 65 [(0, vr 0), (1, vi (pos B m : Nat))] [] MX P := by
    intro d
    induction d with
    | zero =>
      intro m MX hd hp hI _
      have e1 : MX 1 = M 1 := hI.1 1 (by decide) (by unfold oT; decide) (by unfold oC; decide) (by decide) (by decide) (by decide) (by unfold oB; decide)
      refine kX8_market_65 (fun q => kX8_market_102 ?_) (fun q => by rw [e1] at q; omega)
      rw [hP]
      exact ⟨m, by omega, hI, by rw [hI.2.2.1.1]⟩
    | succ d ih =>
      intro m MX hd hp hI hk
      have e1 : MX 1 = M 1 := hI.1 1 (by decide) (by unfold oT; decide) (by unfold oC; decide) (by decide) (by decide) (by decide) (by unfold oB; decide)
      have e2 : bytF MX = bytF M := o1 MX (hI.1 2 (by decide) (by unfold oT; decide) (by unfold oC; decide) (by decide) (by decide) (by decide) (by unfold oB; decide))
      by_cases hq : pos B m = L
      · refine kX8_market_65 (fun q => kX8_market_102 ?_) (fun q => by rw [e1] at q; omega)
        rw [hP]
        exact ⟨m, hq, hI, by rw [hI.2.2.1.1]⟩
      · refine kX8_market_65 (fun q => by rw [e1] at q; omega) (fun q => ?_)
        have hpg := pos_ge (B := B) (m := m)
        obtain ⟨k, hk⟩ := hk
        have hlt : pos B m < 72 := by omega
        have next : ∀ M2 : Mem, XI M M2 B (m + 1) → pos B (m + 1) ≤ L → (∃ k, autA B L (pos B (m + 1)) k 0 (tcn B (m + 1) : Nat) (gcn B (m + 1) : Nat) = -9) → Runs X mX8_market 81 [(0, vr 0), (1, vi (pos B m : Nat))] [] M2 P := by
          intro M2 h2 h3 h4
          have e3 : bytF M2 = bytF M := o1 M2 (h2.1 2 (by decide) (by unfold oT; decide) (by unfold oC; decide) (by decide) (by decide) (by decide) (by unfold oB; decide))
          have hlt2 := pos_lt (B := B) (m := m)
          refine kX8_market_81 (byteAt_n hlt) (on ?_)
          rw [e3, hB _ hlt]
          refine kX8_market_91 partLength_n (on ?_)
          have hpl := plen_in (B (pos B m))
          have hps : pos B (m + 1) = pos B m + (plen (B (pos B m))).toNat := rfl
          refine kX8_market_94 ?_ (h1 := by omega)
          rw [show ((pos B m : Nat) : Int) + max 1 (plen (B (pos B m))) = ((pos B (m + 1) : Nat) : Int) by omega]
          exact ih (m + 1) M2 (by omega) h3 h2 h4
        rcases part_ok (by omega) (by omega) hk with ⟨b1, b2, b3, b4, b5⟩ | ⟨b1, b2, b3, b4, b5⟩
        · obtain ⟨p1, p2, p3⟩ := pos_T b1
          have bb : ∀ k, k < 5 → bytF MX (pos B m + k) = B (pos B m + k) := fun k hk => by rw [e2]; exact hB _ (by omega)
          have b00 := bb 0 (by decide)
          rw [Nat.add_zero] at b00
          refine kX8_market_76 (readTooth_n (n := tcn B m) (by omega) hI.2.2.1.1 (by omega) (by rw [b00]; exact b1)) (on0 ?_)
          refine next _ (XI_T hI b1 (by omega) bb) (by omega) ⟨B (pos B m), ?_⟩
          rw [p1, p2, p3, ← cast1]
          exact b5
        · obtain ⟨p1, p2, p3⟩ := pos_G b1
          have bb : ∀ k, k < 4 → bytF MX (pos B m + k) = B (pos B m + k) := fun k hk => by rw [e2]; exact hB _ (by omega)
          have b00 := bb 0 (by decide)
          rw [Nat.add_zero] at b00
          refine kX8_market_76 (readGood_n (g := gcn B m) hI.2.2.2.1.1 (by omega) (by omega) (by rw [b00]; exact b1)) (on0 ?_)
          refine next _ (XI_G hI b1 (by omega) ?_) (by omega) ⟨B (pos B m), ?_⟩
          · rw [bb 1 (by decide), bb 2 (by decide), bb 3 (by decide)]
            exact ⟨rfl, rfl⟩
          · rw [p1, p2, p3, ← cast1]
            exact b5
  refine loop L 0 _ (Nat.sub_le _ _) (by show 3 ≤ L; exact hL3) ⟨fun o o1 o2 o3 o4 o5 o6 o7 => ?_, ⟨?_, ?_⟩, ⟨?_, Nat.zero_le _⟩, ⟨?_, Nat.zero_le _⟩, ?_, fun i hi => absurd hi (Nat.not_lt_zero i), fun t ht => absurd ht (Nat.not_lt_zero t), fun i hi => absurd hi (Nat.not_lt_zero i)⟩ ⟨76, hA⟩
  · funext j
    rw [up2_o o7, up2_o o4, up2_o o2, up2_o o1, up2_o o1]
  · rw [up2_o (by unfold oB; decide), up2_o (by decide), up2_o (by unfold oT; decide), up2_j (by decide), up2_eq]
  · rw [up2_o (by unfold oB; decide), up2_o (by decide), up2_o (by unfold oT; decide), up2_eq]
  · rw [up2_o (by unfold oB oT; decide), up2_o (by unfold oT; decide), up2_eq]; rfl
  · rw [up2_o (by unfold oB; decide), up2_eq]; rfl
  · rw [up2_eq]
end MK
