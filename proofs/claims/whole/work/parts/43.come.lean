/-! ===== teeth that come ===== -/
theorem up2_ag {A B : Mem} {o j o' : Nat} {z : Int} (h : A o' = B o') : up2 A o j z o' = up2 B o j z o' := by
  funext i
  unfold up2
  rw [h]
theorem addM_ag {A B : Mem} {n o : Nat} {s l p : Int} (h : A o = B o) : addM A 0 n s l p o = addM B 0 n s l p o := by
  unfold addM
  exact up2_ag (up2_ag (up2_ag (up2_ag (up2_ag (up2_ag (up2_ag (up2_ag (up2_ag (up2_ag h)))))))))
theorem maddM_eq {M : Mem} {t : Nat} {s l p : Int} : maddM M t s l p = up2 (up2 (up2 (up2 (up2 (up2 (up2 (up2 (up2 M 307 t s) 308 t l) 309 t 0) 310 t p) 311 t 0) 312 t 0) 313 t 1) 314 (8 * t) p) 200 6 (t + 1) := by
  unfold maddM comeM
  rw [up2_o (o := 311) (by decide), up2_o (o := 310) (by decide), up2_eq, up2_o (o := 311) (by decide), up2_eq]
theorem maddM_ag {A B : Mem} {n o : Nat} {s l p : Int} (h : A o = B o) : maddM A n s l p o = maddM B n s l p o := by
  rw [maddM_eq, maddM_eq]
  exact up2_ag (up2_ag (up2_ag (up2_ag (up2_ag (up2_ag (up2_ag (up2_ag (up2_ag h))))))))
theorem maddM_o {M : Mem} {t o : Nat} {s l p : Int} (h : o < 200 ∨ 314 < o) : maddM M t s l p o = M o := by
  rw [maddM_eq]
  funext j
  rw [up2_o (by omega), up2_o (by omega), up2_o (by omega), up2_o (by omega), up2_o (by omega), up2_o (by omega), up2_o (by omega), up2_o (by omega), up2_o (by omega)]
/-- a tooth more, here and there -/
def jad (M : Mem) (n : Nat) (s l p : Int) : Mem := maddM (addM M 0 n s l p) n s l p
theorem jad_lo {M : Mem} {n o : Nat} {s l p : Int} (h : o < 200) : jad M n s l p o = addM M 0 n s l p o := maddM_o (Or.inl h)
theorem jad_hi {M : Mem} {n o : Nat} {s l p : Int} (h : 200 ≤ o) : jad M n s l p o = maddM M n s l p o := maddM_ag (addM_o (by unfold oT; omega) (by unfold oC; omega))
theorem RR_add {M : Mem} {n b g L : Nat} {s l p : Int} (hR : RRp M n b g L) (hn : n < 10) (hs : 1 ≤ s ∧ s ≤ 9) (hl : l = 0 ∨ l = 1) (hp : 0 ≤ p ∧ p ≤ 3) : RRp (jad M n s l p) (n + 1) b g L := by
  have hl2 : (if l = 0 then (0 : Int) else 1) = l := by split <;> omega
  have cC : ∀ j, jad M n s l p (oC 0) j = addM M 0 n s l p (oC 0) j := fun j => by rw [jad_lo (by unfold oC; omega)]
  have hC : ∀ t d, t ≠ n → d < 15 → jad M n s l p (oC 0) (15 * t + d) = M (oC 0) (15 * t + d) := by
    intro t d ht hd
    rw [cC]
    unfold addM
    rw [up2_j (by omega), up2_j (by omega), up2_j (by omega), up2_j (by omega), up2_j (by omega), up2_j (by omega), up2_j (by omega), up2_j (by omega), up2_j (by omega), up2_o oCT]
  have hm : ∀ o, 200 ≤ o → jad M n s l p o = up2 (up2 (up2 (up2 (up2 (up2 (up2 (up2 (up2 M 307 n s) 308 n l) 309 n 0) 310 n p) 311 n 0) 312 n 0) 313 n 1) 314 (8 * n) p) 200 6 (n + 1) o := fun o ho => by rw [jad_hi ho, maddM_eq]
  have c307 : ∀ t, jad M n s l p 307 t = if t = n then s else M 307 t := fun t => by
    rw [hm 307 (by decide), up2_o (by decide), up2_o (by decide), up2_o (by decide), up2_o (by decide), up2_o (by decide), up2_o (by decide), up2_o (by decide), up2_o (by decide)]
    split
    · rename_i z; rw [z, up2_eq]
    · rename_i z; rw [up2_j z]
  have c308 : ∀ t, jad M n s l p 308 t = if t = n then l else M 308 t := fun t => by
    rw [hm 308 (by decide), up2_o (by decide), up2_o (by decide), up2_o (by decide), up2_o (by decide), up2_o (by decide), up2_o (by decide), up2_o (by decide)]
    split
    · rename_i z; rw [z, up2_eq]
    · rename_i z; rw [up2_j z, up2_o (by decide)]
  have c309 : ∀ t, jad M n s l p 309 t = if t = n then 0 else M 309 t := fun t => by
    rw [hm 309 (by decide), up2_o (by decide), up2_o (by decide), up2_o (by decide), up2_o (by decide), up2_o (by decide), up2_o (by decide)]
    split
    · rename_i z; rw [z, up2_eq]
    · rename_i z; rw [up2_j z, up2_o (by decide), up2_o (by decide)]
  have c310 : ∀ t, jad M n s l p 310 t = if t = n then p else M 310 t := fun t => by
    rw [hm 310 (by decide), up2_o (by decide), up2_o (by decide), up2_o (by decide), up2_o (by decide), up2_o (by decide)]
    split
    · rename_i z; rw [z, up2_eq]
    · rename_i z; rw [up2_j z, up2_o (by decide), up2_o (by decide), up2_o (by decide)]
  have c311 : ∀ t, jad M n s l p 311 t = if t = n then 0 else M 311 t := fun t => by
    rw [hm 311 (by decide), up2_o (by decide), up2_o (by decide), up2_o (by decide), up2_o (by decide)]
    split
    · rename_i z; rw [z, up2_eq]
    · rename_i z; rw [up2_j z, up2_o (by decide), up2_o (by decide), up2_o (by decide), up2_o (by decide)]
  have c312 : ∀ t, jad M n s l p 312 t = if t = n then 0 else M 312 t := fun t => by
    rw [hm 312 (by decide), up2_o (by decide), up2_o (by decide), up2_o (by decide)]
    split
    · rename_i z; rw [z, up2_eq]
    · rename_i z; rw [up2_j z, up2_o (by decide), up2_o (by decide), up2_o (by decide), up2_o (by decide), up2_o (by decide)]
  have c313 : ∀ t, jad M n s l p 313 t = if t = n then 1 else M 313 t := fun t => by
    rw [hm 313 (by decide), up2_o (by decide), up2_o (by decide)]
    split
    · rename_i z; rw [z, up2_eq]
    · rename_i z; rw [up2_j z, up2_o (by decide), up2_o (by decide), up2_o (by decide), up2_o (by decide), up2_o (by decide), up2_o (by decide)]
  have c314 : ∀ j, jad M n s l p 314 j = if j = 8 * n then p else M 314 j := fun j => by
    rw [hm 314 (by decide), up2_o (by decide)]
    split
    · rename_i z; rw [z, up2_eq]
    · rename_i z; rw [up2_j z, up2_o (by decide), up2_o (by decide), up2_o (by decide), up2_o (by decide), up2_o (by decide), up2_o (by decide), up2_o (by decide)]
  refine RR_main hR (fun o j hu hmn => ?_) ⟨⟨hn, ?_, ?_⟩, ?_, ?_⟩ (Nat.le_succ n) (fun t ht => ⟨?_, ?_⟩)
  · by_cases ho : o < 200
    · rw [jad_lo ho, addM_o (by unfold mno at hmn; unfold oT; omega) (by unfold mno at hmn; unfold oC; omega)]
    · rw [hm o (by omega)]
      unfold mno at hmn
      by_cases h2 : o = 200
      · subst h2
        rw [up2_j (by omega), up2_o (by decide), up2_o (by decide), up2_o (by decide), up2_o (by decide), up2_o (by decide), up2_o (by decide), up2_o (by decide), up2_o (by decide)]
      · rw [up2_o h2, up2_o (by omega), up2_o (by omega), up2_o (by omega), up2_o (by omega), up2_o (by omega), up2_o (by omega), up2_o (by omega), up2_o (by omega)]
  · rw [jad_lo (by unfold oT; omega)]
    unfold addM
    rw [up2_o oTC, up2_o oTC, up2_o oTC, up2_o oTC, up2_o oTC, up2_o oTC, up2_o oTC, up2_o oTC, up2_o oTC, up2_eq]
    rfl
  · rw [hm 200 (by decide), up2_eq]; rfl
  · refine PR_one n hR.1.2.1 (fun t ht hq => by omega) hC (fun t hq => ⟨by rw [c307, if_neg hq], by rw [c308, if_neg hq], by rw [c309, if_neg hq], by rw [c310, if_neg hq], by rw [c311, if_neg hq], by rw [c313, if_neg hq]⟩) (fun t i hq hi => by rw [c314, if_neg (by omega)]) (fun _ => ?_)
    have x0 : jad M n s l p (oC 0) (15 * n) = s := by
      rw [cC]; unfold addM
      rw [up2_j (by omega), up2_j (by omega), up2_j (by omega), up2_j (by omega), up2_j (by omega), up2_j (by omega), up2_j (by omega), up2_j (by omega), up2_eq]
    have x1 : jad M n s l p (oC 0) (15 * n + 1) = l := by
      rw [cC]; unfold addM
      rw [up2_j (by omega), up2_j (by omega), up2_j (by omega), up2_j (by omega), up2_j (by omega), up2_j (by omega), up2_j (by omega), up2_eq, hl2]
    have x2 : jad M n s l p (oC 0) (15 * n + 2) = 0 := by
      rw [cC]; unfold addM
      rw [up2_j (by omega), up2_j (by omega), up2_j (by omega), up2_j (by omega), up2_j (by omega), up2_j (by omega), up2_eq]
    have x3 : jad M n s l p (oC 0) (15 * n + 3) = p := by
      rw [cC]; unfold addM
      rw [up2_j (by omega), up2_j (by omega), up2_eq]
    have x4 : jad M n s l p (oC 0) (15 * n + 4) = 0 := by
      rw [cC]; unfold addM
      rw [up2_j (by omega), up2_j (by omega), up2_j (by omega), up2_j (by omega), up2_j (by omega), up2_eq]
    have x6 : jad M n s l p (oC 0) (15 * n + 6) = 1 := by
      rw [cC]; unfold addM
      rw [up2_eq]
    have x7 : jad M n s l p (oC 0) (15 * n + 7 + 0) = p := by
      rw [cC]; unfold addM
      rw [up2_j (by omega), Nat.add_zero, up2_eq]
    unfold PRc
    rw [x0, x1, x2, x3, x4, x6, c307, if_pos rfl, c308, if_pos rfl, c309, if_pos rfl, c310, if_pos rfl, c311, if_pos rfl, c313, if_pos rfl]
    refine ⟨⟨rfl, rfl, rfl, rfl, rfl, rfl⟩, ⟨hs, by omega, by omega, hp, by omega, by omega, by omega⟩, fun i hi => ?_⟩
    have : i = 0 := by omega
    subst this
    rw [x7, Nat.add_zero, c314, if_pos rfl]
  · refine SR_one n hR.1.2.2 (fun t ht hq => by omega) (fun t hq => hC t 5 hq (by decide)) (fun t hq => by rw [c312, if_neg hq]) (fun _ => ?_)
    have x5 : jad M n s l p (oC 0) (15 * n + 5) = 0 := by
      rw [cC]; unfold addM
      rw [up2_j (by omega), up2_j (by omega), up2_j (by omega), up2_j (by omega), up2_eq]
    rw [x5, c312, if_pos rfl]
    omega
  · rw [c308, if_neg (by omega)]
  · rw [c311, if_neg (by omega)]
theorem up2_pt {A B : Mem} {o j o' j' : Nat} {z : Int} (h : A o' j' = B o' j') : up2 A o j z o' j' = up2 B o j z o' j' := by
  unfold up2
  rw [h]
theorem maddM_pt {A B : Mem} {n o j : Nat} {s l p : Int} (h : A o j = B o j) : maddM A n s l p o j = maddM B n s l p o j := by
  rw [maddM_eq, maddM_eq]
  exact up2_pt (up2_pt (up2_pt (up2_pt (up2_pt (up2_pt (up2_pt (up2_pt (up2_pt h))))))))
theorem dsz_in (x : Int) : 1 ≤ dsz x ∧ dsz x ≤ 9 := by
  have := qushr_33 x
  unfold dsz
  omega
theorem dlf_in (x : Int) : dlf x = 0 ∨ dlf x = 1 := by
  unfold dlf
  split
  · exact Or.inr rfl
  · exact Or.inl rfl
def xk (x : Int) : Nat → Int
  | 0 => x
  | k + 1 => drw (xk x k)
def Jk (M : Mem) (n : Nat) (x : Int) : Nat → Mem
  | 0 => M
  | k + 1 => jad (Jk M n x k) (n + k) (dsz (xk x (k + 1))) (dlf (xk x (k + 1))) ((k % 4 : Nat) : Int)
theorem RR_J {M : Mem} {n b g L : Nat} {x : Int} (hR : RRp M n b g L) : ∀ k, n + k ≤ 10 → RRp (Jk M n x k) (n + k) b g L
  | 0, _ => hR
  | k + 1, h => RR_add (RR_J hR k (by omega)) (by omega) (dsz_in _) (dlf_in _) (by omega)
section AC
variable {X : Scr} {M : Mem}
theorem ag_caught {p x : Int} (h : RR M) : Agree X mX8_caught mX9_caught [vr 0, vi p, vl x] [vr 200, vi p, vl x] M := by
  obtain ⟨n, b, g, L, hR⟩ := id h
  obtain ⟨a1, a2, a3⟩ := hR.1.1
  have a3' : (up2 M 200 0 0) 200 6 = (n : Int) := by rw [up2_j (by decide)]; exact a3
  by_cases hp : 0 ≤ p ∧ p < 4
  · by_cases hn : n < 10
    · refine ⟨fun r M1 => r = some (vi (n : Int)) ∧ M1 = addM M 0 n (dsz (drw x)) (dlf (drw x)) p, ?_, ?_⟩
      · refine kX8_caught_0 isPerson_n (on ?_)
        refine kX8_caught_4 (fun _ => ?_) (fun q => absurd hp (b2i_d0.mp q))
        refine kX8_caught_9 (fun _ => ?_) (fun q => by omega)
        refine kX8_caught_24 drawFrom_n (onL ?_)
        refine kX8_caught_30 (addDrawn_n hn a2) (on0 ?_)
        have e : addM M 0 n (dsz (drw x)) (dlf (drw x)) p (oT 0) 1 = ((n + 1 : Nat) : Int) := by
          have := (RR_add hR hn (dsz_in (drw x)) (dlf_in (drw x)) (show 0 ≤ p ∧ p ≤ 3 by omega)).1.1.2.1
          rw [jad_lo (by unfold oT; omega)] at this
          exact this
        refine kX8_caught_33 (h1 := by rw [e]; omega) ⟨?_, rfl⟩
        rw [e, show ((n + 1 : Nat) : Int) - 1 = n by omega]
      · rintro r M1 ⟨rfl, rfl⟩
        obtain ⟨M0, hM0⟩ : ∃ M0, M0 = up2 (addM M 0 n (dsz (drw x)) (dlf (drw x)) p) 200 0 0 := ⟨_, rfl⟩
        have e6 : M0 200 6 = (n : Int) := by rw [hM0, up2_j (by decide), addM_o (by unfold oT; decide) (by unfold oC; decide)]; exact a3
        refine kX9_caught_0 noOne_n (on ?_)
        refine kX9_caught_9 (fun _ => ?_) (fun q => absurd hp (b2i_d1.mp q))
        rw [← hM0]
        refine kX9_caught_14 (fun _ => ?_) (fun q => by omega)
        refine kX9_caught_26 draw_n (onL ?_)
        refine kX9_caught_32 (madd_n hn e6) (on0 ?_)
        have hR2 : RRp (maddM M0 n (dsz (drw x)) (dlf (drw x)) p) (n + 1) b g L := by
          refine RR_quiet (RR_add hR hn (dsz_in (drw x)) (dlf_in (drw x)) (show 0 ≤ p ∧ p ≤ 3 by omega)) (fun o j hu => ?_)
          rw [hM0]
          exact maddM_pt (q0 o j hu)
        have e := hR2.1.1.2.2
        refine kX9_caught_35 (h1 := by rw [e]; omega) ⟨?_, n + 1, b, g, L, hR2⟩
        rw [e, show ((n + 1 : Nat) : Int) - 1 = n by omega]
    · refine Agree.ask0 (r0 := vi (-4)) h ?_ ?_
      · refine kX8_caught_0 isPerson_n (on ?_)
        refine kX8_caught_4 (fun _ => ?_) (fun q => absurd hp (b2i_d0.mp q))
        exact kX8_caught_9 (fun q => by omega) (fun q => kX8_caught_21 ⟨rfl, rfl⟩)
      · refine kX9_caught_0 noOne_n (on ?_)
        refine kX9_caught_9 (fun _ => ?_) (fun q => absurd hp (b2i_d1.mp q))
        exact kX9_caught_14 (fun q => by omega) (fun q => kX9_caught_23 ⟨rfl, q0⟩)
  · refine Agree.ask0 (r0 := vi (-1)) h ?_ ?_
    · refine kX8_caught_0 isPerson_n (on ?_)
      exact kX8_caught_4 (fun q => absurd (b2i_d1.mp q) hp) (fun q => kX8_caught_7 ⟨rfl, rfl⟩)
    · refine kX9_caught_0 noOne_n (on ?_)
      exact kX9_caught_9 (fun q => absurd hp (b2i_d0.mp q)) (fun q => kX9_caught_12 ⟨rfl, q0⟩)
theorem ag_washed {m x : Int} (h : RR M) : Agree X mX8_washed mX9_washed [vr 0, vi m, vl x] [vr 200, vi m, vl x] M := by
  obtain ⟨n, b, g, L, hR⟩ := id h
  obtain ⟨a1, a2, a3⟩ := hR.1.1
  have a3' : (up2 M 200 0 0) 200 6 = (n : Int) := by rw [up2_j (by decide)]; exact a3
  by_cases hm : 1 ≤ m ∧ m ≤ 10
  · obtain ⟨nn, rfl⟩ : ∃ nn : Nat, m = (nn : Int) := ⟨m.toNat, by omega⟩
    by_cases hs : n + nn ≤ 10
    · refine ⟨fun r M1 => r = some (vi ((n + nn : Nat) : Int)) ∧ (∀ o, o < 200 → M1 o = Jk M n x nn o) ∧ ∀ o, 200 ≤ o → M1 o = M o, ?_, ?_⟩
      · refine kX8_washed_0 (fun q => by omega) (fun _ => kX8_washed_5 (fun _ => kX8_washed_14 (fun _ => kX8_washed_31 ?_) (fun q => by omega)) (fun q => by omega))
        have go : ∀ k, k ≤ nn → ∀ MC : Mem, (∀ o, o < 200 → MC o = Jk M n x k o) → (∀ o, 200 ≤ o → MC o = M o) → Runs X mX8_washed 37 [(0, vr 0), (1, vi (nn : Int)), (4, vl (xk x k)), (6, vi (k : Int))] [] MC (fun r M1 => r = some (vi ((n + nn : Nat) : Int)) ∧ (∀ o, o < 200 → M1 o = Jk M n x nn o) ∧ ∀ o, 200 ≤ o → M1 o = M o) := by
          refine up_loop (n := nn) ?_ ?_
          · intro MC k1 k2
            refine kX8_washed_37 (fun q => kX8_washed_66 ⟨?_, k1, k2⟩) (fun q => by omega)
            rw [k1 (oT 0) (by unfold oT; omega), (RR_J (x := x) hR nn hs).1.1.2.1]
          · intro k hk ih MC k1 k2
            have eT : MC (oT 0) 1 = ((n + k : Nat) : Int) := by rw [k1 (oT 0) (by unfold oT; omega)]; exact (RR_J (x := x) hR k (by omega)).1.1.2.1
            refine kX8_washed_37 (fun q => by omega) (fun q => ?_)
            refine kX8_washed_43 drawFrom_n (onL ?_)
            refine kX8_washed_48 (addDrawn_n (n := n + k) (by omega) eT) (on0 ?_)
            refine kX8_washed_60 ?_
            rw [cast1]
            refine ih _ (fun o ho => ?_) (fun o ho => ?_)
            · show _ = jad (Jk M n x k) (n + k) _ _ _ o
              rw [jad_lo ho]
              exact addM_ag (k1 o ho)
            · rw [addM_o (by unfold oT; omega) (by unfold oC; omega)]
              exact k2 o ho
        exact go 0 (Nat.zero_le _) M (fun o _ => rfl) (fun o _ => rfl)
      · rintro r M1 ⟨rfl, k1, k2⟩
        have e6 : (up2 M1 200 0 0) 200 6 = (n : Int) := by rw [up2_j (by decide), k2 200 (by decide)]; exact a3
        refine kX9_washed_0 in_n (on ?_)
        refine kX9_washed_14 (fun _ => ?_) (fun q => absurd hm (b2i_d0.mp q))
        refine kX9_washed_20 (fun _ => kX9_washed_34 ?_) (fun q => by omega)
        have go : ∀ k, k ≤ nn → ∀ MD : Mem, (∀ o, o < 200 → MD o = Jk M n x nn o) → (∀ o j, 200 ≤ o → ¬ unw o j → MD o j = Jk M n x k o j) → Runs X mX9_washed 40 [(0, vr 200), (1, vi (nn : Int)), (4, vl (xk x k)), (6, vi (k : Int))] [] MD (fun r M2 => r = some (vi ((n + nn : Nat) : Int)) ∧ RR M2) := by
          refine up_loop (n := nn) ?_ ?_
          · intro MD j1 j2
            have hRR : RRp MD (n + nn) b g L := by
              refine RR_quiet (RR_J (x := x) hR nn hs) (fun o j hu => ?_)
              by_cases ho : o < 200
              · rw [j1 o ho]
              · exact j2 o j (by omega) hu
            refine kX9_washed_40 (fun q => kX9_washed_69 ⟨?_, n + nn, b, g, L, hRR⟩) (fun q => by omega)
            rw [hRR.1.1.2.2]
          · intro k hk ih MD j1 j2
            have eT : MD 200 6 = ((n + k : Nat) : Int) := by rw [j2 200 6 (by decide) (by unfold unw; omega)]; exact (RR_J (x := x) hR k (by omega)).1.1.2.2
            refine kX9_washed_40 (fun q => by omega) (fun q => ?_)
            refine kX9_washed_46 draw_n (onL ?_)
            refine kX9_washed_51 (madd_n (n := n + k) (by omega) eT) (on0 ?_)
            refine kX9_washed_63 ?_
            rw [cast1]
            refine ih _ (fun o ho => ?_) (fun o j ho hu => ?_)
            · rw [maddM_o (Or.inl ho)]
              exact j1 o ho
            · show _ = jad (Jk M n x k) (n + k) _ _ _ o j
              rw [jad_hi ho]
              exact maddM_pt (j2 o j ho hu)
        refine go 0 (Nat.zero_le _) _ (fun o ho => ?_) (fun o j ho hu => ?_)
        · funext j
          rw [up2_o (by omega), k1 o ho]
        · rw [q0 o j hu, k2 o ho]
          rfl
    · refine Agree.ask0 (r0 := vi (-4)) h ?_ ?_
      · exact kX8_washed_0 (fun q => by omega) (fun _ => kX8_washed_5 (fun _ => kX8_washed_14 (fun q => by omega) (fun q => kX8_washed_28 ⟨rfl, rfl⟩)) (fun q => by omega))
      · refine kX9_washed_0 in_n (on ?_)
        refine kX9_washed_14 (fun _ => ?_) (fun q => absurd hm (b2i_d0.mp q))
        exact kX9_washed_20 (fun q => by omega) (fun q => kX9_washed_31 ⟨rfl, q0⟩)
  · refine Agree.ask0 (r0 := vi (-2)) h ?_ ?_
    · exact kX8_washed_0 (fun q => kX8_washed_11 ⟨rfl, rfl⟩) (fun _ => kX8_washed_5 (fun q => by omega) (fun _ => kX8_washed_11 ⟨rfl, rfl⟩))
    · refine kX9_washed_0 in_n (on ?_)
      exact kX9_washed_14 (fun q => absurd (b2i_d1.mp q) hm) (fun q => kX9_washed_17 ⟨rfl, q0⟩)
end AC
