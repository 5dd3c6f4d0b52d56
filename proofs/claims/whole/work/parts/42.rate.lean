/-! ===== the rates ===== -/
def rto (o : Nat) : Prop := o = 11 ∨ o = 12 ∨ o = 331 ∨ o = 332
theorem RR_rate {M M2 : Mem} {n b g L : Nat} (hR : RRp M n b g L) (hq : ∀ o j, ¬ unw o j → ¬ rto o → M2 o j = M o j) (hr : RtR (M2 (oG 0)) (M2 (oN 0)) (M2 331) (M2 332)) : RRp M2 n b g L := by
  obtain ⟨h1, h2, ⟨x1, x2, x3, x4, x5, x6, x7, x8, x9⟩⟩ := hR
  obtain ⟨r1, r2⟩ := RMB_eq (M2 := M2) (fun o j hm => hq o j (by unfold mbo at hm; unfold unw; omega) (by unfold mbo at hm; unfold rto; omega)) ⟨h1, h2⟩
  have e : ∀ o, (o = 0 ∨ o = 1 ∨ o = 2 ∨ o = 3 ∨ o = 4 ∨ o = 5 ∨ o = 316 ∨ o = 317 ∨ o = 301) → M2 o = M o := fun o ho => funext (fun j => hq o j (by unfold unw; omega) (by unfold rto; omega))
  have e2 : ∀ j, (j = 15 ∨ j = 4 ∨ j = 5 ∨ j = 2) → M2 200 j = M 200 j := fun j hj => hq 200 j (by unfold unw; omega) (by unfold rto; omega)
  refine ⟨r1, r2, ?_, ?_, ?_, ?_, ?_, ?_, hr, ?_, slots_eq (fun o ho => funext (fun j => hq o j (by unfold slo at ho; unfold unw; omega) (by unfold slo at ho; unfold rto; omega))) x9⟩
  · rw [e 3 (by omega), e2 15 (by omega)]; exact x1
  · rw [e 1 (by omega), e2 2 (by omega)]; exact x2
  · rw [e 0 (by omega), e2 4 (by omega)]; exact x3
  · rw [e 0 (by omega), e2 5 (by omega)]; exact x4
  · rw [e 4 (by omega), e 5 (by omega), e 316 (by omega), e 317 (by omega)]; exact x5
  · rw [e 301 (by omega), bytF_eq (e 2 (by omega))]; exact x6
  · rw [hq 35 0 (by unfold unw; omega) (by unfold rto; omega)]; exact x8
section AV
variable {X : Scr} {M : Mem}
theorem ag_rate {m o a c : Int} (h : RR M) : Agree X mX8_rate mX9_rate [vr 0, vi m, vi o, vi a, vi c] [vr 200, vi m, vi o, vi a, vi c] M := by
  obtain ⟨n, b, g, L, hR⟩ := id h
  have hrt := RR_rates hR
  by_cases h1 : (0 ≤ m ∧ m < 4) ∧ 0 ≤ o ∧ o < 4
  · obtain ⟨hm, ho⟩ := h1
    by_cases h2 : m ≠ o ∧ (1 ≤ a ∧ a ≤ 99) ∧ 1 ≤ c ∧ c ≤ 99
    · obtain ⟨hmo, ha, hc⟩ := h2
      obtain ⟨i, rfl⟩ : ∃ i : Nat, m = (i : Int) := ⟨m.toNat, by omega⟩
      obtain ⟨j, rfl⟩ : ∃ j : Nat, o = (j : Int) := ⟨o.toNat, by omega⟩
      have hr := hrt (4 * i + j) (by omega)
      refine ⟨fun r M1 => r = some (vi (100 * M 331 (4 * i + j) + M 332 (4 * i + j))) ∧ M1 = up2 (up2 M (oG 0) (4 * i + j) a) (oN 0) (4 * i + j) c, ?_, ?_⟩
      · refine kX8_rate_0 isMoney_n (on ?_)
        refine kX8_rate_4 (fun z => absurd hm (b2i_d0.mp z)) (fun _ => ?_)
        refine kX8_rate_7 isMoney_n (on ?_)
        refine kX8_rate_11 (fun _ => ?_) (fun z => absurd ho (b2i_d0.mp z))
        refine kX8_rate_16 (fun z => absurd z hmo) (fun _ => kX8_rate_21 (fun z => by omega) (fun _ => kX8_rate_26 (fun z => by omega) (fun _ => kX8_rate_32 (fun z => by omega) (fun _ => kX8_rate_38 (fun _ => ?_) (fun z => by omega)))))
        refine kX8_rate_48 (gotFor_n (by decide) (by omega) (by omega)) (on ?_)
        refine kX8_rate_59 (givenFor_n (by decide) (by omega) (by omega)) (on ?_)
        refine kX8_rate_69 (put_n (by decide) (by omega) (by omega)) (on0 ?_)
        refine kX8_rate_84 ⟨?_, rfl⟩
        rw [hr.1.1, hr.2.1]
      · rintro r M1 ⟨rfl, rfl⟩
        obtain ⟨M0, hM0⟩ : ∃ M0, M0 = up2 (up2 (up2 M (oG 0) (4 * i + j) a) (oN 0) (4 * i + j) c) 200 0 0 := ⟨_, rfl⟩
        have eo : ∀ q, 200 < q → M0 q = M q := by
          intro q hq
          funext t
          rw [hM0, up2_o (by omega), up2_o (by unfold oN; omega), up2_o (by unfold oG; omega)]
        have et : (4 * (i : Int) + (j : Int)).toNat = 4 * i + j := by omega
        have dGN : oG 0 ≠ oN 0 := by decide
        refine kX9_rate_0 noOne_n (on ?_)
        refine kX9_rate_9 (fun z => absurd hm (b2i_d1.mp z)) (fun _ => ?_)
        refine kX9_rate_12 noOne_n (on ?_)
        refine kX9_rate_16 (fun _ => ?_) (fun z => absurd ho (b2i_d1.mp z))
        refine kX9_rate_21 (fun z => absurd z hmo) (fun _ => ?_)
        refine kX9_rate_26 in_n (on ?_)
        refine kX9_rate_35 (fun z => absurd ha (b2i_d0.mp z)) (fun _ => ?_)
        refine kX9_rate_38 in_n (on ?_)
        refine kX9_rate_48 (fun _ => ?_) (fun z => absurd hc (b2i_d0.mp z))
        rw [← hM0]
        refine kX9_rate_54 (h5 := by rw [et, eo 331 (by decide)]; omega) (h6 := by rw [et, eo 331 (by decide), eo 332 (by decide)]; omega) ⟨?_, n, b, g, L, RR_rate hR (fun q t hu hq => ?_) (fun k hk => ?_)⟩
        · rw [et, eo 331 (by decide), eo 332 (by decide)]
        · unfold rto at hq
          rw [up2_o (by omega), up2_o (by omega), hM0, q0 q t hu, up2_o (by unfold oN; omega), up2_o (by unfold oG; omega)]
        · rw [et]
          have c1 : up2 (up2 M0 331 (4 * i + j) a) 332 (4 * i + j) c (oG 0) k = if k = 4 * i + j then a else M (oG 0) k := by
            rw [up2_o (by unfold oG; decide), up2_o (by unfold oG; decide), hM0, up2_o (by unfold oG; decide), up2_o dGN]
            split
            · rename_i z; rw [z, up2_eq]
            · rename_i z; rw [up2_j z]
          have c2 : up2 (up2 M0 331 (4 * i + j) a) 332 (4 * i + j) c (oN 0) k = if k = 4 * i + j then c else M (oN 0) k := by
            rw [up2_o (by unfold oN; decide), up2_o (by unfold oN; decide), hM0, up2_o (by unfold oN; decide)]
            split
            · rename_i z; rw [z, up2_eq]
            · rename_i z; rw [up2_j z, up2_o (Ne.symm dGN)]
          have c3 : up2 (up2 M0 331 (4 * i + j) a) 332 (4 * i + j) c 331 k = if k = 4 * i + j then a else M 331 k := by
            rw [up2_o (by decide)]
            split
            · rename_i z; rw [z, up2_eq]
            · rename_i z; rw [up2_j z, eo 331 (by decide)]
          have c4 : up2 (up2 M0 331 (4 * i + j) a) 332 (4 * i + j) c 332 k = if k = 4 * i + j then c else M 332 k := by
            split
            · rename_i z; rw [z, up2_eq]
            · rename_i z; rw [up2_j z, up2_o (by decide), eo 332 (by decide)]
          rw [c1, c2, c3, c4]
          have := hrt k hk
          by_cases z : k = 4 * i + j
          · rw [if_pos z, if_pos z, if_pos z, if_pos z]
            exact ⟨⟨rfl, ha⟩, rfl, hc⟩
          · rw [if_neg z, if_neg z, if_neg z, if_neg z]
            exact this
    · refine Agree.ask0 (r0 := vi (-2)) h ?_ ?_
      · have b45 : Runs X mX8_rate 45 [] [] M (fun r M1 => r = some (vi (-2)) ∧ M1 = M) := kX8_rate_45 ⟨rfl, rfl⟩
        refine kX8_rate_0 isMoney_n (on ?_)
        refine kX8_rate_4 (fun z => absurd hm (b2i_d0.mp z)) (fun _ => ?_)
        refine kX8_rate_7 isMoney_n (on ?_)
        refine kX8_rate_11 (fun _ => ?_) (fun z => absurd ho (b2i_d0.mp z))
        exact kX8_rate_16 (fun z => b45) (fun _ => kX8_rate_21 (fun z => b45) (fun _ => kX8_rate_26 (fun z => b45) (fun _ => kX8_rate_32 (fun z => b45) (fun _ => kX8_rate_38 (fun _ => by omega) (fun z => b45)))))
      · have b51 : Runs X mX9_rate 51 [] [] (up2 M 200 0 0) (asks M (vi (-2))) := kX9_rate_51 ⟨rfl, q0⟩
        refine kX9_rate_0 noOne_n (on ?_)
        refine kX9_rate_9 (fun z => absurd hm (b2i_d1.mp z)) (fun _ => ?_)
        refine kX9_rate_12 noOne_n (on ?_)
        refine kX9_rate_16 (fun _ => ?_) (fun z => absurd ho (b2i_d1.mp z))
        refine kX9_rate_21 (fun z => b51) (fun z1 => ?_)
        refine kX9_rate_26 in_n (on ?_)
        refine kX9_rate_35 (fun z => b51) (fun z2 => ?_)
        refine kX9_rate_38 in_n (on ?_)
        exact kX9_rate_48 (fun z3 => absurd ⟨z1, b2i_d1.mp z2, b2i_d1.mp z3⟩ h2) (fun z => b51)
  · refine Agree.ask0 (r0 := vi (-1)) h ?_ ?_
    · have b14 : Runs X mX8_rate 14 [] [] M (fun r M1 => r = some (vi (-1)) ∧ M1 = M) := kX8_rate_14 ⟨rfl, rfl⟩
      refine kX8_rate_0 isMoney_n (on ?_)
      refine kX8_rate_4 (fun z => b14) (fun z1 => ?_)
      refine kX8_rate_7 isMoney_n (on ?_)
      exact kX8_rate_11 (fun z2 => absurd ⟨b2i_d1.mp z1, b2i_d1.mp z2⟩ h1) (fun z => b14)
    · have b19 : Runs X mX9_rate 19 [] [] (up2 M 200 0 0) (asks M (vi (-1))) := kX9_rate_19 ⟨rfl, q0⟩
      refine kX9_rate_0 noOne_n (on ?_)
      refine kX9_rate_9 (fun z => b19) (fun z1 => ?_)
      refine kX9_rate_12 noOne_n (on ?_)
      refine kX9_rate_16 (fun z2 => absurd ⟨by have := b2i_d0.mp z1; omega, by have := b2i_d0.mp z2; omega⟩ h1) (fun z => b19)
end AV
