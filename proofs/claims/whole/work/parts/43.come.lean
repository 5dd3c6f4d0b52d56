/-! ===== teeth that come ===== -/
theorem up2_ag {A B : Mem} {o j o' : Nat} {z : Int} (h : A o' = B o') : up2 A o j z o' = up2 B o j z o' := by
  funext i
  unfold up2
  rw [h]
theorem addM_ag {A B : Mem} {n o : Nat} {s l p : Int} (h : A o = B o) : addM A 0 n s l p o = addM B 0 n s l p o := by
  unfold addM
  exact up2_ag (up2_ag (up2_ag (up2_ag (up2_ag (up2_ag (up2_ag (up2_ag (up2_ag (up2_ag h)))))))))
theorem maddM_eq {M : Mem} {t : Nat} {s l p : Int} : maddM M t s l p = up2 (up2 (up2 (up2 (up2 (up2 (up2 (up2 (up2 M 307 t s) 308 t l) 309 t 0) 310 t p) 311 t 0) 312 t 0) 313 t 1) 314 (8 * t) p) 200 6 (t + 1) := by
  unfold maddM comeM
  rw [up2_o (o := 311) (by decide), up2_o (o := 310) (by decide), up2_eq, up2_o (o := 311) (by decide), up2_eq]
theorem maddM_ag {A B : Mem} {n o : Nat} {s l p : Int} (h : A o = B o) : maddM A n s l p o = maddM B n s l p o := by
  rw [maddM_eq, maddM_eq]
  exact up2_ag (up2_ag (up2_ag (up2_ag (up2_ag (up2_ag (up2_ag (up2_ag (up2_ag h))))))))
theorem maddM_o {M : Mem} {t o : Nat} {s l p : Int} (h : o < 200 ∨ 314 < o) : maddM M t s l p o = M o := by
  rw [maddM_eq]
  funext j
  rw [up2_o (by omega), up2_o (by omega), up2_o (by omega), up2_o (by omega), up2_o (by omega), up2_o (by omega), up2_o (by omega), up2_o (by omega), up2_o (by omega)]
/-- a tooth more, here and there -/
def jad (M : Mem) (n : Nat) (s l p : Int) : Mem := maddM (addM M 0 n s l p) n s l p
theorem jad_lo {M : Mem} {n o : Nat} {s l p : Int} (h : o < 200) : jad M n s l p o = addM M 0 n s l p o := maddM_o (Or.inl h)
theorem jad_hi {M : Mem} {n o : Nat} {s l p : Int} (h : 200 ≤ o) : jad M n s l p o = maddM M n s l p o := maddM_ag (addM_o (by unfold oT; omega) (by unfold oC; omega))
theorem RR_add {M : Mem} {n b g L : Nat} {s l p : Int} (hR : RRp M n b g L) (hn : n < 10) (hs : 1 ≤ s ∧ s ≤ 9) (hl : l = 0 ∨ l = 1) (hp : 0 ≤ p ∧ p ≤ 3) : RRp (jad M n s l p) (n + 1) b g L := by
  have hl2 : (if l = 0 then (0 : Int) else 1) = l := by split <;> omega
  have cC : ∀ j, jad M n s l p (oC 0) j = addM M 0 n s l p (oC 0) j := fun j => by rw [jad_lo (by unfold oC; omega)]
  have hC : ∀ t d, t ≠ n → d < 15 → jad M n s l p (oC 0) (15 * t + d) = M (oC 0) (15 * t + d) := by
    intro t d ht hd
    rw [cC]
    unfold addM
    rw [up2_j (by omega), up2_j (by omega), up2_j (by omega), up2_j (by omega), up2_j (by omega), up2_j (by omega), up2_j (by omega), up2_j (by omega), up2_j (by omega), up2_o oCT]
  have hm : ∀ o, 200 ≤ o → jad M n s l p o = up2 (up2 (up2 (up2 (up2 (up2 (up2 (up2 (up2 M 307 n s) 308 n l) 309 n 0) 310 n p) 311 n 0) 312 n 0) 313 n 1) 314 (8 * n) p) 200 6 (n + 1) o := fun o ho => by rw [jad_hi ho, maddM_eq]
  have c307 : ∀ t, jad M n s l p 307 t = if t = n then s else M 307 t := fun t => by
    rw [hm 307 (by decide), up2_o (by decide), up2_o (by decide), up2_o (by decide), up2_o (by decide), up2_o (by decide), up2_o (by decide), up2_o (by decide), up2_o (by decide)]
    split
    · rename_i z; rw [z, up2_eq]
    · rename_i z; rw [up2_j z]
  have c308 : ∀ t, jad M n s l p 308 t = if t = n then l else M 308 t := fun t => by
    rw [hm 308 (by decide), up2_o (by decide), up2_o (by decide), up2_o (by decide), up2_o (by decide), up2_o (by decide), up2_o (by decide), up2_o (by decide)]
    split
    · rename_i z; rw [z, up2_eq]
    · rename_i z; rw [up2_j z, up2_o (by decide)]
  have c309 : ∀ t, jad M n s l p 309 t = if t = n then 0 else M 309 t := fun t => by
    rw [hm 309 (by decide), up2_o (by decide), up2_o (by decide), up2_o (by decide), up2_o (by decide), up2_o (by decide), up2_o (by decide)]
    split
    · rename_i z; rw [z, up2_eq]
    · rename_i z; rw [up2_j z, up2_o (by decide), up2_o (by decide)]
  have c310 : ∀ t, jad M n s l p 310 t = if t = n then p else M 310 t := fun t => by
    rw [hm 310 (by decide), up2_o (by decide), up2_o (by decide), up2_o (by decide), up2_o (by decide), up2_o (by decide)]
    split
    · rename_i z; rw [z, up2_eq]
    · rename_i z; rw [up2_j z, up2_o (by decide), up2_o (by decide), up2_o (by decide)]
  have c311 : ∀ t, jad M n s l p 311 t = if t = n then 0 else M 311 t := fun t => by
    rw [hm 311 (by decide), up2_o (by decide), up2_o (by decide), up2_o (by decide), up2_o (by decide)]
    split
    · rename_i z; rw [z, up2_eq]
    · rename_i z; rw [up2_j z, up2_o (by decide), up2_o (by decide), up2_o (by decide), up2_o (by decide)]
  have c312 : ∀ t, jad M n s l p 312 t = if t = n then 0 else M 312 t := fun t => by
    rw [hm 312 (by decide), up2_o (by decide), up2_o (by decide), up2_o (by decide)]
    split
    · rename_i z; rw [z, up2_eq]
    · rename_i z; rw [up2_j z, up2_o (by decide), up2_o (by decide), up2_o (by decide), up2_o (by decide), up2_o (by decide)]
  have c313 : ∀ t, jad M n s l p 313 t = if t = n then 1 else M 313 t := fun t => by
    rw [hm 313 (by decide), up2_o (by decide), up2_o (by decide)]
    split
    · rename_i z; rw [z, up2_eq]
    · rename_i z; rw [up2_j z, up2_o (by decide), up2_o (by decide), up2_o (by decide), up2_o (by decide), up2_o (by decide), up2_o (by decide)]
  have c314 : ∀ j, jad M n s l p 314 j = if j = 8 * n then p else M 314 j := fun j => by
    rw [hm 314 (by decide), up2_o (by decide)]
    split
    · rename_i z; rw [z, up2_eq]
    · rename_i z; rw [up2_j z, up2_o (by decide), up2_o (by decide), up2_o (by decide), up2_o (by decide), up2_o (by decide), up2_o (by decide), up2_o (by decide)]
  refine RR_main hR (fun o j hu hmn => ?_) ⟨⟨hn, ?_, ?_⟩, ?_, ?_⟩ (Nat.le_succ n) (fun t ht => ⟨?_, ?_⟩)
  · by_cases ho : o < 200
    · rw [jad_lo ho, addM_o (by unfold mno at hmn; unfold oT; omega) (by unfold mno at hmn; unfold oC; omega)]
    · rw [hm o (by omega)]
      unfold mno at hmn
      by_cases h2 : o = 200
      · subst h2
        rw [up2_j (by omega), up2_o (by decide), up2_o (by decide), up2_o (by decide), up2_o (by decide), up2_o (by decide), up2_o (by decide), up2_o (by decide), up2_o (by decide)]
      · rw [up2_o h2, up2_o (by omega), up2_o (by omega), up2_o (by omega), up2_o (by omega), up2_o (by omega), up2_o (by omega), up2_o (by omega), up2_o (by omega)]
  · rw [jad_lo (by unfold oT; omega)]
    unfold addM
    rw [up2_o oTC, up2_o oTC, up2_o oTC, up2_o oTC, up2_o oTC, up2_o oTC, up2_o oTC, up2_o oTC, up2_o oTC, up2_eq]
    rfl
  · rw [hm 200 (by decide), up2_eq]; rfl
  · refine PR_one n hR.1.2.1 (fun t ht hq => by omega) hC (fun t hq => ⟨by rw [c307, if_neg hq], by rw [c308, if_neg hq], by rw [c309, if_neg hq], by rw [c310, if_neg hq], by rw [c311, if_neg hq], by rw [c313, if_neg hq]⟩) (fun t i hq hi => by rw [c314, if_neg (by omega)]) (fun _ => ?_)
    have x0 : jad M n s l p (oC 0) (15 * n) = s := by
      rw [cC]; unfold addM
      rw [up2_j (by omega), up2_j (by omega), up2_j (by omega), up2_j (by omega), up2_j (by omega), up2_j (by omega), up2_j (by omega), up2_j (by omega), up2_eq]
    have x1 : jad M n s l p (oC 0) (15 * n + 1) = l := by
      rw [cC]; unfold addM
      rw [up2_j (by omega), up2_j (by omega), up2_j (by omega), up2_j (by omega), up2_j (by omega), up2_j (by omega), up2_j (by omega), up2_eq, hl2]
    have x2 : jad M n s l p (oC 0) (15 * n + 2) = 0 := by
      rw [cC]; unfold addM
      rw [up2_j (by omega), up2_j (by omega), up2_j (by omega), up2_j (by omega), up2_j (by omega), up2_j (by omega), up2_eq]
    have x3 : jad M n s l p (oC 0) (15 * n + 3) = p := by
      rw [cC]; unfold addM
      rw [up2_j (by omega), up2_j (by omega), up2_eq]
    have x4 : jad M n s l p (oC 0) (15 * n + 4) = 0 := by
      rw [cC]; unfold addM
      rw [up2_j (by omega), up2_j (by omega), up2_j (by omega), up2_j (by omega), up2_j (by omega), up2_eq]
    have x6 : jad M n s l p (oC 0) (15 * n + 6) = 1 := by
      rw [cC]; unfold addM
      rw [up2_eq]
    have x7 : jad M n s l p (oC 0) (15 * n + 7 + 0) = p := by
      rw [cC]; unfold addM
      rw [up2_j (by omega), Nat.add_zero, up2_eq]
    unfold PRc
    rw [x0, x1, x2, x3, x4, x6, c307, if_pos rfl, c308, if_pos rfl, c309, if_pos rfl, c310, if_pos rfl, c311, if_pos rfl, c313, if_pos rfl]
    refine ⟨⟨rfl, rfl, rfl, rfl, rfl, rfl⟩, ⟨hs, by omega, by omega, hp, by omega, by omega, by omega⟩, fun i hi => ?_⟩
    have : i = 0 := by omega
    subst this
    rw [x7, Nat.add_zero, c314, if_pos rfl]
  · refine SR_one n hR.1.2.2 (fun t ht hq => by omega) (fun t hq => hC t 5 hq (by decide)) (fun t hq => by rw [c312, if_neg hq]) (fun _ => ?_)
    have x5 : jad M n s l p (oC 0) (15 * n + 5) = 0 := by
      rw [cC]; unfold addM
      rw [up2_j (by omega), up2_j (by omega), up2_j (by omega), up2_j (by omega), up2_eq]
    rw [x5, c312, if_pos rfl]
    omega
  · rw [c308, if_neg (by omega)]
  · rw [c311, if_neg (by omega)]
