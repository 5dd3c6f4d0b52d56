/-! ===== a whole set handed over, here and there ===== -/
theorem ho1_ag {A B : Mem} {k : Nat} {p : Int} (h : ∀ o, o < 200 → A o = B o) : ∀ o, o < 200 → ho1 A (oC 0) k p o = ho1 B (oC 0) k p o := by
  intro o ho
  have e := h (oC 0) (by unfold oC; omega)
  have e2 : ∀ z, up2 A (oC 0) (15 * k + 2) z (oC 0) = up2 B (oC 0) (15 * k + 2) z (oC 0) := fun z => up2_ag e
  unfold ho1 pass
  rw [e, e2]
  split
  · exact up2_ag (up2_ag (up2_ag (up2_ag (h o ho))))
  · exact up2_ag (up2_ag (h o ho))
theorem go1_ag {A B : Mem} {k : Nat} {p : Int} (h : ∀ o, 200 ≤ o → A o = B o) : ∀ o, 200 ≤ o → go1 A k p o = go1 B k p o := by
  intro o ho
  unfold go1
  rw [h 313 (by decide), h 309 (by decide)]
  split
  · exact up2_ag (up2_ag (up2_ag (up2_ag (h o ho))))
  · exact up2_ag (up2_ag (h o ho))
def JO (M : Mem) (s : Nat) (to : Int) : Nat → Mem
  | 0 => M
  | k + 1 => if s.testBit k = true then go1 (ho1 (JO M s to k) (oC 0) k to) k to else JO M s to k
theorem RR_JO {M : Mem} {n b g L s : Nat} {to : Int} (hR : RRp M n b g L) (hto : 0 ≤ to ∧ to ≤ 3) : ∀ k, k ≤ n → RRp (JO M s to k) n b g L
  | 0, _ => hR
  | k + 1, h => by
    have ih := RR_JO (s := s) hR hto k (by omega)
    unfold JO
    split
    · exact RR_over1 ih (by omega) hto
    · exact ih
theorem JO_hi {M : Mem} {s : Nat} {to : Int} : ∀ k o, 200 ≤ o → JO M s to k o = goM M s to k o
  | 0, _, _ => rfl
  | k + 1, o, ho => by
    have ih := JO_hi (M := M) (s := s) (to := to) k
    unfold JO goM
    split
    · exact go1_ag (fun q hq => by rw [← ih q hq]; exact funext (fun j => by rw [ho1_o (by unfold oC; omega)])) o ho
    · exact ih o ho
theorem JO_lo {M : Mem} {s : Nat} {to : Int} : ∀ k o, o < 200 → JO M s to k o = hoM M (oC 0) s to k o
  | 0, _, _ => rfl
  | k + 1, o, ho => by
    have ih := JO_lo (M := M) (s := s) (to := to) k
    unfold JO hoM
    split
    · rw [go1_o (by omega) (by omega) (by omega) (by omega)]
      exact ho1_ag ih o ho
    · exact ih o ho
