/-! ===== a bargain ===== -/
theorem hoM_ag {A B : Mem} {s : Nat} {p : Int} (h : ∀ o, o < 200 → A o = B o) : ∀ k o, o < 200 → hoM A (oC 0) s p k o = hoM B (oC 0) s p k o
  | 0, o, ho => h o ho
  | k + 1, o, ho => by
    have ih := hoM_ag (s := s) (p := p) h k
    unfold hoM
    split
    · exact ho1_ag ih o ho
    · exact ih o ho
theorem goM_ag {A B : Mem} {s : Nat} {p : Int} (h : ∀ o, 200 ≤ o → A o = B o) : ∀ k o, 200 ≤ o → goM A s p k o = goM B s p k o
  | 0, o, ho => h o ho
  | k + 1, o, ho => by
    have ih := goM_ag (s := s) (p := p) h k
    unfold goM
    split
    · exact go1_ag ih o ho
    · exact ih o ho
/-- the page of a bargain is laid, here and there -/
theorem RR_page {M M2 : Mem} {n b g L : Nat} (hR : RRp M n b g L) (hb : b < 8) (hq : ∀ o j, ¬ unw o j → o ≠ oT (1 + b) → o ≠ oC (1 + b) → o ≠ 20 → o ≠ 329 → (o ≠ 200 ∨ j ≠ 30) → M2 o j = M o j) (hT : M2 (oT (1 + b)) 1 = (n : Int)) (hC : ∀ j, j < 150 → M2 (oC (1 + b)) j = M (oC 0) j) (hB : M2 (oB 0) 1 = ((b + 1 : Nat) : Int)) (h30 : M2 200 30 = ((b + 1 : Nat) : Int)) (l0 : M2 329 (121 * b) = (n : Int)) (l1 : ∀ t, t < 10 → M2 329 (121 * b + 1 + t) = M 307 t ∧ M2 329 (121 * b + 11 + t) = M 309 t ∧ M2 329 (121 * b + 21 + t) = M 310 t ∧ M2 329 (121 * b + 31 + t) = M 313 t) (l2 : ∀ k, k < 80 → M2 329 (121 * b + 41 + k) = M 314 k) (l3 : ∀ j, j < 121 * b → M2 329 j = M 329 j) : RRp M2 n (b + 1) g L := by
  obtain ⟨⟨⟨a1, a2, a3⟩, a4, a5⟩, ⟨⟨b1, b2, b3⟩, b4⟩, hx⟩ := hR
  have e : ∀ o, o ≠ oT (1 + b) → o ≠ oC (1 + b) → o ≠ 20 → o ≠ 329 → o ≠ 200 → (∀ j, ¬ unw o j) → M2 o = M o := fun o o1 o2 o3 o4 o5 hu => funext (fun j => hq o j (hu j) o1 o2 o3 o4 (Or.inl o5))
  have e3 : ∀ o, (306 < o ∧ o < 315) → M2 o = M o := fun o ho => e o (by unfold oT; omega) (by unfold oC; omega) (by omega) (by omega) (by omega) (fun j => by unfold unw; omega)
  refine ⟨⟨⟨a1, ?_, ?_⟩, ?_, ?_⟩, ⟨⟨by omega, hB, h30⟩, ?_⟩, RX_eq hx (fun o j hu hm => ?_)⟩
  · rw [e (oT 0) (by unfold oT; omega) (by unfold oT oC; omega) (by unfold oT; omega) (by unfold oT; omega) (by unfold oT; omega) (fun j => by unfold oT unw; omega)]; exact a2
  · rw [hq 200 6 (by unfold unw; omega) (by unfold oT; omega) (by unfold oC; omega) (by decide) (by decide) (Or.inr (by decide))]; exact a3
  · rw [e (oC 0) (by unfold oT oC; omega) (by unfold oC; omega) (by unfold oC; omega) (by unfold oC; omega) (by unfold oC; omega) (fun j => by unfold oC unw; omega), e3 307 (by omega), e3 308 (by omega), e3 309 (by omega), e3 310 (by omega), e3 311 (by omega), e3 313 (by omega), e3 314 (by omega)]
    exact a4
  · rw [e (oC 0) (by unfold oT oC; omega) (by unfold oC; omega) (by unfold oC; omega) (by unfold oC; omega) (by unfold oC; omega) (fun j => by unfold oC unw; omega), e3 312 (by omega)]
    exact a5
  · intro i hi
    rw [e3 308 (by omega), e3 311 (by omega)]
    by_cases hq2 : i = b
    · subst hq2
      refine ⟨n, Nat.le_refl n, ?_, ?_, ?_⟩
      · rw [show 9 * 0 + 1 + i = 1 + i by omega]; exact hT
      · rw [Nat.zero_add]; exact l0
      · rw [show 9 * 0 + 1 + i = 1 + i by omega, Nat.zero_add]
        refine PR_eq a4 (Nat.le_refl n) (fun j hj _ => hC j (by omega)) (fun t ht => ?_) (fun j hj => ?_)
        · obtain ⟨q1, q2, q3, q4⟩ := l1 t (by omega)
          unfold bk
          exact ⟨q1, rfl, q2, q3, rfl, q4⟩
        · unfold bk
          exact l2 j (by omega)
    · obtain ⟨m, m1, m2, m3, m4⟩ := b4 i (by omega)
      rw [Nat.zero_add (121 * i)] at m3 m4
      rw [show 9 * 0 + 1 + i = 1 + i by omega] at m2 m4 ⊢
      refine ⟨m, m1, ?_, ?_, ?_⟩
      · rw [e (oT (1 + i)) (by unfold oT; omega) (by unfold oT oC; omega) (by unfold oT; omega) (by unfold oT; omega) (by unfold oT; omega) (fun j => by unfold oT unw; omega)]; exact m2
      · rw [Nat.zero_add, l3 _ (by omega)]; exact m3
      · rw [Nat.zero_add (121 * i)]
        rw [e (oC (1 + i)) (by unfold oC oT; omega) (by unfold oC; omega) (by unfold oC; omega) (by unfold oC; omega) (by unfold oC; omega) (fun j => by unfold oC unw; omega)]
        have hm10 : m ≤ 10 := by omega
        refine PR_eq m4 (Nat.le_refl m) (fun j _ _ => rfl) (fun t ht => ?_) (fun j hj => ?_)
        · unfold bk
          refine ⟨l3 _ ?_, rfl, l3 _ ?_, l3 _ ?_, rfl, l3 _ ?_⟩ <;> omega
        · unfold bk
          refine l3 _ ?_
          omega
  · unfold mbo at hm
    exact hq o j hu (by unfold oT; omega) (by unfold oC; omega) (by omega) (by omega) (by omega)
