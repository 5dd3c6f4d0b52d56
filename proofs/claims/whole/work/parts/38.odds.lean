/-! ===== chances, and what may be spent ===== -/
theorem pow_b {b : Int} (hb : 0 ≤ b ∧ b ≤ 10) : ∀ t : Nat, 0 ≤ b ^ t ∧ b ^ t ≤ ((10 ^ t : Nat) : Int)
  | 0 => by simp
  | t + 1 => by
    have ih := pow_b hb t
    have h := mulb (a := b ^ t) (b := b) (A := 10 ^ t) (B := 10) ih (by omega)
    rw [Int.pow_succ, Nat.pow_succ]
    refine ⟨h.1, Int.le_trans h.2 ?_⟩
    rw [Int.natCast_mul]
    exact Int.le_refl _
theorem p10_le {n m : Nat} (h : n ≤ m) : 10 ^ n ≤ 10 ^ m := Nat.pow_le_pow_right (by decide) h
def cbN (n : Nat) : Nat → Nat
  | 0 => 1
  | i + 1 => cbN n i * (n - i) / (i + 1)
theorem cbN_le : ∀ n, n < 11 → ∀ i, i < 12 → cbN n i ≤ 252 := by decide +kernel
theorem cbN_s {n i : Nat} (h : i ≤ n) : ((cbN n i : Nat) : Int) * ((n : Int) - (i : Int)) / ((i : Int) + 1) = ((cbN n (i + 1) : Nat) : Int) := by
  have e : (n : Int) - (i : Int) = ((n - i : Nat) : Int) := by omega
  rw [e, cast1, ← Int.natCast_mul, ← Int.natCast_ediv]
  rfl
section AO
variable {X : Scr} {M : Mem}
theorem ag_doubt {f g h n k u : Int} (hR : RR M) : Agree X mX8_doubt mX9_doubt [vr 0, vi f, vi g, vi h, vi n, vi k, vi u] [vr 200, vi f, vi g, vi h, vi n, vi k, vi u] M := by
  by_cases hok : (0 ≤ f ∧ f ≤ 10) ∧ (0 ≤ g ∧ g ≤ 10) ∧ (0 ≤ h ∧ h ≤ 10) ∧ (1 ≤ n ∧ n ≤ 6) ∧ 0 ≤ k ∧ k ≤ n
  · obtain ⟨h1, h2, h3, h4, h5⟩ := hok
    obtain ⟨K, rfl⟩ : ∃ K : Nat, k = (K : Int) := ⟨k.toNat, by omega⟩
    obtain ⟨J, hJ⟩ : ∃ J : Nat, n - (K : Int) = (J : Int) := ⟨(n - (K : Int)).toNat, by omega⟩
    have hK : K ≤ 6 := by omega
    have hJ6 : J ≤ 6 := by omega
    have pb : ∀ (b : Int) (t : Nat), (0 ≤ b ∧ b ≤ 10) → t ≤ 6 → 0 ≤ b ^ t ∧ b ^ t ≤ ((1000000 : Nat) : Int) := by
      intro b t hb ht
      have q1 := pow_b hb t
      have q2 := p10_le ht
      have q3 : (10 : Nat) ^ 6 = 1000000 := rfl
      omega
    have g1 := pb g K h2 hK
    have g2 := pb (10 - g) J (by omega) hJ6
    have g3 := pb h K h3 hK
    have g4 := pb (10 - h) J (by omega) hJ6
    have m1 := mulb (a := f) (b := g ^ K) (A := 10) (by omega) g1
    have m2 := mulb (a := f * g ^ K) (b := (10 - g) ^ J) (A := 10 * 1000000) (by omega) g2
    have m3 := mulb (a := 10 - f) (b := h ^ K) (A := 10) (by omega) g3
    have m4 := mulb (a := (10 - f) * h ^ K) (b := (10 - h) ^ J) (A := 10 * 1000000) (by omega) g4
    obtain ⟨A, hA⟩ : ∃ A : Nat, f * g ^ K * (10 - g) ^ J = (A : Int) := ⟨(f * g ^ K * (10 - g) ^ J).toNat, by omega⟩
    obtain ⟨B, hB⟩ : ∃ B : Nat, (10 - f) * h ^ K * (10 - h) ^ J = (B : Int) := ⟨((10 - f) * h ^ K * (10 - h) ^ J).toNat, by omega⟩
    rw [hA] at m2
    rw [hB] at m4
    have eAB : (A : Int) + (B : Int) = ((A + B : Nat) : Int) := by omega
    refine Agree.ask0 (r0 := vl (if A + B = 0 then -3 else fracV A (A + B) u)) hR ?_ ?_
    · refine Runs.picks [1, 2, 3, 4, 5, 6] rfl (kX8_doubt_0 isTenths_n (on ?_))
      refine kX8_doubt_4 (fun q => absurd h1 (b2i_d0.mp q)) (fun _ => ?_)
      refine kX8_doubt_7 isTenths_n (on ?_)
      refine kX8_doubt_11 (fun q => absurd h2 (b2i_d0.mp q)) (fun _ => ?_)
      refine kX8_doubt_14 isTenths_n (on ?_)
      refine kX8_doubt_18 (fun _ => ?_) (fun q => absurd h3 (b2i_d0.mp q))
      refine kX8_doubt_25 (fun q => by omega) (fun _ => kX8_doubt_31 (fun q => by omega) (fun _ => kX8_doubt_38 (fun q => by omega) (fun _ => kX8_doubt_43 (fun _ => ?_) (fun q => by omega))))
      refine kX8_doubt_54 (power_n h2 (by omega)) (onL ?_)
      refine kX8_doubt_63 (by rw [hJ]; exact power_n (by omega) (by omega)) (onL ?_)
      refine kX8_doubt_77 (h1 := by rw [hA]; omega) (power_n h3 (by omega)) (onL ?_)
      rw [hA]
      refine kX8_doubt_92 (by rw [hJ]; exact power_n (by omega) (by omega)) (onL ?_)
      refine kX8_doubt_106 (h1 := by rw [hB]; omega) (h2 := by rw [hB]; omega) (fun q => ?_) (fun q => kX8_doubt_119 ⟨?_, rfl⟩)
      · rw [hB] at q ⊢
        refine kX8_doubt_123 (by rw [eAB]; exact ofFraction_n (by omega) (by omega)) (onL ?_)
        refine kX8_doubt_135 ⟨?_, rfl⟩
        rw [if_neg (by omega)]
      · rw [hB] at q
        rw [if_pos (by omega)]
    · refine kX9_doubt_0 noTenths_n (on ?_)
      refine kX9_doubt_9 (fun q => absurd h1 (b2i_d1.mp q)) (fun _ => ?_)
      refine kX9_doubt_12 noTenths_n (on ?_)
      refine kX9_doubt_16 (fun q => absurd h2 (b2i_d1.mp q)) (fun _ => ?_)
      refine kX9_doubt_19 noTenths_n (on ?_)
      refine kX9_doubt_23 (fun q => absurd h3 (b2i_d1.mp q)) (fun _ => ?_)
      refine kX9_doubt_26 in_n (on ?_)
      refine kX9_doubt_36 (fun q => absurd h4 (b2i_d0.mp q)) (fun _ => ?_)
      refine kX9_doubt_39 in_n (on ?_)
      refine kX9_doubt_49 (fun _ => ?_) (fun q => absurd h5 (b2i_d0.mp q))
      refine kX9_doubt_56 (mpower_n h2 (by omega)) (onL ?_)
      refine kX9_doubt_65 (by rw [hJ]; exact mpower_n (by omega) (by omega)) (onL ?_)
      refine kX9_doubt_79 (h1 := by rw [hA]; omega) (mpower_n h3 (by omega)) (onL ?_)
      rw [hA]
      refine kX9_doubt_94 (by rw [hJ]; exact mpower_n (by omega) (by omega)) (onL ?_)
      refine kX9_doubt_108 (h1 := by rw [hB]; omega) (h2 := by rw [hB]; omega) (fun q => ?_) (fun q => kX9_doubt_121 (kX9_doubt_139 ⟨?_, q0⟩))
      · rw [hB] at q ⊢
        refine kX9_doubt_127 (by rw [eAB]; exact told_n (by omega)) (onL ?_)
        refine kX9_doubt_139 ⟨?_, q0⟩
        rw [if_neg (by omega)]
      · rw [hB] at q
        rw [if_pos (by omega)]
  · refine Agree.ask0 (r0 := vl (-2)) hR ?_ ?_
    · have b21 : Runs X mX8_doubt 21 [] [] M (fun r M1 => r = some (vl (-2)) ∧ M1 = M) := kX8_doubt_21 ⟨rfl, rfl⟩
      have b50 : Runs X mX8_doubt 50 [] [] M (fun r M1 => r = some (vl (-2)) ∧ M1 = M) := kX8_doubt_50 ⟨rfl, rfl⟩
      refine Runs.picks [1, 2, 3, 4, 5, 6] rfl (kX8_doubt_0 isTenths_n (on ?_))
      refine kX8_doubt_4 (fun q => b21) (fun q1 => ?_)
      refine kX8_doubt_7 isTenths_n (on ?_)
      refine kX8_doubt_11 (fun q => b21) (fun q2 => ?_)
      refine kX8_doubt_14 isTenths_n (on ?_)
      refine kX8_doubt_18 (fun q3 => ?_) (fun q => b21)
      refine kX8_doubt_25 (fun q => b50) (fun q4 => kX8_doubt_31 (fun q => b50) (fun q5 => kX8_doubt_38 (fun q => b50) (fun q6 => kX8_doubt_43 (fun q7 => ?_) (fun q => b50))))
      exact absurd ⟨b2i_d1.mp q1, b2i_d1.mp q2, b2i_d1.mp q3, ⟨q4, q5⟩, q6, q7⟩ hok
    · have b52 : ∀ M1 : Mem, quiet M M1 → Runs X mX9_doubt 52 [] [] M1 (asks M (vl (-2))) := fun M1 hq => kX9_doubt_52 ⟨rfl, hq⟩
      refine kX9_doubt_0 noTenths_n (on ?_)
      refine kX9_doubt_9 (fun q => b52 _ q0) (fun q1 => ?_)
      refine kX9_doubt_12 noTenths_n (on ?_)
      refine kX9_doubt_16 (fun q => b52 _ q0) (fun q2 => ?_)
      refine kX9_doubt_19 noTenths_n (on ?_)
      refine kX9_doubt_23 (fun q => b52 _ q0) (fun q3 => ?_)
      refine kX9_doubt_26 in_n (on ?_)
      refine kX9_doubt_36 (fun q => b52 _ q0) (fun q4 => ?_)
      refine kX9_doubt_39 in_n (on ?_)
      refine kX9_doubt_49 (fun q5 => ?_) (fun q => b52 _ q0)
      have r1 := b2i_d0.mp q1
      have r2 := b2i_d0.mp q2
      have r3 := b2i_d0.mp q3
      have r4 := b2i_d1.mp q4
      have r5 := b2i_d1.mp q5
      exact absurd ⟨by omega, by omega, by omega, r4, r5⟩ hok
theorem ag_among {n f k u : Int} (hR : RR M) : Agree X mX8_among mX9_among [vr 0, vi n, vi f, vi k, vi u] [vr 200, vi n, vi f, vi k, vi u] M := by
  by_cases hok : (1 ≤ n ∧ n ≤ 10) ∧ (0 ≤ f ∧ f ≤ 10) ∧ 0 ≤ k ∧ k ≤ n
  · obtain ⟨h1, h2, h3⟩ := hok
    obtain ⟨N, rfl⟩ : ∃ N : Nat, n = (N : Int) := ⟨n.toNat, by omega⟩
    have hN : N ≤ 10 := by omega
    have hp10 : 10 ^ N ≤ 10 ^ 10 := p10_le hN
    have e10 : (10 : Nat) ^ 10 = 10000000000 := rfl
    have hp0 : 0 < 10 ^ N := Nat.pow_pos (by decide)
    have ten : (10 : Int) ^ N = ((10 ^ N : Nat) : Int) := by rw [Int.natCast_pow]; rfl
    have both : ∀ (d i : Nat) (S : Nat), i + d = N + 1 → S ≤ i * 2520000000000 → ∃ V : Int,
        Runs X mX8_among 40 [(1, vi (N : Int)), (2, vi f), (3, vi k), (4, vi u), (5, vl (cbN N i : Nat)), (7, vl (S : Int)), (9, vi (i : Int))] [] M (fun r M1 => r = some (vl V) ∧ M1 = M) ∧
        Runs X mX9_among 48 [(1, vi (N : Int)), (2, vi f), (3, vi k), (4, vi u), (5, vl (S : Int)), (7, vl (cbN N i : Nat)), (9, vi (i : Int))] [] (up2 M 200 0 0) (asks M (vl V)) := by
      intro d
      induction d with
      | zero =>
        intro i S hd hS
        refine ⟨fracV S (10 ^ N) u, ?_, ?_⟩
        · refine kX8_among_40 (fun q => ?_) (fun q => by omega)
          refine kX8_among_102 (power_n (by decide) hN) (onL ?_)
          rw [ten]
          refine kX8_among_111 (ofFraction_n (by omega) hp0) (onL ?_)
          exact kX8_among_116 ⟨rfl, rfl⟩
        · refine kX9_among_48 (fun q => ?_) (fun q => by omega)
          refine kX9_among_114 (mpower_n (by decide) hN) (onL ?_)
          rw [ten]
          refine kX9_among_123 (told_n hp0) (onL ?_)
          exact kX9_among_128 ⟨rfl, q0⟩
      | succ d ih =>
        intro i S hd hS
        have hi : i ≤ N := by omega
        have hc := cbN_le N (by omega) i (by omega)
        have hcs := cbN_s hi
        obtain ⟨J, hJ⟩ : ∃ J : Nat, (N : Int) - (i : Int) = (J : Int) := ⟨N - i, by omega⟩
        have hJN : i + J = N := by omega
        have b1 := pow_b h2 i
        have b2 := pow_b (b := 10 - f) (by omega) J
        have hAB : 10 ^ i * 10 ^ J = 10 ^ N := by rw [← Nat.pow_add, hJN]
        have m1 := mulb (a := ((cbN N i : Nat) : Int)) (b := f ^ i) (A := 252) (by omega) b1
        have m2 := mulb (a := ((cbN N i : Nat) : Int) * f ^ i) (b := (10 - f) ^ J) (A := 252 * 10 ^ i) (by rw [Int.natCast_mul]; exact m1) b2
        have hb3 : (((252 * 10 ^ i : Nat) : Int)) * ((10 ^ J : Nat) : Int) = ((252 * 10 ^ N : Nat) : Int) := by
          rw [← Int.natCast_mul, Nat.mul_assoc, hAB]
        have hi10 : 10 ^ i ≤ 10 ^ 10 := p10_le (by omega)
        have mc := mulb (a := ((cbN N i : Nat) : Int)) (b := (N : Int) - (i : Int)) (A := 252) (B := 10) (by omega) (by omega)
        rw [hb3] at m2
        have m1' : 0 ≤ ((cbN N i : Nat) : Int) * f ^ i ∧ ((cbN N i : Nat) : Int) * f ^ i ≤ 2520000000000 := by
          refine ⟨m1.1, Int.le_trans m1.2 ?_⟩
          have : 252 * 10 ^ i ≤ 2520000000000 := by omega
          rw [← Int.natCast_mul]
          omega
        have m2' : 0 ≤ ((cbN N i : Nat) : Int) * f ^ i * (10 - f) ^ J ∧ ((cbN N i : Nat) : Int) * f ^ i * (10 - f) ^ J ≤ 2520000000000 := by omega
        obtain ⟨T, hT⟩ : ∃ T : Nat, ((cbN N i : Nat) : Int) * f ^ i * (10 - f) ^ J = (T : Int) := ⟨(((cbN N i : Nat) : Int) * f ^ i * (10 - f) ^ J).toNat, by omega⟩
        rw [hT] at m2'
        by_cases hki : k ≤ (i : Int)
        · obtain ⟨V, v1, v2⟩ := ih (i + 1) (S + T) (by omega) (by omega)
          have eST : (S : Int) + (T : Int) = ((S + T : Nat) : Int) := by omega
          refine ⟨V, ?_, ?_⟩
          · refine kX8_among_40 (fun q => by omega) (fun q => kX8_among_46 (fun q => by omega) (fun q => ?_))
            refine kX8_among_52 (power_n h2 (by omega)) (onL ?_)
            refine kX8_among_63 (by rw [hJ]; exact power_n (by omega) (by omega)) (onL ?_)
            refine kX8_among_76 (h1 := by rw [hT]; omega) (h2 := by rw [hT]; omega) ?_
            rw [hT, eST]
            refine kX8_among_80 ?_
            rw [hcs, cast1]
            exact v1
          · refine kX9_among_48 (fun q => by omega) (fun q => kX9_among_54 (fun q => ?_) (fun q => by omega))
            refine kX9_among_66 (mpower_n h2 (by omega)) (onL ?_)
            refine kX9_among_75 (by rw [hJ]; exact mpower_n (by omega) (by omega)) (onL ?_)
            refine kX9_among_88 (h1 := by rw [hT]; omega) ?_
            rw [hT]
            refine kX9_among_89 ?_
            rw [eST, hcs, cast1]
            exact v2
        · obtain ⟨V, v1, v2⟩ := ih (i + 1) S (by omega) (Nat.le_trans hS (Nat.mul_le_mul_right _ (Nat.le_succ i)))
          refine ⟨V, ?_, ?_⟩
          · refine kX8_among_40 (fun q => by omega) (fun q => kX8_among_46 (fun q => ?_) (fun q => by omega))
            refine kX8_among_80 ?_
            rw [hcs, cast1]
            exact v1
          · refine kX9_among_48 (fun q => by omega) (fun q => kX9_among_54 (fun q => by omega) (fun q => ?_))
            refine kX9_among_62 (kX9_among_89 ?_)
            rw [hcs, cast1, Int.add_zero]
            exact v2
    obtain ⟨V, v1, v2⟩ := both (N + 1) 0 0 (by omega) (by omega)
    refine Agree.ask0 (r0 := vl V) hR ?_ ?_
    · refine Runs.picks [1, 2, 3, 4] rfl (kX8_among_0 (fun q => by omega) (fun _ => kX8_among_5 (fun q => by omega) (fun _ => ?_)))
      refine kX8_among_11 isTenths_n (on ?_)
      refine kX8_among_15 (fun q => absurd h2 (b2i_d0.mp q)) (fun _ => ?_)
      refine kX8_among_18 (fun q => by omega) (fun _ => kX8_among_22 (fun _ => ?_) (fun q => by omega))
      exact kX8_among_31 v1
    · refine kX9_among_0 in_n (on ?_)
      refine kX9_among_14 (fun q => absurd h1 (b2i_d0.mp q)) (fun _ => ?_)
      refine kX9_among_17 noTenths_n (on ?_)
      refine kX9_among_21 (fun q => absurd h2 (b2i_d1.mp q)) (fun _ => ?_)
      refine kX9_among_24 in_n (on ?_)
      refine kX9_among_32 (fun _ => ?_) (fun q => absurd h3 (b2i_d0.mp q))
      exact kX9_among_39 v2
  · refine Agree.ask0 (r0 := vl (-2)) hR ?_ ?_
    · have b27 : Runs X mX8_among 27 [] [] M (fun r M1 => r = some (vl (-2)) ∧ M1 = M) := kX8_among_27 ⟨rfl, rfl⟩
      refine Runs.picks [1, 2, 3, 4] rfl (kX8_among_0 (fun q => b27) (fun q1 => kX8_among_5 (fun q => b27) (fun q2 => ?_)))
      refine kX8_among_11 isTenths_n (on ?_)
      refine kX8_among_15 (fun q => b27) (fun q3 => ?_)
      refine kX8_among_18 (fun q => b27) (fun q4 => kX8_among_22 (fun q5 => ?_) (fun q => b27))
      exact absurd ⟨⟨q1, q2⟩, b2i_d1.mp q3, q4, q5⟩ hok
    · have b35 : Runs X mX9_among 35 [] [] (up2 M 200 0 0) (asks M (vl (-2))) := kX9_among_35 ⟨rfl, q0⟩
      refine kX9_among_0 in_n (on ?_)
      refine kX9_among_14 (fun q => b35) (fun q1 => ?_)
      refine kX9_among_17 noTenths_n (on ?_)
      refine kX9_among_21 (fun q => b35) (fun q2 => ?_)
      refine kX9_among_24 in_n (on ?_)
      refine kX9_among_32 (fun q3 => ?_) (fun q => b35)
      have r2 := b2i_d0.mp q2
      exact absurd ⟨b2i_d1.mp q1, by omega, b2i_d1.mp q3⟩ hok
end AO
