/-! ===== doubles: what a quotient of two numbers of exits is ===== -/
section SHARE1
def nrm (E T : Nat) : UInt64 := UInt64.ofNat (E * 2 ^ 52 + T)
theorem fb_t : FP.Core.b64.tails = 2 ^ 52 := rfl
theorem fb_x : FP.Core.b64.exps = 2048 := rfl
theorem fb_q : FP.Core.b64.qmin = -1074 := rfl
theorem fb_m : FP.Core.b64.qmax = 971 := rfl
theorem nrm_nat {E T : Nat} (h2 : E < 2047) (hT : T < 2 ^ 52) : (nrm E T).toNat = E * 2 ^ 52 + T :=
  UInt64.toNat_ofNat_of_lt' (show E * 2 ^ 52 + T < 18446744073709551616 by omega)
theorem fp_decode {E T : Nat} (h1 : 1 ≤ E) (h2 : E < 2047) (hT : T < 2 ^ 52) : FP.Core.decode FP.Core.b64 (nrm E T).toNat = .fin false (2 ^ 52 + T) ((E : Int) - 1075) := by
  rw [nrm_nat h2 hT]
  have fE : FP.Core.fieldE FP.Core.b64 (E * 2 ^ 52 + T) = E := by
    unfold FP.Core.fieldE
    rw [fb_t, fb_x]
    omega
  have fT : FP.Core.fieldT FP.Core.b64 (E * 2 ^ 52 + T) = T := by
    unfold FP.Core.fieldT
    rw [fb_t]
    omega
  have fS : FP.Core.fieldS FP.Core.b64 (E * 2 ^ 52 + T) = false := by
    unfold FP.Core.fieldS
    rw [fb_t, fb_x, show (E * 2 ^ 52 + T) / 2 ^ 52 / 2048 % 2 = 0 by omega]
    rfl
  unfold FP.Core.decode
  rw [fE, fT, fS, fb_t, fb_x, fb_q, if_neg (by omega), if_neg (by omega)]
  congr 1
  omega
theorem fp_encode {c : Nat} {q : Int} (h1 : 2 ^ 52 ≤ c) (h3 : -1074 ≤ q) : UInt64.ofNat (FP.Core.encode FP.Core.b64 (.fin false c q)) = nrm (q + 1075).toNat (c - 2 ^ 52) := by
  refine congrArg UInt64.ofNat ?_
  simp only [FP.Core.encode]
  rw [if_neg (by rw [fb_t]; omega)]
  unfold FP.Core.assemble
  rw [fb_t, fb_x, fb_q]
  simp only [Bool.toNat_false, Nat.zero_mul, Nat.zero_add]
  rw [show (q - -1074).toNat + 1 = (q + 1075).toNat by omega]
theorem fp_lg {A k : Nat} (h1 : 2 ^ k ≤ A) (h2 : A < 2 ^ (k + 1)) : A.log2 = k :=
  (Nat.log2_eq_iff (by have := Nat.two_pow_pos k; omega)).mpr ⟨h1, h2⟩
theorem fp_lead {A k : Nat} (h1 : 2 ^ k ≤ A) (h2 : A < 2 ^ (k + 1)) : FP.Core.leading A 1 = (k : Int) := by
  simp only [FP.Core.leading, fp_lg h1 h2, show Nat.log2 1 = 0 by decide, Int.ofNat_zero, Int.sub_zero]
  rw [if_pos]
  rw [Int.toNat_natCast, show (-(k : Int)).toNat = 0 by omega, Nat.one_mul, Nat.pow_zero, Nat.mul_one]
  exact h1
theorem fp_one (X : Nat) : FP.Core.nearest X 1 = X := by
  unfold FP.Core.nearest
  rw [Nat.mod_one, if_pos (by decide), Nat.div_one]
theorem fp_rn {A k : Nat} {e : Int} (h1 : 2 ^ k ≤ A) (h2 : A < 2 ^ (k + 1)) (hk : k ≤ 52) (h3 : -1074 ≤ k + e - 52) (h4 : k + e - 52 ≤ 971) : FP.Core.roundRatio FP.Core.b64 false A 1 e = .fin false (A * 2 ^ (52 - k)) (k + e - 52) ∧ 2 ^ 52 ≤ A * 2 ^ (52 - k) ∧ A * 2 ^ (52 - k) < 2 ^ 53 := by
  have hp := Nat.two_pow_pos (52 - k)
  have b1 : 2 ^ 52 ≤ A * 2 ^ (52 - k) := by
    have := Nat.mul_le_mul_right (2 ^ (52 - k)) h1
    rw [← Nat.pow_add, show k + (52 - k) = 52 by omega] at this
    exact this
  have b2 : A * 2 ^ (52 - k) < 2 ^ 53 := by
    have := Nat.mul_lt_mul_of_pos_right h2 hp
    rw [← Nat.pow_add, show k + 1 + (52 - k) = 53 by omega] at this
    exact this
  refine ⟨?_, b1, b2⟩
  have hA : ¬ A = 0 := by have := Nat.two_pow_pos k; omega
  have hq : FP.Core.quantum FP.Core.b64 A 1 e = k + e - 52 := by
    unfold FP.Core.quantum
    rw [fp_lead h1 h2, fb_q]
    show max (-1074 : Int) (↑k + e - (((53 : Nat) : Int) - 1)) = _
    omega
  unfold FP.Core.roundRatio FP.Core.roundAt
  rw [if_neg hA, hq]
  unfold FP.Core.unitsNum FP.Core.unitsDen
  rw [show (e - (↑k + e - 52)).toNat = 52 - k by omega, show (↑k + e - 52 - e).toNat = 0 by omega, Nat.pow_zero, Nat.mul_one, fp_one]
  unfold FP.Core.settle FP.Core.bound
  rw [if_pos (show A * 2 ^ (52 - k) < 2 ^ FP.Core.b64.p from b2), if_pos (show ↑k + e - 52 ≤ FP.Core.b64.qmax from h4)]
theorem fp_rm {c : Nat} {e : Int} (h1 : 2 ^ 52 ≤ c) (h2 : c < 2 ^ 53) (h3 : -1074 ≤ e + 52) (h4 : e + 52 ≤ 971) : FP.Core.roundRatio FP.Core.b64 false (c * 2 ^ 52) 1 e = .fin false c (e + 52) := by
  have hq : FP.Core.quantum FP.Core.b64 (c * 2 ^ 52) 1 e = e + 52 := by
    unfold FP.Core.quantum
    rw [fp_lead (k := 104) (by omega) (by omega), fb_q]
    show max (-1074 : Int) (((104 : Nat) : Int) + e - (((53 : Nat) : Int) - 1)) = _
    omega
  unfold FP.Core.roundRatio FP.Core.roundAt
  rw [if_neg (by omega), hq]
  unfold FP.Core.unitsNum FP.Core.unitsDen
  rw [show (e - (e + 52)).toNat = 0 by omega, show (e + 52 - e).toNat = 52 by omega, Nat.pow_zero, Nat.mul_one, Nat.one_mul]
  have hn : FP.Core.nearest (c * 2 ^ 52) (2 ^ 52) = c := by
    unfold FP.Core.nearest
    rw [Nat.mul_mod_left, if_pos (by decide), Nat.mul_div_cancel c (by decide)]
  rw [hn]
  unfold FP.Core.settle FP.Core.bound
  rw [if_pos (show c < 2 ^ FP.Core.b64.p from h2), if_pos (show e + 52 ≤ FP.Core.b64.qmax from h4)]
/-- a whole number as a double -/
theorem fp_i2d {p : Nat} (h1 : 1 ≤ p) (h2 : p < 2 ^ 31) : ∃ k X, k ≤ 30 ∧ 2 ^ k ≤ p ∧ p < 2 ^ (k + 1) ∧ X = p * 2 ^ (52 - k) ∧ 2 ^ 52 ≤ X ∧ X < 2 ^ 53 ∧ FP.Core.i2d (nI p) = nrm (k + 1023) (X - 2 ^ 52) := by
  obtain ⟨k1, k2⟩ := (Nat.log2_eq_iff (show p ≠ 0 by omega)).mp (rfl : p.log2 = p.log2)
  have hk : p.log2 ≤ 30 := by
    apply Classical.byContradiction
    intro hc
    have := Nat.pow_le_pow_right (show 0 < 2 by decide) (show 31 ≤ p.log2 by omega)
    omega
  obtain ⟨r1, r2, r3⟩ := fp_rn (e := 0) k1 k2 (by omega) (by omega) (by omega)
  refine ⟨p.log2, _, hk, k1, k2, rfl, r2, r3, ?_⟩
  unfold FP.Core.i2d FP.Core.fromInt FP.Core.ofInt
  rw [nI_toInt h2, show decide ((p : Int) < 0) = false from decide_eq_false (by omega), Int.natAbs_natCast]
  simp only [FP.Core.round]
  rw [r1, fp_encode r2 (by omega)]
  congr 1
  omega
/-- a quotient of whole numbers, at most 1 -/
theorem fp_div {p a : Nat} (h1 : 1 ≤ p) (h2 : p ≤ a) (h3 : a < 2 ^ 31) : ∃ E T, 992 ≤ E ∧ E ≤ 1023 ∧ T < 2 ^ 52 ∧ FP.Core.ddiv (FP.Core.i2d (nI p)) (FP.Core.i2d (nI a)) = nrm E T := by
  obtain ⟨kp, P, p1, p2, p3, p4, p5, p6, p7⟩ := fp_i2d h1 (show p < 2 ^ 31 by omega)
  obtain ⟨ka, D, a1, a2, a3, a4, a5, a6, a7⟩ := fp_i2d (show 1 ≤ a by omega) h3
  have hka : kp ≤ ka := by
    apply Classical.byContradiction
    intro hc
    have := Nat.pow_le_pow_right (show 0 < 2 by decide) (show ka + 1 ≤ kp by omega)
    omega
  rw [p7, a7]
  unfold FP.Core.ddiv FP.Core.div
  rw [fp_decode (by omega) (by omega) (by omega), fp_decode (by omega) (by omega) (by omega)]
  simp only [FP.Core.quotient]
  rw [if_neg (by omega), show 2 ^ 52 + (P - 2 ^ 52) = P by omega, show 2 ^ 52 + (D - 2 ^ 52) = D by omega, show (((kp + 1023 : Nat) : Int) - 1075 - (((ka + 1023 : Nat) : Int) - 1075)) = (kp : Int) - ka by omega, show (false != false) = false from rfl]
  have hl : FP.Core.leading P D = if D ≤ P then 0 else -1 := by
    simp only [FP.Core.leading, fp_lg (k := 52) p5 p6, fp_lg (k := 52) a5 a6, Int.sub_self, Int.neg_zero, Int.toNat_zero, Nat.pow_zero, Nat.mul_one]
    rfl
  have main : ∀ (w : Nat) (q : Int), FP.Core.quantum FP.Core.b64 P D ((kp : Int) - ka) = q → ((kp : Int) - ka - q).toNat = w → (q - ((kp : Int) - ka)).toNat = 0 → 2 ^ 52 * D ≤ P * 2 ^ w → P * 2 ^ w ≤ 2 ^ 53 * D → -83 ≤ q → (q = -52 → P * 2 ^ w = 2 ^ 52 * D) → q ≤ -52 → ∃ E T, 992 ≤ E ∧ E ≤ 1023 ∧ T < 2 ^ 52 ∧ UInt64.ofNat (FP.Core.encode FP.Core.b64 (FP.Core.roundRatio FP.Core.b64 false P D ((kp : Int) - ka))) = nrm E T := by
    intro w q hq hw hz g1 g2 g3 g4 g5
    have hD : 0 < D := by omega
    have n1 : 2 ^ 52 ≤ FP.Core.nearest (P * 2 ^ w) D := by
      have : 2 ^ 52 ≤ P * 2 ^ w / D := (Nat.le_div_iff_mul_le hD).mpr g1
      unfold FP.Core.nearest
      split
      · exact this
      · split
        · omega
        · omega
    have n2 : FP.Core.nearest (P * 2 ^ w) D ≤ 2 ^ 53 := by
      have hdm := Nat.div_add_mod (P * 2 ^ w) D
      have hlt := Nat.mod_lt (P * 2 ^ w) hD
      by_cases hc : P * 2 ^ w / D = 2 ^ 53
      · have hm : P * 2 ^ w % D = 0 := by
          rw [hc] at hdm
          have hcm : D * 2 ^ 53 = 2 ^ 53 * D := Nat.mul_comm _ _
          omega
        unfold FP.Core.nearest
        rw [hm, if_pos (by omega), hc]
        exact Nat.le_refl _
      · have hle : P * 2 ^ w / D ≤ 2 ^ 53 := Nat.div_le_of_le_mul (by rw [Nat.mul_comm D]; exact g2)
        unfold FP.Core.nearest
        split
        · omega
        · split
          · omega
          · omega
    have n3 : q = -52 → FP.Core.nearest (P * 2 ^ w) D < 2 ^ 53 := by
      intro hq2
      rw [g4 hq2]
      unfold FP.Core.nearest
      rw [Nat.mul_mod_left, if_pos (by omega), Nat.mul_div_cancel _ hD]
      decide
    unfold FP.Core.roundRatio FP.Core.roundAt
    rw [if_neg (by omega), hq]
    unfold FP.Core.unitsNum FP.Core.unitsDen
    rw [hw, hz, Nat.pow_zero, Nat.mul_one]
    generalize FP.Core.nearest (P * 2 ^ w) D = c at n1 n2 n3
    unfold FP.Core.settle FP.Core.bound
    by_cases hc : c < 2 ^ 53
    · rw [if_pos (show c < 2 ^ FP.Core.b64.p from hc), if_pos (show q ≤ FP.Core.b64.qmax by rw [fb_m]; omega), fp_encode n1 (by omega)]
      exact ⟨(q + 1075).toNat, c - 2 ^ 52, by omega, by omega, by omega, rfl⟩
    · rw [if_neg (show ¬ c < 2 ^ FP.Core.b64.p from hc), if_pos (show q + 1 ≤ FP.Core.b64.qmax by rw [fb_m]; omega), fb_t, fp_encode (Nat.le_refl _) (by omega)]
      have : q ≠ -52 := fun z => hc (n3 z)
      exact ⟨(q + 1 + 1075).toNat, 2 ^ 52 - 2 ^ 52, by omega, by omega, by omega, rfl⟩
  have hq : FP.Core.quantum FP.Core.b64 P D ((kp : Int) - ka) = (if D ≤ P then 0 else -1) + ((kp : Int) - ka) - 52 := by
    unfold FP.Core.quantum
    rw [hl, fb_q]
    show max (-1074 : Int) ((if D ≤ P then 0 else -1) + ((kp : Int) - ka) - (((53 : Nat) : Int) - 1)) = _
    split <;> omega
  by_cases hDP : D ≤ P
  · rw [if_pos hDP] at hq
    refine main 52 _ hq (by omega) (by omega) (by rw [Nat.mul_comm]; exact Nat.mul_le_mul_right _ hDP) (by omega) (by omega) (fun hz => ?_) (by omega)
    have hkk : kp = ka := by omega
    subst hkk
    have : P ≤ D := by rw [p4, a4]; exact Nat.mul_le_mul_right _ h2
    rw [show P = D by omega, Nat.mul_comm]
  · rw [if_neg hDP] at hq
    exact main 53 _ hq (by omega) (by omega) (by omega) (by rw [Nat.mul_comm]; exact Nat.mul_le_mul_left _ (by omega)) (by omega) (fun hz => by omega) (by omega)
end SHARE1
