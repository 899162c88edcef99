/-! ===== doubles: doubled, compared, less 1 ===== -/
section SHARE2
theorem nrm_cg {a b c d : Nat} (h1 : a = c) (h2 : b = d) : nrm a b = nrm c d := by rw [h1, h2]
theorem nrm_n64 {E T : Nat} (h2 : E < 2047) (hT : T < 2 ^ 52) : vf_n64 (nrm E T) := by
  unfold vf_n64
  rw [UInt64.le_iff_toNat_le, UInt64.toNat_and, nrm_nat h2 hT, show (0x7fffffffffffffff : UInt64).toNat = 2 ^ 63 - 1 from rfl, Nat.and_two_pow_sub_one_eq_mod, show (0x7ff0000000000000 : UInt64).toNat = 2047 * 2 ^ 52 from rfl]
  omega
theorem nrm_2 : (4611686018427387904 : UInt64) = nrm 1024 0 := by decide +kernel
theorem nrm_1 : FP.dconst1 = nrm 1023 0 := by decide +kernel
theorem nrm_52 : (4841369599423283200 : UInt64) = nrm 1075 0 := by decide +kernel
theorem fp_dbl {E T : Nat} (h1 : 900 ≤ E) (h2 : E ≤ 1100) (hT : T < 2 ^ 52) : FP.dmul (nrm E T) 4611686018427387904 = nrm (E + 1) T := by
  show FP.Core.dmul (nrm E T) 4611686018427387904 = nrm (E + 1) T
  rw [nrm_2]
  unfold FP.Core.dmul FP.Core.mul
  rw [fp_decode (by omega) (by omega) hT, fp_decode (by decide) (by decide) (by decide)]
  simp only [FP.Core.exactProduct, FP.Core.round]
  rw [show (false != false) = false from rfl, show (2 ^ 52 + T) * (2 ^ 52 + 0) = (2 ^ 52 + T) * 2 ^ 52 from rfl, fp_rm (by omega) (by omega) (by omega) (by omega), fp_encode (by omega) (by omega)]
  exact nrm_cg (by omega) (by omega)
theorem fp_ord {E T : Nat} (h1 : 900 ≤ E) (h2 : E ≤ 1023) (hT : T < 2 ^ 52) : (E < 1023 → FP.dcmp (nrm E T) FP.dconst1 = some .lt) ∧ (E = 1023 → FP.dcmp (nrm E T) FP.dconst1 = some .eq ∨ FP.dcmp (nrm E T) FP.dconst1 = some .gt) := by
  have hd : FP.dcmp (nrm E T) FP.dconst1 = some (compare (((2 ^ 52 + T) * 2 ^ ((E : Int) - 1075 - min ((E : Int) - 1075) (((1023 : Nat) : Int) - 1075)).toNat : Nat) : Int) (((2 ^ 52 + 0) * 2 ^ ((((1023 : Nat) : Int) - 1075) - min ((E : Int) - 1075) (((1023 : Nat) : Int) - 1075)).toNat : Nat) : Int)) := by
    show FP.Core.dcmp (nrm E T) FP.dconst1 = _
    rw [nrm_1]
    unfold FP.Core.dcmp FP.Core.cmp
    rw [fp_decode (by omega) (by omega) hT, fp_decode (by decide) (by decide) (by decide)]
    rfl
  have hc : ∀ a b : Int, compare a b = if a < b then Ordering.lt else if a = b then Ordering.eq else Ordering.gt := fun _ _ => rfl
  rw [hd, hc]
  refine ⟨fun hE => ?_, fun hE => ?_⟩
  · have e1 : ((E : Int) - 1075 - min ((E : Int) - 1075) (((1023 : Nat) : Int) - 1075)).toNat = 0 := by omega
    have e2 : ((((1023 : Nat) : Int) - 1075) - min ((E : Int) - 1075) (((1023 : Nat) : Int) - 1075)).toNat = 1023 - E := by omega
    have e3 := Nat.pow_le_pow_right (show 0 < 2 by decide) (show 1 ≤ 1023 - E by omega)
    rw [e1, e2, if_pos]
    have : (2 ^ 52 + T) * 2 ^ 0 < (2 ^ 52 + 0) * 2 ^ (1023 - E) := by
      have := Nat.mul_le_mul_left (2 ^ 52 + 0) e3
      omega
    omega
  · subst hE
    have e1 : (((1023 : Nat) : Int) - 1075 - min (((1023 : Nat) : Int) - 1075) (((1023 : Nat) : Int) - 1075)).toNat = 0 := by omega
    rw [e1, if_neg (by omega)]
    split
    · exact Or.inl rfl
    · exact Or.inr rfl
theorem fp_sub1 {T : Nat} (hT : T < 2 ^ 52) : FP.dsub (nrm 1023 T) FP.dconst1 = if T = 0 then 0 else nrm (T.log2 + 971) (T * 2 ^ (52 - T.log2) - 2 ^ 52) := by
  show FP.Core.dsub (nrm 1023 T) FP.dconst1 = _
  rw [nrm_1]
  unfold FP.Core.dsub FP.Core.sub
  rw [fp_decode (by decide) (by decide) hT, fp_decode (by decide) (by decide) (by decide)]
  have hs : FP.Core.exactSum (.fin false (2 ^ 52 + T) (((1023 : Nat) : Int) - 1075)) (FP.Core.negate (.fin false (2 ^ 52 + 0) (((1023 : Nat) : Int) - 1075))) = .fin false T (-52) := by
    simp only [FP.Core.exactSum, FP.Core.negate]
    have hv : FP.Core.sumUnits false (2 ^ 52 + T) (((1023 : Nat) : Int) - 1075) (!false) (2 ^ 52 + 0) (((1023 : Nat) : Int) - 1075) (min (((1023 : Nat) : Int) - 1075) (((1023 : Nat) : Int) - 1075)) = (T : Int) := by
      unfold FP.Core.sumUnits FP.Core.inUnits FP.Core.signed
      rw [show ((((1023 : Nat) : Int) - 1075) - min (((1023 : Nat) : Int) - 1075) (((1023 : Nat) : Int) - 1075)).toNat = 0 by omega, if_neg (by decide), if_pos (by decide), Nat.pow_zero]
      omega
    rw [hv, Int.natAbs_natCast]
    unfold FP.Core.sumSign
    rw [show min (((1023 : Nat) : Int) - 1075) (((1023 : Nat) : Int) - 1075) = -52 by decide]
    split
    · rfl
    · rw [decide_eq_false (by omega)]
  rw [hs]
  simp only [FP.Core.round]
  by_cases h0 : T = 0
  · subst h0
    rw [if_pos rfl]
    unfold FP.Core.roundRatio
    rw [if_pos rfl]
    decide +kernel
  · obtain ⟨k1, k2⟩ := (Nat.log2_eq_iff h0).mp (rfl : T.log2 = T.log2)
    have hk : T.log2 ≤ 51 := by
      apply Classical.byContradiction
      intro hc
      have := Nat.pow_le_pow_right (show 0 < 2 by decide) (show 52 ≤ T.log2 by omega)
      omega
    obtain ⟨r1, r2, r3⟩ := fp_rn (e := -52) k1 k2 (by omega) (by omega) (by omega)
    rw [if_neg h0, r1, fp_encode r2 (by omega)]
    congr 1
    omega
theorem fp_frac {T : Nat} (hT : T < 2 ^ 52) : vf_n64 (FP.dsub (nrm 1023 T) FP.dconst1) ∧ vf_n64 (FP.dmul (FP.dsub (nrm 1023 T) FP.dconst1) 4841369599423283200) ∧ FP.d2l (FP.dmul (FP.dsub (nrm 1023 T) FP.dconst1) 4841369599423283200) = Int64.ofNat T := by
  rw [fp_sub1 hT]
  by_cases h0 : T = 0
  · subst h0
    rw [if_pos rfl]
    exact ⟨by unfold vf_n64; decide +kernel, by unfold vf_n64; decide +kernel, by decide +kernel⟩
  · rw [if_neg h0]
    obtain ⟨k1, k2⟩ := (Nat.log2_eq_iff h0).mp (rfl : T.log2 = T.log2)
    have hk : T.log2 ≤ 51 := by
      apply Classical.byContradiction
      intro hc
      have := Nat.pow_le_pow_right (show 0 < 2 by decide) (show 52 ≤ T.log2 by omega)
      omega
    obtain ⟨-, r2, r3⟩ := fp_rn (e := -52) k1 k2 (by omega) (by omega) (by omega)
    have hm : FP.dmul (nrm (T.log2 + 971) (T * 2 ^ (52 - T.log2) - 2 ^ 52)) 4841369599423283200 = nrm (T.log2 + 1023) (T * 2 ^ (52 - T.log2) - 2 ^ 52) := by
      show FP.Core.dmul _ 4841369599423283200 = _
      rw [nrm_52]
      unfold FP.Core.dmul FP.Core.mul
      rw [fp_decode (by omega) (by omega) (by omega), fp_decode (by decide) (by decide) (by decide)]
      simp only [FP.Core.exactProduct, FP.Core.round]
      rw [show (false != false) = false from rfl, show (2 ^ 52 + (T * 2 ^ (52 - T.log2) - 2 ^ 52)) * (2 ^ 52 + 0) = (2 ^ 52 + (T * 2 ^ (52 - T.log2) - 2 ^ 52)) * 2 ^ 52 from rfl, fp_rm (by omega) (by omega) (by omega) (by omega), fp_encode (by omega) (by omega)]
      exact nrm_cg (by omega) (by omega)
    rw [hm]
    refine ⟨nrm_n64 (by omega) (by omega), nrm_n64 (by omega) (by omega), ?_⟩
    show FP.Core.d2l _ = _
    unfold FP.Core.d2l FP.Core.toL
    rw [fp_decode (by omega) (by omega) (by omega)]
    simp only [FP.Core.toInt, FP.Core.truncate]
    have hp := Nat.two_pow_pos (52 - T.log2)
    have ht : FP.Core.signed false ((2 ^ 52 + (T * 2 ^ (52 - T.log2) - 2 ^ 52)) * 2 ^ (((T.log2 + 1023 : Nat) : Int) - 1075).toNat / 2 ^ (-(((T.log2 + 1023 : Nat) : Int) - 1075)).toNat) = (T : Int) := by
      unfold FP.Core.signed
      rw [if_neg (by decide), show (((T.log2 + 1023 : Nat) : Int) - 1075).toNat = 0 by omega, show (-(((T.log2 + 1023 : Nat) : Int) - 1075)).toNat = 52 - T.log2 by omega, Nat.pow_zero, Nat.mul_one, show 2 ^ 52 + (T * 2 ^ (52 - T.log2) - 2 ^ 52) = T * 2 ^ (52 - T.log2) by omega, Nat.mul_div_cancel T hp]
    rw [ht, show max (-2 ^ 63 : Int) (min (2 ^ 63 - 1) (T : Int)) = (T : Int) by omega]
    exact Int64.ofInt_eq_ofNat
/-- the bits of it -/
theorem fp_exp : ∀ k, k < 32 → Int64.ofNat (1023 - k) - 1 = Int64.ofNat (1023 - (k + 1)) := by decide +kernel
theorem fp_shl : ∀ k, k < 32 → Int64.ofNat (1023 - k) <<< ((52 : Int32).toInt64 &&& 63) = Int64.ofNat ((1023 - k) * 2 ^ 52) := by decide +kernel
theorem fp_bits {k T : Nat} (hk : k < 32) : Int64.ofNat (1023 - k) <<< ((52 : Int32).toInt64 &&& 63) + Int64.ofNat T = (nrm (1023 - k) T).toInt64 := by
  rw [fp_shl k hk, ← Int64.ofNat_add]
  rfl
end SHARE2
