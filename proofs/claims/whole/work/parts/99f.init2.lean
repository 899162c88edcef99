/-! ===== both new: the relation ===== -/
section INIT2
variable {e : Nat} {μ : gw_M} {ν : Nat → Int32}
theorem ini_gd : ∀ i < 993, (match gd i with | none => true | some (c, s) => decide (((gw_inl 3)[c]?.bind (fun row => row[s]?)) = some (ini i)) && decide ((gd_q i).1 ≤ (ini i).toInt) && decide ((ini i).toInt ≤ (gd_q i).2.1)) = true := by decide +kernel
theorem ini_p : ∀ p < 16, ini (706 + 2 * p) = -1 ∧ ini (754 + 2 * p) = -1 ∧ ini (707 + 2 * p) = 0 ∧ ini (755 + 2 * p) = 0 ∧ ∀ h < 3, ∀ t < 2, ini (300 + 162 * h + 32 * t + 2 * p) = 0 := by decide +kernel
theorem ini_g : ∀ g < 4, ini (63 + 162 * g) = 0 ∧ ini (64 + 162 * g) = 0 ∧ ini (58 + 162 * g) = 0 := by decide +kernel
theorem ini_1 : ini 26 = 0 ∧ ini 23 = 0 ∧ ini 22 = 0 ∧ ini 5 = 0 ∧ ini 6 = 0 ∧ ini 25 = 0 ∧ ini 24 = 0 ∧ ini 4 = 6 ∧ ini 0 = 0 ∧ ini 1 = 0 := by decide +kernel
theorem RR_ini (h : ∀ c j v, ((gw_inl 3)[c]?.bind (fun row => row[j]?)) = some v → μ (e + c) j = v) (hν : ∀ y, 2 ≤ y → y < 993 → ν y = ini y) : RR 0 e μ ν := by
  obtain ⟨i26, i23, i22, i5, i6, i25, i24, i4, -, -⟩ := ini_1
  have z0 : (0 : Int32).toInt = 0 := by decide
  refine ⟨[], [], by decide, fun i c s hi => ?_, fun k hk => ?_⟩
  · obtain ⟨-, q1, q2, q3⟩ := gd_inv hi
    have hb := ini_gd i q2
    rw [hi] at hb
    simp only [Bool.and_eq_true, decide_eq_true_eq] at hb
    obtain ⟨⟨b1, b2⟩, b3⟩ := hb
    rw [hν i q1 q2, h c s _ b1]
    exact ⟨rfl, b2, by omega⟩
  · match k, hk with
    | 0, _ =>
      intro p hp
      obtain ⟨-, -, p3, p4, p5⟩ := ini_p p hp
      refine ⟨fun _ => ?_, fun _ => ?_, fun h t hh ht _ => ?_⟩
      · rw [hν _ (by omega) (by omega)]; exact p3
      · rw [hν _ (by omega) (by omega)]; exact p4
      · rw [hν _ (by omega) (by omega)]; exact p5 h hh t ht
    | 1, _ =>
      intro g hg
      obtain ⟨g1, g2, -⟩ := ini_g g hg
      rw [hν (63 + 162 * g) (by omega) (by omega), hν (64 + 162 * g) (by omega) (by omega), g1, g2, z0]
      exact ⟨Or.inl rfl, fun k hk _ => by omega⟩
    | 2, _ =>
      intro g v hg hv hbit
      obtain ⟨-, -, g3⟩ := ini_g g hg
      rw [hν (58 + 162 * g) (by omega) (by omega), g3] at hbit
      unfold gg_bit at hbit
      rw [show (0 : Int32).toBitVec = 0#32 from rfl, BitVec.getLsbD_zero] at hbit
      cases hbit
    | 3, _ =>
      intro i hi _
      rw [hν 26 (by omega) (by omega), i26, z0] at hi
      omega
    | 4, _ =>
      refine ⟨⟨List.nodup_nil, fun p => ⟨fun hp => (by cases hp), fun hp => ?_⟩, by decide, ?_, fun k p hk => by simp at hk⟩, ⟨0, Nat.le_refl _, h 8 3 0 rfl, fun p hp => by cases hp⟩, List.Pairwise.nil⟩
      · exact absurd ((hν _ (by omega) (by omega)).trans (ini_p p hp.1).2.1) hp.2
      · rw [hν 23 (by omega) (by omega), i23]; rfl
    | 5, _ =>
      refine ⟨⟨List.nodup_nil, fun p => ⟨fun hp => (by cases hp), fun hp => ?_⟩, by decide, ?_, fun k p hk => by simp at hk⟩, ⟨0, Nat.le_refl _, h 2 3 0 rfl, fun p hp => by cases hp⟩, List.Pairwise.nil⟩
      · exact absurd ((hν _ (by omega) (by omega)).trans (ini_p p hp.1).1) hp.2
      · rw [hν 22 (by omega) (by omega), i22]; rfl
    | 6, _ =>
      refine ⟨0, 0, ?_, ?_, Nat.le_refl _, Nat.le_refl _, ?_, fun i w hw hi => by omega⟩
      · rw [hν 5 (by omega) (by omega), i5]; rfl
      · rw [hν 6 (by omega) (by omega), i6]; rfl
      · rw [hν 25 (by omega) (by omega), i25]; rfl
    | 7, _ =>
      refine ⟨0, Nat.le_refl _, h 25 8 0 rfl, ?_, fun i hi => by omega⟩
      rw [hν 24 (by omega) (by omega), i24]; rfl
    | 8, _ =>
      refine ⟨fun h hh hn p hp hf => absurd ((hν _ (by omega) (by omega)).trans (ini_p p hp).2.1) hf, ?_⟩
      rw [hν 4 (by omega) (by omega), i4]
      decide
theorem c0_at {c c' off : Nat} (hs : gw_isini c c' off = true) (hl : (gw_inl c').length = (gw_lay c').length) (hc : gw_c0 μ c e) : ∀ k j v, ((gw_inl c')[k]?.bind (fun row => row[j]?)) = some v → μ (e + off + k) j = v := by
  intro k j v hv
  cases hr : (gw_inl c')[k]? with
  | none => rw [hr] at hv; cases hv
  | some row =>
    rw [hr] at hv
    have hk : k < (gw_lay c').length := by rw [← hl]; exact (List.getElem?_eq_some_iff.mp hr).1
    have h1 := List.all_eq_true.mp hs k (List.mem_range.mpr hk)
    simp only [decide_eq_true_eq] at h1
    rw [Nat.add_assoc]
    exact hc (off + k) row (h1.trans hr) j v hv
theorem st_R2 {S : gw_S} {A m : Nat} {M : gw_M} (hc : gw_c0 M 10 A) (h1 : ∀ y, y < 20813 → M (m + 1) y = ini y) (h2 : ∀ y, y < 20813 → M (m + 2) y = ini y) : R2 0 S A m M M := by
  obtain ⟨-, -, -, -, -, -, -, -, i0, i1⟩ := ini_1
  refine ⟨by decide, RR_ini (c0_at (off := 1) (by decide +kernel) (by decide +kernel) hc) (fun y _ hy => h1 y (by omega)), ⟨0, 0, 0, by decide, by decide, by decide, hc 83 _ rfl 1 0 rfl, hc 83 _ rfl 2 0 rfl, ?_, ?_, fun i hi => by omega⟩, RR_ini (c0_at (off := 85) (by decide +kernel) (by decide +kernel) hc) (fun y _ hy => h2 y (by omega)), ⟨0, 0, 0, by decide, by decide, by decide, hc 167 _ rfl 1 0 rfl, hc 167 _ rfl 2 0 rfl, ?_, ?_, fun i hi => by omega⟩⟩
  · rw [h1 0 (by omega), i0]; rfl
  · rw [h1 1 (by omega), i1]; rfl
  · rw [h2 0 (by omega), i0]; rfl
  · rw [h2 1 (by omega), i1]; rfl
theorem st_SH {S : gw_S} {A m : Nat} (hwf : gw_wf S) (h10 : gw_sh S 10 A) (h11 : gw_sh S 11 m) (hA : A + 268 ≤ m) (hn : m + 5 ≤ gw_nn S) (z1 : ∀ j, gw_rf S (A + 84) j = 0) (z2 : ∀ j, gw_rf S (A + 168) j = 0) : SH S A m := by
  have hp : ∀ z, pp S A z = 0 := fun z => by
    unfold pp
    split
    · exact z1 _
    · exact z2 _
  exact ⟨hwf, h10, h11, hA, hn, fun z _ => Or.inl (hp z), fun z z' _ _ _ h => absurd (hp z) h⟩
/-- what stood is as it was -/
theorem sh_kept {S S' : gw_S} {c a b : Nat} (h : gw_sh S c a) (hb : a + (gw_lay c).length ≤ b) (hk : ∀ z, z < b → gw_kd S' z = gw_kd S z ∧ gw_ln S' z = gw_ln S z ∧ ∀ j, gw_rf S' z j = gw_rf S z j) : gw_sh S' c a := by
  intro k q hq
  have hk2 : k < (gw_lay c).length := (List.getElem?_eq_some_iff.mp hq).1
  obtain ⟨p1, p2, p3⟩ := hk (a + k) (by omega)
  obtain ⟨q1, q2, q3⟩ := h k q hq
  exact ⟨p1.trans q1, p2.trans q2, fun r hr => (p3 _).trans (q3 r hr)⟩
end INIT2
