/-! ===== calls that only read (6) ===== -/
def eld (μ : gw_M) (a p q : Nat) : Bool := decide (μ (a + 1) q ≠ -1 ∧ (μ (a + 3) q).toInt < (μ (a + 3) p).toInt)
def cnt24 (f : Nat → Bool) : Nat → Nat → Nat
  | _, 0 => 0
  | c, d + 1 => (if f (c % 24) then 1 else 0) + cnt24 f (c + 1) d
theorem cnt24_app (f : Nat → Bool) : ∀ d c, cnt24 f c (d + 1) = cnt24 f c d + (if f ((c + d) % 24) then 1 else 0) := by
  intro d
  induction d with
  | zero =>
    intro c
    show (if f (c % 24) then 1 else 0) + 0 = 0 + _
    rw [Nat.add_zero, Nat.zero_add, Nat.add_zero]
  | succ d ih =>
    intro c
    show (if f (c % 24) then 1 else 0) + cnt24 f (c + 1) (d + 1) = (if f (c % 24) then 1 else 0) + cnt24 f (c + 1) d + _
    rw [ih (c + 1), show c + 1 + d = c + (d + 1) by omega, Nat.add_assoc]
theorem cnt24_rot (f : Nat → Bool) : ∀ c, cnt24 f c 24 = cnt24 f 0 24 := by
  intro c
  induction c with
  | zero => rfl
  | succ c ih =>
    rw [← ih, cnt24_app f 23 (c + 1)]
    show _ = (if f (c % 24) then 1 else 0) + cnt24 f (c + 1) 23
    rw [show (c + 1 + 23) % 24 = c % 24 by omega, Nat.add_comm]
theorem cnt24_le (f : Nat → Bool) : ∀ d c, cnt24 f c d ≤ d := by
  intro d
  induction d with
  | zero => intro c; exact Nat.le_refl 0
  | succ d ih =>
    intro c
    have := ih (c + 1)
    show (if f (c % 24) then 1 else 0) + cnt24 f (c + 1) d ≤ d + 1
    split <;> omega
section RD6
variable {b A m n h a : Nat} {K N M s μ : gw_M} {L3 L2 L : List Nat}
theorem c_eld4 {p : Nat} (hp : p < 16) : ∀ (d k f c : Nat), k + d = 16 → d < f → F_X8_elderThan_4 n a f (nI p) (nI c) (nI k) μ = some (nI (c + ((List.range' k d).filter (eld μ a p)).length)) := by
  intro d
  induction d with
  | zero =>
    intro k f c hk hf
    obtain ⟨f, rfl⟩ : ∃ z, f = z + 1 := ⟨f - 1, by omega⟩
    have : k = 16 := by omega
    subst this
    rw [F_X8_elderThan_4, if_pos (by decide)]
    rfl
  | succ d ih =>
    intro k f c hk hf
    obtain ⟨f, rfl⟩ : ∃ z, f = z + 1 := ⟨f - 1, by omega⟩
    have hc : 0 ≤ nI k ∧ k < 16 := ⟨nI_pos' (by omega), by omega⟩
    have hc2 : 0 ≤ nI p ∧ p < 16 := ⟨nI_pos' (by omega), by omega⟩
    rw [F_X8_elderThan_4, if_neg (by rw [show (16 : Int32) = nI 16 from rfl]; exact nI_ge (by omega) (by omega))]
    simp only [nI_clamp (show k < 2 ^ 31 by omega), nI_clamp (show p < 2 ^ 31 by omega), if_pos hc, if_pos hc2, F_X8_elderThan_38, gw_let, nI_1]
    rw [List.range'_succ, List.filter_cons]
    by_cases h0 : μ (a + 1) k = -1
    · rw [if_pos h0, ih (k + 1) f c (by omega) (by omega), if_neg (by simp [eld, h0])]
    · rw [if_neg h0]
      by_cases h1 : μ (a + 3) p ≤ μ (a + 3) k
      · rw [if_pos h1, ih (k + 1) f c (by omega) (by omega), if_neg]
        rw [Int32.le_iff_toInt_le] at h1
        unfold eld
        rw [decide_eq_true_iff]
        intro c
        omega
      · rw [if_neg h1, ih (k + 1) f (c + 1) (by omega) (by omega), if_pos, List.length_cons]
        · congr 2
          omega
        · rw [Int32.le_iff_toInt_le] at h1
          unfold eld
          rw [decide_eq_true_iff]
          exact ⟨h0, by omega⟩
theorem c_eld (hn : 1000 ≤ n) (h1 : L.Nodup) (hL : ∀ p, p ∈ L ↔ p < 16 ∧ μ (a + 1) p ≠ -1) (hO : L.Pairwise (fun p q => (μ (a + 3) p).toInt < (μ (a + 3) q).toInt)) {k p : Nat} (hk : L[k]? = some p) : F_X8_elderThan n a (nI p) μ = some (nI k) := by
  have hlt : k < L.length := (List.getElem?_eq_some_iff.mp hk).1
  have hpe : L[k] = p := (List.getElem?_eq_some_iff.mp hk).2
  have hp : p < 16 := ((hL p).mp (List.mem_of_getElem? hk)).1
  have e := c_eld4 (n := n) (a := a) (μ := μ) hp 16 0 n 0 rfl (by omega)
  rw [F_X8_elderThan, show (0 : Int32) = nI 0 from rfl, e, Nat.zero_add, ← range0]
  have hl : (L.take k).length = k := by rw [List.length_take]; omega
  rw [List.pairwise_iff_getElem] at hO
  rw [len_eq (L := L.take k) (h1.sublist (List.take_sublist k L)) (fun q => ?_), hl]
  unfold eld
  rw [decide_eq_true_iff]
  constructor
  · intro hq
    obtain ⟨j, hj, rfl⟩ := List.mem_iff_getElem.mp hq
    rw [List.getElem_take]
    have hj2 : j < k := by rw [hl] at hj; exact hj
    have m1 := (hL (L[j]'(by omega))).mp (List.getElem_mem _)
    refine ⟨m1.1, m1.2, ?_⟩
    have := hO j k (by omega) hlt hj2
    rw [hpe] at this
    exact this
  · rintro ⟨q1, q2, q3⟩
    obtain ⟨j, hj, rfl⟩ := List.mem_iff_getElem.mp ((hL q).mpr ⟨q1, q2⟩)
    by_cases hjk : j < k
    · exact List.mem_iff_getElem.mpr ⟨j, by rw [hl]; exact hjk, by rw [List.getElem_take]⟩
    · exfalso
      by_cases hje : j = k
      · subst hje
        rw [hpe] at q3
        omega
      · have := hO k j hlt hj (by omega)
        rw [hpe] at this
        omega
theorem c_age2 (hn : 1000 ≤ n) (h1 : L.Nodup) (hL : ∀ p, p ∈ L ↔ p < 16 ∧ μ (a + 1) p ≠ -1) (hO : L.Pairwise (fun p q => (μ (a + 3) p).toInt < (μ (a + 3) q).toInt)) {v : Int32} {r : Int32} (hr : (r = -1 ∧ ∀ k, k < L.length → v ≠ nI k) ∨ ∃ k p, L[k]? = some p ∧ v = nI k ∧ r = nI p) : ∀ (d k f : Nat), k + d = 16 → d < f → (∀ p, r = nI p → p < 16 → k ≤ p) → F_X8_byAge_2 n a f v (nI k) μ = some r := by
  have hlen : L.length ≤ 16 := by
    have := List.Nodup.length_le_of_subset (l₂ := List.range 16) h1 (fun p hp => List.mem_range.mpr ((hL p).mp hp).1)
    rw [List.length_range] at this
    exact this
  intro d
  induction d with
  | zero =>
    intro k f hk hf hq
    obtain ⟨f, rfl⟩ : ∃ z, f = z + 1 := ⟨f - 1, by omega⟩
    have : k = 16 := by omega
    subst this
    rw [F_X8_byAge_2, if_pos (by decide)]
    rcases hr with ⟨hr, -⟩ | ⟨j, p, hj, -, hr⟩
    · rw [hr]
    · have := ((hL p).mp (List.mem_of_getElem? hj)).1
      have := hq p hr this
      omega
  | succ d ih =>
    intro k f hk hf hq
    obtain ⟨f, rfl⟩ : ∃ z, f = z + 1 := ⟨f - 1, by omega⟩
    have hc : 0 ≤ nI k ∧ k < 16 := ⟨nI_pos' (by omega), by omega⟩
    rw [F_X8_byAge_2, if_neg (by rw [show (16 : Int32) = nI 16 from rfl]; exact nI_ge (by omega) (by omega))]
    simp only [nI_clamp (show k < 2 ^ 31 by omega), if_pos hc, F_X8_byAge_29, gw_let, nI_1]
    by_cases h0 : μ (a + 1) k = -1
    · rw [if_pos h0]
      refine ih (k + 1) f (by omega) (by omega) (fun p e1 e2 => ?_)
      have := hq p e1 e2
      by_cases hkp : k = p
      · exfalso
        subst hkp
        rcases hr with ⟨hr, -⟩ | ⟨j, p, hj, -, hr⟩
        · rw [e1, nI_m1 (by omega)] at hr
          exact hr
        · have m1 := (hL p).mp (List.mem_of_getElem? hj)
          rw [e1] at hr
          have := nI_inj (by omega) (by omega) hr
          subst this
          exact m1.2 h0
      · omega
    · rw [if_neg h0]
      obtain ⟨j, hj, hjk⟩ := List.mem_iff_getElem.mp ((hL k).mpr ⟨hc.2, h0⟩)
      have hjs : L[j]? = some k := List.getElem?_eq_some_iff.mpr ⟨hj, hjk⟩
      rw [c_eld hn h1 hL hO hjs, Option.bind_some]
      by_cases hv : nI j = v
      · rw [if_neg (not_not_intro hv)]
        rcases hr with ⟨-, hr⟩ | ⟨i, p, hi, hvi, hr⟩
        · exact absurd hv.symm (hr j hj)
        · have hi2 := (List.getElem?_eq_some_iff.mp hi).1
          rw [hvi] at hv
          have := nI_inj (by omega) (by omega) hv
          subst this
          rw [hjs] at hi
          rw [hr, Option.some.inj hi]
      · rw [if_pos hv]
        refine ih (k + 1) f (by omega) (by omega) (fun p e1 e2 => ?_)
        have := hq p e1 e2
        by_cases hkp : k = p
        · exfalso
          subst hkp
          rcases hr with ⟨hr, -⟩ | ⟨i, p, hi, hvi, hr⟩
          · rw [e1, nI_m1 (by omega)] at hr
            exact hr
          · have m1 := (hL p).mp (List.mem_of_getElem? hi)
            rw [e1] at hr
            have := nI_inj (by omega) (by omega) hr
            subst this
            have e3 := c_eld hn h1 hL hO hi
            have e4 := c_eld hn h1 hL hO hjs
            exact hv (by rw [hvi]; exact Option.some.inj (e4.symm.trans e3))
        · omega
theorem rd_age (hn : 1000 ≤ n) {t row cnt tc : Nat} (hrow : row + 16 ≤ 993) (hq : gq_L (s (m + 1)) t row cnt L) (hO : gq_O b A tc M L) (hto : ∀ p, p < 16 → s (m + 1) (t + 2 * p) = M (A + tc + 1) p) (v : Int32) : SAME (F_X8_byAge n (A + tc) v M) ((F_X11_isIn n v 0 ((s (m + 1) cnt) - (1 : Int32)) s).bind (fun (r_1 : Int32) => (if r_1 = 0 then some (-1) else (if 0 ≤ (nI row + v) ∧ (nI row + v).toNatClampNeg < 20813 then some (s (m + 1) (nI row + v).toNatClampNeg) else none)))) := by
  obtain ⟨q1, q2, q3, q4, q5⟩ := hq
  have hL : ∀ p, p ∈ L ↔ p < 16 ∧ M (A + tc + 1) p ≠ -1 := fun p => by
    rw [q2 p]
    refine ⟨fun c => ⟨c.1, ?_⟩, fun c => ⟨c.1, ?_⟩⟩
    · rw [← hto p c.1]; exact c.2
    · rw [hto p c.1]; exact c.2
  have hO2 : L.Pairwise (fun p q => (M (A + tc + 3) p).toInt < (M (A + tc + 3) q).toInt) := hO.2
  rw [m_isIn, Option.bind_some, q4]
  rcases in_m v L.length (by omega) with hv | ⟨hv, j, hj, rfl⟩
  · rw [hv]
    refine sm_eq (r := -1) ?_ rfl
    refine c_age2 hn q1 hL hO2 (Or.inl ⟨rfl, fun k hk c => ?_⟩) 16 0 n rfl (by omega) (fun p _ _ => Nat.zero_le p)
    subst c
    have : isin (nI k) 0 (nI L.length - 1) = 1 := by
      obtain ⟨l, hl⟩ : ∃ l, L.length = l + 1 := ⟨L.length - 1, by omega⟩
      rw [hl, nI_pred]
      refine isin_yes ?_ ?_
      · rw [nI_toInt (by omega)]; show (0 : Int) ≤ _; omega
      · rw [nI_toInt (by omega), nI_toInt (by omega)]; omega
    rw [this] at hv
    exact absurd hv (by decide)
  · have hjs : L[j]? = some L[j] := List.getElem?_eq_some_iff.mpr ⟨hj, rfl⟩
    rw [hv, if_neg (show ¬ (1 : Int32) = 0 by decide), nI_add, gi (by omega) (by decide), nI_clamp (by omega), q5 j _ hjs]
    exact sm_eq (c_age2 hn q1 hL hO2 (Or.inr ⟨j, L[j], hjs, rfl, rfl⟩) 16 0 n rfl (by omega) (fun p _ _ => Nat.zero_le p)) rfl
theorem rd_folded (hn : 1000 ≤ n) (g : G b (A + 1) m K N L3 L2 M s) (v : Int32) : SAME (F_X10_folded n A v M) (F_X11_folded n m v s) := by
  obtain ⟨q1, q2⟩ : gq_L (s (m + 1)) 754 786 23 L3 ∧ gq_O b (A + 1) 8 M L3 := G_q g 4 (by decide)
  obtain ⟨r, r1, r2⟩ := rd_age hn (by decide) q1 q2 (fun p hp => G_rd g (gd_t2 p hp).2.2.1) v
  refine sm_eq (r := r) ?_ r2
  rw [F_X10_folded, show F_X8_byAge n (A + 9) v M = some r from r1]
  rfl
theorem rd_backed (hn : 1000 ≤ n) (g : G b (A + 1) m K N L3 L2 M s) (v : Int32) : SAME (F_X10_backed n A v M) (F_X11_backed n m v s) := by
  obtain ⟨q1, q2⟩ : gq_L (s (m + 1)) 706 738 22 L2 ∧ gq_O b (A + 1) 2 M L2 := G_q g 5 (by decide)
  obtain ⟨r, r1, r2⟩ := rd_age hn (by decide) q1 q2 (fun p hp => G_rd g (gd_t2 p hp).1) v
  refine sm_eq (r := r) ?_ r2
  rw [F_X10_backed, show F_X8_byAge n (A + 3) v M = some r from r1]
  rfl
end RD6
