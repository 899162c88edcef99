/-! ===== what is heard ===== -/
section HEAR
variable {b e m n : Nat} {K N : gw_M} {L3 L2 L : List Nat} {μ s : gw_M}
def chr (e : Nat) (v : Int32) (μ : gw_M) : gw_M := gw_up (gw_up μ (e + 31) ((μ (e + 25) 8).toNatClampNeg % 24) v) (e + 25) 8 (μ (e + 25) 8 + 1)
theorem c_hear {H : Nat} (hH : μ (e + 25) 8 = nI H) (hl : H < 2 ^ 31) (v : Int32) : F_X2_hear n (e + 25) v μ = some (chr e v μ) := by
  have hs : nI H - nI H / 24 * 24 = nI (H % 24) := pk_rem (d := 24) hl (by decide) (by decide)
  have hc : 0 ≤ nI (H % 24) ∧ H % 24 < 24 := ⟨nI_pos' (by omega), Nat.mod_lt _ (by decide)⟩
  simp only [F_X2_hear, gw_let, hH, hs, nI_clamp (show H % 24 < 2 ^ 31 by omega), if_pos hc, chr, nI_clamp hl]
  rw [up_ne (a := e + 25 + 6) (a' := e + 25) (by omega), hH]
theorem m_h54 {k : Nat} {v : Int32} (hk : k ≤ 23) (h24 : s (m + 1) 24 = nI k) : F_X11_hear_54 n m v s = some (gw_up (gw_up s (m + 1) (837 + k) v) (m + 1) 24 (nI (k + 1))) := by
  unfold F_X11_hear_54
  simp only [gw_let, h24, show (837 : Int32) = nI 837 from rfl, nI_add, nI_clamp (show 837 + k < 2 ^ 31 by omega)]
  rw [if_pos ⟨nI_pos' (by omega), by omega⟩, up_ne (j' := 24) (by omega), h24, nI_1]
theorem m_h16 {v : Int32} : ∀ (d k f : Nat) (s : gw_M), k + d = 860 → 837 ≤ k → d < f → ∃ s1, F_X11_hear_16 n m f v (nI k) s = F_X11_hear_54 n m v (gw_up s1 (m + 1) 24 (s1 (m + 1) 24 - 1)) ∧ ∀ a j, s1 a j = if a = m + 1 ∧ k ≤ j ∧ j < 860 then s a (j + 1) else s a j := by
  intro d
  induction d with
  | zero =>
    intro k f s hk hk2 hf
    obtain ⟨f, rfl⟩ : ∃ z, f = z + 1 := ⟨f - 1, by omega⟩
    have : k = 860 := by omega
    subst this
    rw [F_X11_hear_16, if_pos (by decide)]
    exact ⟨s, rfl, fun a j => by rw [if_neg (by omega)]⟩
  | succ d ih =>
    intro k f s hk hk2 hf
    obtain ⟨f, rfl⟩ : ∃ z, f = z + 1 := ⟨f - 1, by omega⟩
    rw [F_X11_hear_16, if_neg (by rw [show (860 : Int32) = nI 860 from rfl]; exact nI_ge (by omega) (by omega))]
    simp only [gw_let, nI_1, nI_clamp (show k < 2 ^ 31 by omega), nI_clamp (show k + 1 < 2 ^ 31 by omega)]
    rw [if_pos ⟨nI_pos' (by omega), by omega⟩, if_pos ⟨nI_pos' (by omega), by omega⟩]
    obtain ⟨s1, e1, e2⟩ := ih (k + 1) f (gw_up s (m + 1) k (s (m + 1) (k + 1))) (by omega) (by omega) (by omega)
    refine ⟨s1, e1, fun a j => ?_⟩
    rw [e2 a j]
    by_cases h1 : a = m + 1 ∧ k + 1 ≤ j ∧ j < 860
    · rw [if_pos h1, if_pos ⟨h1.1, by omega, h1.2.2⟩, up_at, if_neg (by omega)]
    · rw [if_neg h1, up_at]
      by_cases h2 : a = m + 1 ∧ j = k
      · rw [if_pos h2, if_pos ⟨h2.1, by omega, by omega⟩, h2.1, h2.2]
      · rw [if_neg h2, if_neg (by omega)]
theorem m_hear (hn : 1000 ≤ n) {M : Nat} {v : Int32} (h24 : s (m + 1) 24 = nI (min M 24)) : ∃ s', F_X11_hear n m v s = some s' ∧ (∀ a j, ¬ (a = m + 1 ∧ (j = 24 ∨ (837 ≤ j ∧ j < 861))) → s' a j = s a j) ∧ s' (m + 1) 24 = nI (min (M + 1) 24) ∧ ∀ i, i < min (M + 1) 24 → s' (m + 1) (837 + i) = if i + 1 = min (M + 1) 24 then v else s (m + 1) (837 + (i + (M + 1 - min (M + 1) 24 - (M - min M 24)))) := by
  unfold F_X11_hear
  by_cases hM : M < 24
  · have hmin : min M 24 = M := by omega
    rw [hmin] at h24
    rw [h24, if_pos (by rw [show (24 : Int32) = nI 24 from rfl, nI_eqT (by omega) (by omega)]; omega), m_h54 (by omega) h24]
    refine ⟨_, rfl, fun a j hj => ?_, ?_, fun i hi => ?_⟩
    · rw [up_ne (by omega), up_ne (by omega)]
    · rw [up_eq ⟨rfl, rfl⟩]; congr 1; omega
    · rw [up_ne (by omega), up_at]
      by_cases hi2 : i = M
      · subst hi2
        rw [if_pos ⟨rfl, rfl⟩, if_pos (show i + 1 = min (i + 1) 24 by omega)]
      · rw [if_neg (by omega), if_neg (by omega)]
        congr 2
        omega
  · have hmin : min M 24 = 24 := by omega
    rw [hmin] at h24
    rw [h24, if_neg (by decide)]
    obtain ⟨s1, e1, e2⟩ := m_h16 (n := n) (m := m) (v := v) 23 837 n s (by decide) (by decide) (by omega)
    have h24' : gw_up s1 (m + 1) 24 (s1 (m + 1) 24 - 1) (m + 1) 24 = nI 23 := by
      rw [up_at, if_pos ⟨rfl, rfl⟩, e2, if_neg (by omega), h24]; rfl
    have e1' : F_X11_hear_16 n m n v 837 s = _ := e1
    rw [e1', m_h54 (by decide) h24']
    refine ⟨_, rfl, fun a j hj => ?_, ?_, fun i hi => ?_⟩
    · rw [up_ne (by omega), up_ne (by omega), up_ne (by omega), e2, if_neg (by omega)]
    · rw [up_eq ⟨rfl, rfl⟩]; congr 1; omega
    · rw [up_ne (by omega), up_at]
      by_cases hi2 : i = 23
      · subst hi2
        rw [if_pos ⟨rfl, rfl⟩, if_pos (show 23 + 1 = min (M + 1) 24 by omega)]
      · rw [if_neg (by omega), if_neg (by omega), up_ne (by omega), e2, if_pos (by omega)]
        congr 1
        omega
theorem sim_hear (hn : 1000 ≤ n) (h : G b e m K N L3 L2 μ s) (hb : b + 1 < 2 ^ 28) (v : Int32) : F_X2_hear n (e + 25) v μ = some (chr e v μ) ∧ ∃ s', F_X11_hear n m v s = some s' ∧ G (b + 1) e m K N L3 L2 (chr e v μ) s' := by
  obtain ⟨M, q1, q2, q3, q4⟩ := G_q h 7 (by decide)
  have hbb := G_b h
  obtain ⟨s', e1, a1, a2, a3⟩ := m_hear (m := m) (s := s) (v := v) hn q3
  refine ⟨c_hear q2 (by omega) v, s', e1, ?_⟩
  have hN : M % 24 < 24 := Nat.mod_lt _ (by decide)
  have hc : chr e v μ = gw_up (gw_up μ (e + 31) (M % 24) v) (e + 25) 8 (nI (M + 1)) := by
    unfold chr
    rw [q2, nI_clamp (by omega), nI_1]
  have X := GX_c (GX_c (GX_b (GX_of h) (Nat.le_succ b) hb) (c := 31) (j := M % 24) (by decide) (gd_nbc (k := 7) (by decide) rfl) v) (c := 25) (j := 8) (by decide) (gd_nbc (k := 7) (by decide) rfl) (nI (M + 1))
  rw [← hc] at X
  have X6 := GX_m (E' := fun k => decide (k = 7)) X (s' := s') J7 (fun a j hj => a1 a j (fun c => hj ⟨c.1, by
    rcases c.2 with c2 | c2
    · simp [J7, c2]
    · simp [J7, c2.1, c2.2]⟩)) (fun j hj => ⟨(J7_lt hj).1, (J7_lt hj).2, J7_gd j (J7_lt hj).2 hj⟩) (fun k hk hE => by
    have hk6 : k ≠ 7 := by simpa using hE
    obtain ⟨z1, z2⟩ := N7_nb _ hN k hk hk6
    refine ⟨?_, fun i hi => J7_na k hk hk6 i (J7_lt hi).2 hi⟩
    simp only [z1, z2, Bool.or_false])
  refine GX_end X6 (fun _ => rfl) (fun _ => rfl) (fun k hk hE => ?_)
  have hk6 : k = 7 := by simpa using hE
  subst hk6
  refine ⟨M + 1, by omega, ?_, a2, fun i hi => ?_⟩
  · rw [hc, up_eq ⟨rfl, rfl⟩]
  · rw [a3 i hi, hc, up_ne (by omega), up_at]
    by_cases hl : i + 1 = min (M + 1) 24
    · rw [if_pos hl, if_pos ⟨rfl, by omega⟩]
    · rw [if_neg hl, if_neg (by omega), q4 (i + (M + 1 - min (M + 1) 24 - (M - min M 24))) (by omega)]
      have : M - min M 24 + (i + (M + 1 - min (M + 1) 24 - (M - min M 24))) = M + 1 - min (M + 1) 24 + i := by omega
      rw [this]
theorem chr_ne {a j : Nat} {v : Int32} (h : ¬ (a = e + 31) ∧ ¬ (a = e + 25 ∧ j = 8)) : chr e v μ a j = μ a j := by
  unfold chr
  rw [up_ne h.2, up_ne (fun c => h.1 c.1)]
end HEAR
