/-! ===== exits ===== -/
def cwx (e w : Nat) (r d t : Int32) (μ : gw_M) : gw_M :=
  let N := ((μ (e + 30) 0).toNatClampNeg + (μ (e + 30) 1).toNatClampNeg) % 24
  let μ2 := gw_up (gw_up (gw_up (gw_up (gw_up μ (e + 26) N (nI w)) (e + 27) N r) (e + 28) N d) (e + 29) N t) (e + 30) w (μ (e + 30) w + 1)
  if w = 1 then gw_up (gw_up μ2 (e + 25) 5 r) (e + 25) 6 d else μ2
def mwx (m w : Nat) (r d : Int32) (k : Nat) (s : gw_M) : gw_M := gw_up (gw_up (gw_up (gw_up (gw_up (gw_up s (m + 1) (861 + 4 * k) (nI w)) (m + 1) (862 + 4 * k) r) (m + 1) (863 + 4 * k) d) (m + 1) (864 + 4 * k) (s (m + 1) 3)) (m + 1) 25 (nI (k + 1))) (m + 1) (5 + w) (s (m + 1) (5 + w) + 1)
section EXIT
variable {b e m n : Nat} {K N : gw_M} {L3 L2 L : List Nat} {μ s : gw_M}
theorem c_writeExit {w n5 n6 : Nat} (hw : w < 2) (h5 : μ (e + 30) 0 = nI n5) (h6 : μ (e + 30) 1 = nI n6) (hN : n5 + n6 < 2 ^ 31) {r d t : Int32} : F_X2_writeExit n (e + 25) (nI w) r d t μ = some (cwx e w r d t μ) := by
  have hN24 : (n5 + n6) % 24 < 24 := Nat.mod_lt _ (by decide)
  simp only [F_X2_writeExit, gw_let, Nat.add_assoc, Nat.reduceAdd, h5, h6, nI_add]
  have hs : nI (n5 + n6) - nI (n5 + n6) / 24 * 24 = nI ((n5 + n6) % 24) := pk_rem (d := 24) hN (by decide) (by decide)
  have hc : 0 ≤ nI ((n5 + n6) % 24) ∧ (n5 + n6) % 24 < 24 := ⟨nI_pos' (by omega), hN24⟩
  have hw2 : 0 ≤ nI w ∧ w < 2 := ⟨nI_pos' (by omega), hw⟩
  simp only [hs, nI_clamp (show (n5 + n6) % 24 < 2 ^ 31 by omega), nI_clamp (show w < 2 ^ 31 by omega), if_pos hc, if_pos hw2]
  unfold cwx
  simp only [h5, h6, nI_clamp (show n5 < 2 ^ 31 by omega), nI_clamp (show n6 < 2 ^ 31 by omega)]
  match w, hw with
  | 0, _ =>
    rw [if_pos (by decide), if_neg (by decide)]
    simp [up_at]
  | 1, _ =>
    rw [if_neg (by decide), if_pos (by decide)]
    simp [up_at]
theorem m_wx58 {w k : Nat} {r d : Int32} (hw : w < 2) (hk : k ≤ 23) (h25 : s (m + 1) 25 = nI k) : F_X11_writeExit_58 n m (nI w) r d s = some (mwx m w r d k s) := by
  unfold F_X11_writeExit_58
  simp only [gw_let, h25, show (861 : Int32) = nI 861 from rfl, show (4 : Int32) = nI 4 from rfl, show (2 : Int32) = nI 2 from rfl, show (3 : Int32) = nI 3 from rfl, show (5 : Int32) = nI 5 from rfl, pk_mul, nI_add, nI_1]
  simp only [nI_clamp (show 861 + 4 * k < 2 ^ 31 by omega), nI_clamp (show 861 + 4 * k + 1 < 2 ^ 31 by omega), nI_clamp (show 861 + 4 * k + 2 < 2 ^ 31 by omega), nI_clamp (show 861 + 4 * k + 3 < 2 ^ 31 by omega), nI_clamp (show 5 + w < 2 ^ 31 by omega)]
  rw [if_pos ⟨nI_pos' (by omega), by omega⟩, if_pos ⟨nI_pos' (by omega), by omega⟩, if_pos ⟨nI_pos' (by omega), by omega⟩, if_pos ⟨nI_pos' (by omega), by omega⟩, if_pos ⟨nI_pos' (by omega), by omega⟩, if_pos ⟨nI_pos' (by omega), by omega⟩]
  unfold mwx
  congr 1
  have e1 : 861 + 4 * k + 1 = 862 + 4 * k := by omega
  have e2 : 861 + 4 * k + 2 = 863 + 4 * k := by omega
  have e3 : 861 + 4 * k + 3 = 864 + 4 * k := by omega
  rw [e1, e2, e3]
  have r3 : gw_up (gw_up (gw_up s (m + 1) (861 + 4 * k) (nI w)) (m + 1) (862 + 4 * k) r) (m + 1) (863 + 4 * k) d (m + 1) 3 = s (m + 1) 3 := by
    rw [up_at, if_neg (by omega), up_at, if_neg (by omega), up_at, if_neg (by omega)]
  have r25 : gw_up (gw_up (gw_up (gw_up s (m + 1) (861 + 4 * k) (nI w)) (m + 1) (862 + 4 * k) r) (m + 1) (863 + 4 * k) d) (m + 1) (864 + 4 * k) (s (m + 1) 3) (m + 1) 25 + 1 = nI (k + 1) := by
    rw [up_at, if_neg (by omega), up_at, if_neg (by omega), up_at, if_neg (by omega), up_at, if_neg (by omega), h25, nI_1]
  rw [r3, r25]
  congr 1
  rw [up_at, if_neg (by omega), up_at, if_neg (by omega), up_at, if_neg (by omega), up_at, if_neg (by omega), up_at, if_neg (by omega)]
theorem m_wx17 {w : Nat} {r dd : Int32} : ∀ (d k f : Nat) (s : gw_M), k + d = 953 → 861 ≤ k → d < f → ∃ s1, F_X11_writeExit_17 n m f (nI w) r dd (nI k) s = F_X11_writeExit_58 n m (nI w) r dd (gw_up s1 (m + 1) 25 (s1 (m + 1) 25 - 1)) ∧ ∀ a j, s1 a j = if a = m + 1 ∧ k ≤ j ∧ j < 953 then s a (j + 4) else s a j := by
  intro d
  induction d with
  | zero =>
    intro k f s hk hk2 hf
    obtain ⟨f, rfl⟩ : ∃ z, f = z + 1 := ⟨f - 1, by omega⟩
    have : k = 953 := by omega
    subst this
    rw [F_X11_writeExit_17, if_pos (by decide)]
    exact ⟨s, rfl, fun a j => by rw [if_neg (by omega)]⟩
  | succ d ih =>
    intro k f s hk hk2 hf
    obtain ⟨f, rfl⟩ : ∃ z, f = z + 1 := ⟨f - 1, by omega⟩
    rw [F_X11_writeExit_17, if_neg (by rw [show (953 : Int32) = nI 953 from rfl]; exact nI_ge (by omega) (by omega))]
    simp only [gw_let, show (4 : Int32) = nI 4 from rfl, nI_add, nI_1, nI_clamp (show k < 2 ^ 31 by omega), nI_clamp (show k + 4 < 2 ^ 31 by omega)]
    rw [if_pos ⟨nI_pos' (by omega), by omega⟩, if_pos ⟨nI_pos' (by omega), by omega⟩]
    obtain ⟨s1, e1, e2⟩ := ih (k + 1) f (gw_up s (m + 1) k (s (m + 1) (k + 4))) (by omega) (by omega) (by omega)
    refine ⟨s1, e1, fun a j => ?_⟩
    rw [e2 a j]
    by_cases h1 : a = m + 1 ∧ k + 1 ≤ j ∧ j < 953
    · rw [if_pos h1, if_pos ⟨h1.1, by omega, h1.2.2⟩, up_at, if_neg (by omega)]
    · rw [if_neg h1, up_at]
      by_cases h2 : a = m + 1 ∧ j = k
      · rw [if_pos h2, if_pos ⟨h2.1, by omega, by omega⟩, h2.1, h2.2]
      · rw [if_neg h2, if_neg (by omega)]
/-- the model's writeExit, told by the count N of all exits -/
theorem m_writeExit (hn : 1000 ≤ n) {w M : Nat} {r d : Int32} (hw : w < 2) (h25 : s (m + 1) 25 = nI (min M 24)) : ∃ s', F_X11_writeExit n m (nI w) r d s = some s' ∧ (∀ a j, ¬ (a = m + 1 ∧ (j = 25 ∨ j = 5 + w ∨ (861 ≤ j ∧ j < 957))) → s' a j = s a j) ∧ s' (m + 1) 25 = nI (min (M + 1) 24) ∧ s' (m + 1) (5 + w) = s (m + 1) (5 + w) + 1 ∧ ∀ i z, z < 4 → i < min (M + 1) 24 → s' (m + 1) (861 + 4 * i + z) = if i + 1 = min (M + 1) 24 then (if z = 0 then nI w else if z = 1 then r else if z = 2 then d else s (m + 1) 3) else s (m + 1) (861 + 4 * (i + (M + 1 - min (M + 1) 24 - (M - min M 24))) + z) := by
  have rd : ∀ (k : Nat) (s : gw_M), k ≤ 23 → (∀ a j, ¬ (a = m + 1 ∧ (j = 25 ∨ j = 5 + w ∨ (861 + 4 * k ≤ j ∧ j < 865 + 4 * k))) → mwx m w r d k s a j = s a j) ∧ mwx m w r d k s (m + 1) 25 = nI (k + 1) ∧ mwx m w r d k s (m + 1) (5 + w) = s (m + 1) (5 + w) + 1 ∧ ∀ z, z < 4 → mwx m w r d k s (m + 1) (861 + 4 * k + z) = if z = 0 then nI w else if z = 1 then r else if z = 2 then d else s (m + 1) 3 := by
    intro k s hk
    unfold mwx
    refine ⟨fun a j hj => ?_, ?_, ?_, fun z hz => ?_⟩
    · rw [up_at, if_neg (by omega), up_at, if_neg (by omega), up_at, if_neg (by omega), up_at, if_neg (by omega), up_at, if_neg (by omega), up_at, if_neg (by omega)]
    · rw [up_at, if_neg (by omega), up_at, if_pos ⟨rfl, rfl⟩]
    · rw [up_at, if_pos ⟨rfl, rfl⟩]
    · match z, hz with
      | 0, _ => rw [up_at, if_neg (by omega), up_at, if_neg (by omega), up_at, if_neg (by omega), up_at, if_neg (by omega), up_at, if_neg (by omega), up_at, if_pos ⟨rfl, rfl⟩]; rfl
      | 1, _ => rw [up_at, if_neg (by omega), up_at, if_neg (by omega), up_at, if_neg (by omega), up_at, if_neg (by omega), up_at, if_pos ⟨rfl, by omega⟩]; rfl
      | 2, _ => rw [up_at, if_neg (by omega), up_at, if_neg (by omega), up_at, if_neg (by omega), up_at, if_pos ⟨rfl, by omega⟩]; rfl
      | 3, _ => rw [up_at, if_neg (by omega), up_at, if_neg (by omega), up_at, if_pos ⟨rfl, by omega⟩]; rfl
  unfold F_X11_writeExit
  by_cases hM : M < 24
  · have hmin : min M 24 = M := by omega
    rw [hmin] at h25
    rw [h25, if_pos (by rw [show (24 : Int32) = nI 24 from rfl, nI_eqT (by omega) (by omega)]; omega), m_wx58 hw (by omega) h25]
    obtain ⟨r1, r2, r3, r4⟩ := rd M s (by omega)
    refine ⟨_, rfl, fun a j hj => r1 a j (by omega), by rw [r2]; congr 1; omega, r3, fun i z hz hi => ?_⟩
    by_cases hi2 : i = M
    · subst hi2
      rw [if_pos (show i + 1 = min (i + 1) 24 by omega), r4 z hz]
    · rw [r1 _ _ (by omega), if_neg (by omega)]
      congr 2
      omega
  · have hmin : min M 24 = 24 := by omega
    rw [hmin] at h25
    rw [h25, if_neg (by decide)]
    obtain ⟨s1, e1, e2⟩ := m_wx17 (n := n) (m := m) (w := w) (r := r) (dd := d) 92 861 n s (by decide) (by decide) (by omega)
    have h25' : gw_up s1 (m + 1) 25 (s1 (m + 1) 25 - 1) (m + 1) 25 = nI 23 := by
      rw [up_at, if_pos ⟨rfl, rfl⟩, e2, if_neg (by omega), h25]; rfl
    have e1' : F_X11_writeExit_17 n m n (nI w) r d 861 s = _ := e1
    rw [e1', m_wx58 hw (by decide) h25']
    obtain ⟨r1, r2, r3, r4⟩ := rd 23 (gw_up s1 (m + 1) 25 (s1 (m + 1) 25 - 1)) (by decide)
    refine ⟨_, rfl, fun a j hj => ?_, by rw [r2]; congr 1; omega, ?_, fun i z hz hi => ?_⟩
    · rw [r1 a j (by omega), up_at, if_neg (by omega), e2, if_neg (by omega)]
    · rw [r3, up_at, if_neg (by omega), e2, if_neg (by omega)]
    · by_cases hi2 : i = 23
      · subst hi2
        have r3v : gw_up s1 (m + 1) 25 (s1 (m + 1) 25 - 1) (m + 1) 3 = s (m + 1) 3 := by rw [up_at, if_neg (by omega), e2, if_neg (by omega)]
        rw [if_pos (show 23 + 1 = min (M + 1) 24 by omega), r4 z hz, r3v]
      · rw [r1 _ _ (by omega), if_neg (by omega), up_at, if_neg (by omega), e2, if_pos (by omega)]
        congr 1
        omega
end EXIT
