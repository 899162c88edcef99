/-! ===== the model's rows of pages ===== -/
def lst (ν : Nat → Int32) (row cnt : Nat) (L : List Nat) : Prop := ν cnt = nI L.length ∧ L.length ≤ 16 ∧ ∀ k p, L[k]? = some p → ν (row + k) = nI p
def onl (m row cnt : Nat) (s s' : gw_M) : Prop := ∀ a j, ¬ (a = m + 1 ∧ (j = cnt ∨ (row ≤ j ∧ j < row + 16))) → s' a j = s a j
theorem nI_ge0 {k : Nat} (h : k < 2 ^ 31) : (0 ≤ nI k) = True := eq_true (nI_pos' h)
theorem lt_T {a b : Nat} (h : a < b) : (a < b) = True := eq_true h
theorem nI_add0 (a : Nat) : nI a + 0 = nI a := by rw [show (0 : Int32) = nI 0 from rfl, nI_add]; rfl
theorem up_at {s : gw_M} {a j a' j' : Nat} {v : Int32} : gw_up s a j v a' j' = if a' = a ∧ j' = j then v else s a' j' := rfl
section GOOUT
variable {m n0 row cnt p : Nat} {A : List Nat}
def gft (p : Nat) (A : List Nat) (k : Nat) : List Nat := (A.take k).filter (fun z => decide (z ≠ p))
theorem gft_le (p : Nat) (A : List Nat) (k : Nat) : (gft p A k).length ≤ k := Nat.le_trans (List.length_filter_le _ _) (by rw [List.length_take]; exact Nat.min_le_left _ _)
theorem gft_s {k : Nat} (hk : k < A.length) : gft p A (k + 1) = if A[k] ≠ p then gft p A k ++ [A[k]] else gft p A k := by
  unfold gft
  rw [List.take_succ_eq_append_getElem hk, List.filter_append]
  by_cases h : A[k] = p
  · simp [h]
  · simp [h]
theorem m_goOut2 (hr : row + 16 ≤ 993) (hc : cnt < 993) (hcr : cnt < row ∨ row + 16 ≤ cnt) {q : Nat} (hq : q ≤ A.length) (hA : A.length ≤ 16) : ∀ (d k n : Nat) (s : gw_M), k + d = A.length → q ≤ k → d < n → s (m + 1) cnt = nI A.length → ∃ s', F_X11_goOut_64 n0 m n (nI row) (nI cnt) (nI q) (nI k) s = some s' ∧ (∀ a j, ¬ (a = m + 1 ∧ (j = cnt ∨ (row + q ≤ j ∧ j < row + 16))) → s' a j = s a j) ∧ s' (m + 1) cnt = nI q := by
  intro d
  induction d with
  | zero =>
    intro k n s hk hqk hn h3
    obtain ⟨n, rfl⟩ : ∃ z, n = z + 1 := ⟨n - 1, by omega⟩
    simp only [F_X11_goOut_64, gw_let]
    rw [if_pos (of_eq_true (ckN (by omega) (by omega))), nI_clamp (by omega), h3, if_pos (nI_le (by omega) (by omega)), if_pos ⟨nI_pos' (by omega), by omega⟩]
    refine ⟨_, rfl, fun a j hj => ?_, ?_⟩
    · rw [up_at, if_neg]
      rintro ⟨rfl, rfl⟩
      exact hj ⟨rfl, Or.inl rfl⟩
    · rw [up_at, if_pos ⟨rfl, rfl⟩]
  | succ d ih =>
    intro k n s hk hqk hn h3
    obtain ⟨n, rfl⟩ : ∃ z, n = z + 1 := ⟨n - 1, by omega⟩
    simp only [F_X11_goOut_64, gw_let]
    rw [if_pos (of_eq_true (ckN (by omega) (by omega))), nI_clamp (by omega), h3, if_neg (nI_ge (by omega) (by omega)), nI_add, if_pos (of_eq_true (ckN (by omega) (by omega))), nI_clamp (by omega), nI_1]
    obtain ⟨s', e1, e2, e3⟩ := ih (k + 1) n (gw_up s (m + 1) (row + k) 0) (by omega) (by omega) (by omega) (by rw [up_at, if_neg (by omega)]; exact h3)
    refine ⟨s', e1, fun a j hj => ?_, e3⟩
    rw [e2 a j hj, up_at, if_neg]
    rintro ⟨rfl, rfl⟩
    exact hj ⟨rfl, Or.inr ⟨by omega, by omega⟩⟩
theorem m_goOut1 (hr : row + 16 ≤ 993) (hc : cnt < 993) (hcr : cnt < row ∨ row + 16 ≤ cnt) (hp : p < 16) (hA : A.length ≤ 16) (hA2 : ∀ z ∈ A, z < 16) (hn0 : 1000 ≤ n0) : ∀ (d k n : Nat) (s : gw_M), k + d = A.length → d < n → s (m + 1) cnt = nI A.length → (∀ j z, (gft p A k)[j]? = some z → s (m + 1) (row + j) = nI z) → (∀ j z, k ≤ j → A[j]? = some z → s (m + 1) (row + j) = nI z) → ∃ s', F_X11_goOut_6 n0 m n (nI row) (nI cnt) (nI p) (nI (gft p A k).length) (nI k) s = some s' ∧ onl m row cnt s s' ∧ lst (s' (m + 1)) row cnt (A.filter (fun z => decide (z ≠ p))) := by
  intro d
  induction d with
  | zero =>
    intro k n s hk hn h3 h1 h2
    obtain ⟨n, rfl⟩ : ∃ z, n = z + 1 := ⟨n - 1, by omega⟩
    simp only [F_X11_goOut_6, gw_let]
    rw [if_pos (of_eq_true (ckN (by omega) (by omega))), nI_clamp (by omega), h3, if_pos (nI_le (by omega) (by omega))]
    have hle := gft_le p A k
    obtain ⟨s', e1, e2, e3⟩ := m_goOut2 (n0 := n0) (m := m) (A := A) hr hc hcr (q := (gft p A k).length) (by omega) hA (A.length - (gft p A k).length) (gft p A k).length n0 s (by omega) (Nat.le_refl _) (by omega) h3
    have hf : gft p A k = A.filter (fun z => decide (z ≠ p)) := by
      unfold gft
      rw [List.take_of_length_le (by omega)]
    refine ⟨s', e1, fun a j hj => e2 a j (fun c => hj ⟨c.1, c.2.elim Or.inl (fun z => Or.inr ⟨by omega, z.2⟩)⟩), ?_, ?_, fun j z hj => ?_⟩
    · rw [e3, hf]
    · exact Nat.le_trans (List.length_filter_le _ _) hA
    · rw [← hf] at hj
      have hlt := (List.getElem?_eq_some_iff.mp hj).1
      rw [e2 (m + 1) (row + j) (fun c => by omega)]
      exact h1 j z hj
  | succ d ih =>
    intro k n s hk hn h3 h1 h2
    obtain ⟨n, rfl⟩ : ∃ z, n = z + 1 := ⟨n - 1, by omega⟩
    have hkA : k < A.length := by omega
    have hle := gft_le p A k
    have hz := hA2 A[k] (List.getElem_mem hkA)
    have hv : s (m + 1) (row + k) = nI A[k] := h2 k A[k] (Nat.le_refl _) (List.getElem?_eq_getElem hkA)
    simp only [F_X11_goOut_6, F_X11_goOut_54, gw_let]
    rw [if_pos (of_eq_true (ckN (by omega) (by omega))), nI_clamp (by omega), h3, if_neg (nI_ge (by omega) (by omega)), nI_add, if_pos (of_eq_true (ckN (by omega) (by omega))), nI_clamp (by omega), hv]
    have hs := gft_s (p := p) (A := A) hkA
    by_cases hpk : A[k] = p
    · rw [if_neg (not_not_intro (by rw [hpk])), nI_1]
      rw [if_neg (not_not_intro hpk)] at hs
      have := ih (k + 1) n s (by omega) (by omega) h3 (by rw [hs]; exact h1) (fun j z hj => h2 j z (by omega))
      rw [hs] at this
      exact this
    · rw [if_pos (fun c => hpk (nI_inj (by omega) (by omega) c))]
      rw [if_pos hpk] at hs
      rw [if_pos ⟨nI_pos' (by omega), by omega⟩, nI_add, nI_1, nI_1, if_pos (of_eq_true (ckN (by omega) (by omega))), nI_clamp (by omega)]
      have := ih (k + 1) n (gw_up s (m + 1) (row + (gft p A k).length) (nI A[k])) (by omega) (by omega) (by rw [up_at, if_neg (by omega)]; exact h3) (fun j z hj => ?_) (fun j z hj hjz => ?_)
      · rw [hs, List.length_append] at this
        obtain ⟨s', e1, e2, e3⟩ := this
        refine ⟨s', e1, fun a j hj => ?_, e3⟩
        rw [e2 a j hj, up_at, if_neg]
        rintro ⟨rfl, rfl⟩
        exact hj ⟨rfl, Or.inr ⟨by omega, by omega⟩⟩
      · rw [hs] at hj
        rw [up_at]
        by_cases hjq : j = (gft p A k).length
        · subst hjq
          rw [if_pos ⟨rfl, rfl⟩]
          rw [List.getElem?_append_right (Nat.le_refl _)] at hj
          simp only [Nat.sub_self, List.getElem?_cons_zero, Option.some.injEq] at hj
          rw [hj]
        · rw [if_neg (by omega)]
          have hlt := (List.getElem?_eq_some_iff.mp hj).1
          rw [List.length_append] at hlt
          simp only [List.length_cons, List.length_nil] at hlt
          rw [List.getElem?_append_left (by omega)] at hj
          exact h1 j z hj
      · rw [up_at, if_neg (by omega)]
        exact h2 j z (by omega) hjz
theorem m_goOut {s : gw_M} (hn0 : 1000 ≤ n0) (hr : row + 16 ≤ 993) (hc : cnt < 993) (hcr : cnt < row ∨ row + 16 ≤ cnt) (hp : p < 16) (hA2 : ∀ z ∈ A, z < 16) (h : lst (s (m + 1)) row cnt A) : ∃ s', F_X11_goOut n0 m (nI row) (nI cnt) (nI p) s = some s' ∧ onl m row cnt s s' ∧ lst (s' (m + 1)) row cnt (A.filter (fun z => decide (z ≠ p))) := by
  have := m_goOut1 (n0 := n0) (m := m) (p := p) hr hc hcr hp h.2.1 hA2 hn0 A.length 0 n0 s (by omega) (by have := h.2.1; omega) h.1 (fun j z hj => by simp [gft] at hj) (fun j z _ hj => h.2.2 j z hj)
  exact this
theorem m_comeLast {s : gw_M} (hr : row + 16 ≤ 993) (hc : cnt < 993) (hcr : cnt < row ∨ row + 16 ≤ cnt) (h : lst (s (m + 1)) row cnt A) (hl : A.length < 16) : ∃ s', F_X11_comeLast n0 m (nI row) (nI cnt) (nI p) s = some s' ∧ onl m row cnt s s' ∧ lst (s' (m + 1)) row cnt (A ++ [p]) := by
  simp only [F_X11_comeLast, gw_let]
  rw [if_pos (of_eq_true (ckN (by omega) (by omega))), nI_clamp (by omega), h.1, nI_add, if_pos (of_eq_true (ckN (by omega) (by omega))), nI_clamp (by omega), if_pos ⟨nI_pos' (by omega), by omega⟩, if_pos ⟨nI_pos' (by omega), by omega⟩]
  refine ⟨_, rfl, fun a j hj => ?_, ?_, by rw [List.length_append]; exact hl, fun k z hk => ?_⟩
  · rw [up_at, if_neg, up_at, if_neg]
    · rintro ⟨rfl, rfl⟩
      exact hj ⟨rfl, Or.inr ⟨by omega, by omega⟩⟩
    · rintro ⟨rfl, rfl⟩
      exact hj ⟨rfl, Or.inl rfl⟩
  · rw [up_at, if_pos ⟨rfl, rfl⟩, up_at, if_neg (by omega), h.1, nI_1, List.length_append]
    rfl
  · rw [up_at, if_neg, up_at]
    · by_cases hk2 : k = A.length
      · subst hk2
        rw [if_pos ⟨rfl, rfl⟩]
        rw [List.getElem?_append_right (Nat.le_refl _)] at hk
        simp only [Nat.sub_self, List.getElem?_cons_zero, Option.some.injEq] at hk
        rw [hk]
      · have hlt := (List.getElem?_eq_some_iff.mp hk).1
        rw [List.length_append] at hlt
        simp only [List.length_cons, List.length_nil] at hlt
        rw [if_neg (by omega)]
        rw [List.getElem?_append_left (by omega)] at hk
        exact h.2.2 k z hk
    · have hlt := (List.getElem?_eq_some_iff.mp hk).1
      rw [List.length_append] at hlt
      simp only [List.length_cons, List.length_nil] at hlt
      omega
end GOOUT
