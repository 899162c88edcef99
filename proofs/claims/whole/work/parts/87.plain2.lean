/-! ===== a plain machine: the relation, and one turn ===== -/
def PL (e m h c : Nat) (μ s : gw_M) : Prop :=
  (c ≤ 24 ∧ μ (e + 3) 3 = nI c ∧ s (m + 1) (64 + 162 * (1 + h)) = nI c) ∧
  (∀ k, k < c → μ (e + 4) k = s (m + 1) (65 + 162 * (1 + h) + 3 * k) ∧ μ (e + 5) k = s (m + 1) (66 + 162 * (1 + h) + 3 * k) ∧ μ (e + 6) k = s (m + 1) (67 + 162 * (1 + h) + 3 * k) ∧ gq_act (1 + h) (μ (e + 4) k) (μ (e + 5) k) (μ (e + 6) k)) ∧
  μ (e + 1) 3 = s (m + 1) (363 + 162 * h) ∧
  (∃ p, (p < c ∨ p = 0) ∧ μ (e + 3) 4 = nI p ∧ s m 7 = nI p) ∧
  (μ (e + 1) 4 = s m 8 ∧ (s m 8 = -1 ∨ ∃ q, q ≤ 15 ∧ s m 8 = nI q)) ∧
  μ (e + 1) 5 = s m 9 ∧
  (∀ p, p < 16 → μ (e + 9) p = s (m + 5) (2 * p) ∧ μ (e + 10) p = s (m + 5) (2 * p + 1) ∧ (s (m + 5) (2 * p) = -1 → s (m + 5) (2 * p + 1) = 0) ∧ (s (m + 5) (2 * p) = -1 ∨ ∃ q, q ≤ 15 ∧ s (m + 5) (2 * p) = nI q)) ∧
  (∀ p, p < 16 → μ (e + 16) p = s (m + 4) p) ∧
  μ e 2 = s m 5 ∧ μ e 3 = s m 6
section PLAIN2
variable {e m n h c : Nat} {μ s μ' s' : gw_M}
/-- what no turn changes -/
theorem PL_mk (hP : PL e m h c μ s) (hc : ∀ x y, (x = e + 3 ∧ y = 3) ∨ (e + 4 ≤ x ∧ x ≤ e + 6) ∨ (x = e + 1 ∧ y = 3) → μ' x y = μ x y) (hs : ∀ y, s' (m + 1) y = s (m + 1) y)
    (h3 : ∃ p, (p < c ∨ p = 0) ∧ μ' (e + 3) 4 = nI p ∧ s' m 7 = nI p)
    (h4 : μ' (e + 1) 4 = s' m 8 ∧ (s' m 8 = -1 ∨ ∃ q, q ≤ 15 ∧ s' m 8 = nI q))
    (h5 : μ' (e + 1) 5 = s' m 9)
    (h6 : ∀ p, p < 16 → μ' (e + 9) p = s' (m + 5) (2 * p) ∧ μ' (e + 10) p = s' (m + 5) (2 * p + 1) ∧ (s' (m + 5) (2 * p) = -1 → s' (m + 5) (2 * p + 1) = 0) ∧ (s' (m + 5) (2 * p) = -1 ∨ ∃ q, q ≤ 15 ∧ s' (m + 5) (2 * p) = nI q))
    (h7 : ∀ p, p < 16 → μ' (e + 16) p = s' (m + 4) p) (h8 : μ' e 2 = s' m 5) (h9 : μ' e 3 = s' m 6) : PL e m h c μ' s' := by
  obtain ⟨⟨a1, a2, a3⟩, b1, b2, -⟩ := hP
  refine ⟨⟨a1, by rw [hc _ _ (by omega)]; exact a2, by rw [hs]; exact a3⟩, fun k hk => ?_, by rw [hc _ _ (by omega), hs]; exact b2, h3, h4, h5, h6, h7, h8, h9⟩
  rw [hc (e + 4) k (by omega), hc (e + 5) k (by omega), hc (e + 6) k (by omega), hs, hs, hs]
  exact b1 k hk
theorem PL_place (hP : PL e m h c μ s) {p : Nat} (hp : p < c ∨ p = 0) : PL e m h c (gw_up μ (e + 3) 4 (nI p)) (gw_up s m 7 (nI p)) := by
  obtain ⟨h1, h2, h2', h3, h4, h5, h6, h7, h8, h9⟩ := id hP
  refine PL_mk hP (fun x y hx => up_ne (by omega)) (fun y => up_ne (by omega)) ⟨p, hp, up_eq ⟨rfl, rfl⟩, up_eq ⟨rfl, rfl⟩⟩ ?_ ?_ (fun q hq => ?_) (fun q hq => ?_) ?_ ?_
  · rw [up_ne (by omega), up_ne (by omega)]; exact h4
  · rw [up_ne (by omega), up_ne (by omega)]; exact h5
  · rw [up_ne (by omega), up_ne (by omega), up_ne (by omega), up_ne (by omega)]; exact h6 q hq
  · rw [up_ne (by omega), up_ne (by omega)]; exact h7 q hq
  · rw [up_ne (by omega), up_ne (by omega)]; exact h8
  · rw [up_ne (by omega), up_ne (by omega)]; exact h9
theorem PL_page (hP : PL e m h c μ s) {p : Nat} (hp : p ≤ 15) : PL e m h c (gw_up μ (e + 1) 4 (nI p)) (gw_up s m 8 (nI p)) := by
  obtain ⟨h1, h2, h2', h3, h4, h5, h6, h7, h8, h9⟩ := id hP
  refine PL_mk hP (fun x y hx => up_ne (by omega)) (fun y => up_ne (by omega)) ?_ ⟨by rw [up_eq ⟨rfl, rfl⟩, up_eq ⟨rfl, rfl⟩], Or.inr ⟨p, hp, up_eq ⟨rfl, rfl⟩⟩⟩ ?_ (fun q hq => ?_) (fun q hq => ?_) ?_ ?_
  · rw [up_ne (by omega), up_ne (by omega)]; exact h3
  · rw [up_ne (by omega), up_ne (by omega)]; exact h5
  · rw [up_ne (by omega), up_ne (by omega), up_ne (by omega), up_ne (by omega)]; exact h6 q hq
  · rw [up_ne (by omega), up_ne (by omega)]; exact h7 q hq
  · rw [up_ne (by omega), up_ne (by omega)]; exact h8
  · rw [up_ne (by omega), up_ne (by omega)]; exact h9
theorem PL_back (hP : PL e m h c μ s) (v : Int32) : PL e m h c (gw_up μ (e + 1) 5 v) (gw_up s m 9 v) := by
  obtain ⟨h1, h2, h2', h3, h4, h5, h6, h7, h8, h9⟩ := id hP
  refine PL_mk hP (fun x y hx => up_ne (by omega)) (fun y => up_ne (by omega)) ?_ ?_ (by rw [up_eq ⟨rfl, rfl⟩, up_eq ⟨rfl, rfl⟩]) (fun q hq => ?_) (fun q hq => ?_) ?_ ?_
  · rw [up_ne (by omega), up_ne (by omega)]; exact h3
  · rw [up_ne (by omega), up_ne (by omega)]; exact h4
  · rw [up_ne (by omega), up_ne (by omega), up_ne (by omega), up_ne (by omega)]; exact h6 q hq
  · rw [up_ne (by omega), up_ne (by omega)]; exact h7 q hq
  · rw [up_ne (by omega), up_ne (by omega)]; exact h8
  · rw [up_ne (by omega), up_ne (by omega)]; exact h9
theorem PL_cnt (hP : PL e m h c μ s) (v : Int32) : PL e m h c (gw_up μ e 2 v) (gw_up s m 5 v) := by
  obtain ⟨h1, h2, h2', h3, h4, h5, h6, h7, h8, h9⟩ := id hP
  refine PL_mk hP (fun x y hx => up_ne (by omega)) (fun y => up_ne (by omega)) ?_ ?_ ?_ (fun q hq => ?_) (fun q hq => ?_) (by rw [up_eq ⟨rfl, rfl⟩, up_eq ⟨rfl, rfl⟩]) ?_
  · rw [up_ne (by omega), up_ne (by omega)]; exact h3
  · rw [up_ne (by omega), up_ne (by omega)]; exact h4
  · rw [up_ne (by omega), up_ne (by omega)]; exact h5
  · rw [up_ne (by omega), up_ne (by omega), up_ne (by omega), up_ne (by omega)]; exact h6 q hq
  · rw [up_ne (by omega), up_ne (by omega)]; exact h7 q hq
  · rw [up_ne (by omega), up_ne (by omega)]; exact h9
theorem PL_hear (hP : PL e m h c μ s) (v : Int32) : PL e m h c (gw_up μ e 3 v) (gw_up s m 6 v) := by
  obtain ⟨h1, h2, h2', h3, h4, h5, h6, h7, h8, h9⟩ := id hP
  refine PL_mk hP (fun x y hx => up_ne (by omega)) (fun y => up_ne (by omega)) ?_ ?_ ?_ (fun q hq => ?_) (fun q hq => ?_) ?_ (by rw [up_eq ⟨rfl, rfl⟩, up_eq ⟨rfl, rfl⟩])
  · rw [up_ne (by omega), up_ne (by omega)]; exact h3
  · rw [up_ne (by omega), up_ne (by omega)]; exact h4
  · rw [up_ne (by omega), up_ne (by omega)]; exact h5
  · rw [up_ne (by omega), up_ne (by omega), up_ne (by omega), up_ne (by omega)]; exact h6 q hq
  · rw [up_ne (by omega), up_ne (by omega)]; exact h7 q hq
  · rw [up_ne (by omega), up_ne (by omega)]; exact h8
theorem PL_val (hP : PL e m h c μ s) {p : Nat} (v : Int32) : PL e m h c (gw_up μ (e + 16) p v) (gw_up s (m + 4) p v) := by
  obtain ⟨h1, h2, h2', h3, h4, h5, h6, h7, h8, h9⟩ := id hP
  refine PL_mk hP (fun x y hx => up_ne (by omega)) (fun y => up_ne (by omega)) ?_ ?_ ?_ (fun q hq => ?_) (fun q hq => ?_) ?_ ?_
  · rw [up_ne (by omega), up_ne (by omega)]; exact h3
  · rw [up_ne (by omega), up_ne (by omega)]; exact h4
  · rw [up_ne (by omega), up_ne (by omega)]; exact h5
  · rw [up_ne (by omega), up_ne (by omega), up_ne (by omega), up_ne (by omega)]; exact h6 q hq
  · by_cases hqp : q = p
    · rw [up_eq ⟨rfl, hqp⟩, up_eq ⟨rfl, hqp⟩]
    · rw [up_ne (by omega), up_ne (by omega)]; exact h7 q hq
  · rw [up_ne (by omega), up_ne (by omega)]; exact h8
  · rw [up_ne (by omega), up_ne (by omega)]; exact h9
end PLAIN2
