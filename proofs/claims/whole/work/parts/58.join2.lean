/-! ===== joined, all ===== -/
def lk (e F o : Nat) (μ : gw_M) : Bool := led (μ (e + 3)) F && (led (μ (e + 3)) o && decide (μ (e + 6) F = μ (e + 6) o))
theorem low_all {P : Nat → Bool} : ∀ d k, (∀ f, k ≤ f → f < k + d → P f = true) → low P k d = -1 := by
  intro d
  induction d with
  | zero => intro k _; rfl
  | succ d ih =>
    intro k h
    unfold low
    rw [if_pos (h k (by omega) (by omega))]
    exact ih (k + 1) (fun f h1 h2 => h f (by omega) (by omega))
theorem low_at {P : Nat → Bool} {o : Nat} (ho : P o = false) : ∀ d k, k ≤ o → o < k + d → (∀ f, k ≤ f → f < o → P f = true) → low P k d = nI o := by
  intro d
  induction d with
  | zero => intro k h1 h2; omega
  | succ d ih =>
    intro k h1 h2 h
    unfold low
    by_cases hk : k = o
    · subst hk
      rw [ho, if_neg Bool.false_ne_true]
    · rw [if_pos (h k (by omega) (by omega))]
      exact ih (k + 1) (by omega) (by omega) (fun f h3 h4 => h f (by omega) h4)
section JOIN2
variable {b e m n h : Nat} {K N : gw_M} {L3 L2 L : List Nat} {μ s : gw_M}
theorem c_like (hn : 1000 ≤ n) (hG : G b e m K N L3 L2 μ s) {F o : Nat} (hF : F ≤ 9) (ho : o ≤ 9) : F_X4_areLike n (e + 1) (nI F) (nI o) μ = some (if lk e F o μ then 1 else 0) := by
  obtain ⟨y, y1, y2⟩ := c_led (n := n) hn (G_ht hG)
  have c1 : 0 ≤ nI F ∧ F < 10 := ⟨nI_pos' (by omega), by omega⟩
  have c2 : 0 ≤ nI o ∧ o < 10 := ⟨nI_pos' (by omega), by omega⟩
  simp only [F_X4_areLike, F_X4_areLike_40, y1, Option.bind_some, c_has n _ (show F < 32 by omega), c_has n _ (show o < 32 by omega), y2 F (by omega), y2 o (by omega), nI_clamp (show F < 2 ^ 31 by omega), nI_clamp (show o < 2 ^ 31 by omega), if_pos c1, if_pos c2, Nat.add_assoc, Nat.reduceAdd]
  rw [show lk e F o μ = (led (μ (e + 3)) F && (led (μ (e + 3)) o && decide (μ (e + 6) F = μ (e + 6) o))) from rfl]
  cases led (μ (e + 3)) F <;> cases led (μ (e + 3)) o <;> simp
  split <;> rfl
theorem m_lead0 (hn : 1000 ≤ n) (hG : G b e m K N L3 L2 μ s) {f : Nat} : ∃ y, F_X11_leadTo n m (nI f) s = some y ∧ (y = 0 ↔ led (μ (e + 3)) f = false) := by
  obtain ⟨y, y1, y2⟩ := m_leadTo (n := n) (m := m) (s := s) hn (nI f)
  refine ⟨y, y1, ?_, ?_⟩
  · rintro rfl
    cases hc : led (μ (e + 3)) f
    · rfl
    · obtain ⟨p, hp, h1⟩ := led_true.mp hc
      have := y2 p (by omega)
      rw [b_0, G_rd hG (gd_t2 p hp).1, h1] at this
      simp [hp] at this
  · intro hc
    apply b_ext
    intro i hi
    rw [y2 i hi, b_0]
    by_cases hi16 : i < 16
    · have : ¬ s (m + 1) (706 + 2 * i) = nI f := by
        rw [G_rd hG (gd_t2 i hi16).1]
        intro c
        have := led_true.mpr ⟨i, hi16, c⟩
        rw [hc] at this
        cases this
      simp [this]
    · simp [hi16]
theorem m_like14 (hn : 1000 ≤ n) (hG : G b e m K N L3 L2 μ s) {F : Nat} (hF : F ≤ 9) (hled : led (μ (e + 3)) F = true) : ∀ (d o f : Nat), o + d = 10 → d < f → F_X11_likeOf_14 n m f (nI F) (nI o) s = some (low (fun o => !lk e F o μ) o d) := by
  intro d
  induction d with
  | zero =>
    intro o f ho hf
    obtain ⟨f, rfl⟩ : ∃ z, f = z + 1 := ⟨f - 1, by omega⟩
    have : o = 10 := by omega
    subst this
    rw [F_X11_likeOf_14, if_pos (by decide)]
    rfl
  | succ d ih =>
    intro o f ho hf
    obtain ⟨f, rfl⟩ : ∃ z, f = z + 1 := ⟨f - 1, by omega⟩
    obtain ⟨y, y1, y2⟩ := m_lead0 (n := n) hn hG (f := o)
    have c1 : 0 ≤ nI (802 + F) ∧ 802 + F < 20813 := ⟨nI_pos' (by omega), by omega⟩
    have c2 : 0 ≤ nI (802 + o) ∧ 802 + o < 20813 := ⟨nI_pos' (by omega), by omega⟩
    rw [F_X11_likeOf_14, if_neg (by rw [show (10 : Int32) = nI 10 from rfl]; exact nI_ge (by omega) (by omega))]
    simp only [y1, Option.bind_some, F_X11_likeOf_53, gw_let, nI_1, ih (o + 1) f (by omega) (by omega), show (802 : Int32) = nI 802 from rfl, nI_add, nI_clamp (show 802 + F < 2 ^ 31 by omega), nI_clamp (show 802 + o < 2 ^ 31 by omega), if_pos c1, if_pos c2, G_rd hG (gd_fr F (by omega)).1, G_rd hG (gd_fr o (by omega)).1]
    rw [show low (fun o => !lk e F o μ) o (d + 1) = if (!lk e F o μ) = true then low (fun o => !lk e F o μ) (o + 1) d else nI o from rfl]
    have hl : lk e F o μ = (led (μ (e + 3)) o && decide (μ (e + 6) F = μ (e + 6) o)) := by
      unfold lk
      rw [hled, Bool.true_and]
    rw [hl]
    cases hc : led (μ (e + 3)) o
    · rw [if_pos (y2.mpr hc)]
      rfl
    · rw [if_neg (fun c => by rw [y2.mp c] at hc; cases hc), Bool.true_and]
      by_cases hv : μ (e + 6) o = μ (e + 6) F
      · rw [if_neg (not_not_intro hv), decide_eq_true hv.symm]
        rfl
      · rw [if_pos hv, decide_eq_false (fun c => hv c.symm)]
        rfl
theorem m_likeOf (hn : 1000 ≤ n) (hG : G b e m K N L3 L2 μ s) {F : Nat} (hF : F ≤ 9) : F_X11_likeOf n m (nI F) s = some (low (fun o => !lk e F o μ) (F + 1) (9 - F)) := by
  obtain ⟨y, y1, y2⟩ := m_lead0 (n := n) hn hG (f := F)
  simp only [F_X11_likeOf, y1, Option.bind_some, gw_let, nI_1]
  cases hc : led (μ (e + 3)) F
  · rw [if_neg (not_not_intro (y2.mpr hc)), low_all]
    intro f _ _
    show (!lk e F f μ) = true
    unfold lk
    rw [hc]
    rfl
  · rw [if_pos (fun c => by rw [y2.mp c] at hc; cases hc)]
    exact m_like14 hn hG hF hc (9 - F) (F + 1) n (by omega) (by omega)
theorem led_fj {F O f : Nat} (hF : F ≤ 9) (hO : O ≤ 9) (hFO : F ≠ O) (hf : f ≤ 9) {ν ν' : Nat → Int32} (h : ∀ j, j < 16 → ν' j = fj (nI F) (nI O) (ν j)) : led ν' f = if f = O then false else if f = F then (led ν F || led ν O) else led ν f := by
  have key : ∀ p, p < 16 → (ν' p = nI f ↔ (f ≠ O ∧ (ν p = nI f ∨ (f = F ∧ ν p = nI O)))) := by
    intro p hp
    rw [h p hp]
    unfold fj
    by_cases c : ν p = nI O
    · rw [if_pos c, c, nI_eqT (by omega) (by omega), nI_eqT (by omega) (by omega)]
      constructor
      · intro d
        exact ⟨by omega, Or.inr ⟨d.symm, rfl⟩⟩
      · rintro ⟨d1, d2 | ⟨d2, -⟩⟩
        · omega
        · exact d2.symm
    · rw [if_neg c]
      constructor
      · intro d
        refine ⟨?_, Or.inl d⟩
        rintro rfl
        exact c d
      · rintro ⟨d1, d2 | ⟨-, d2⟩⟩
        · exact d2
        · exact absurd d2 c
  rw [Bool.eq_iff_iff, led_true]
  by_cases c1 : f = O
  · rw [if_pos c1]
    constructor
    · rintro ⟨p, hp, q⟩
      exact absurd c1 ((key p hp).mp q).1
    · intro c
      cases c
  · rw [if_neg c1]
    by_cases c2 : f = F
    · subst c2
      rw [if_pos rfl, Bool.or_eq_true, led_true, led_true]
      constructor
      · rintro ⟨p, hp, q⟩
        rcases ((key p hp).mp q).2 with d | ⟨-, d⟩
        · exact Or.inl ⟨p, hp, d⟩
        · exact Or.inr ⟨p, hp, d⟩
      · rintro (⟨p, hp, d⟩ | ⟨p, hp, d⟩)
        · exact ⟨p, hp, (key p hp).mpr ⟨c1, Or.inl d⟩⟩
        · exact ⟨p, hp, (key p hp).mpr ⟨c1, Or.inr ⟨rfl, d⟩⟩⟩
    · rw [if_neg c2, led_true]
      constructor
      · rintro ⟨p, hp, q⟩
        rcases ((key p hp).mp q).2 with d | ⟨d, -⟩
        · exact ⟨p, hp, d⟩
        · exact absurd d c2
      · rintro ⟨p, hp, d⟩
        exact ⟨p, hp, (key p hp).mpr ⟨c1, Or.inl d⟩⟩
theorem sim_j14 (hn : 1000 ≤ n) {F : Nat} (hF : F ≤ 9) (rc : Int32 → Int32 → gw_M → Option (Int32 × gw_M)) (rm : Int32 → Int32 → gw_M → Option (Int32 × gw_M)) : ∀ (d o f1 f2 : Nat) (v : Int32) (μ s : gw_M), o + d = 10 → F < o → d < f1 → d < f2 → Gs b e m K N μ s → (∀ o', F < o' → o' < o → lk e F o' μ = false) → ∃ v' μ' s', F_X3_joinFrames_14 rc n e f1 v (nI F) (nI o) μ = rc v' (nI (F + 1)) μ' ∧ F_X11_join_14 rm n m f2 v (nI F) s = rm v' (nI (F + 1)) s' ∧ Gs b e m K N μ' s' ∧ ∀ j, μ' e j = μ e j := by
  intro d
  induction d with
  | zero =>
    intro o f1 f2 v μ s ho hFo hf1 hf2 hGs hno
    obtain ⟨L3, L2, hG⟩ := hGs
    obtain ⟨f1, rfl⟩ : ∃ z, f1 = z + 1 := ⟨f1 - 1, by omega⟩
    obtain ⟨f2, rfl⟩ : ∃ z, f2 = z + 1 := ⟨f2 - 1, by omega⟩
    have : o = 10 := by omega
    subst this
    have hl := m_likeOf (n := n) hn hG hF
    rw [low_all (9 - F) (F + 1) (fun f h1 h2 => by
      show (!lk e F f μ) = true
      rw [hno f (by omega) (by omega)]
      rfl)] at hl
    refine ⟨v, μ, s, ?_, ?_, ⟨L3, L2, hG⟩, fun _ => rfl⟩
    · rw [F_X3_joinFrames_14, if_pos (by decide)]
      simp only [gw_let, nI_1]
    · rw [F_X11_join_14, hl, Option.bind_some, if_pos rfl]
      simp only [gw_let, nI_1]
  | succ d ih =>
    intro o f1 f2 v μ s ho hFo hf1 hf2 hGs hno
    obtain ⟨L3, L2, hG⟩ := hGs
    obtain ⟨f1, rfl⟩ : ∃ z, f1 = z + 1 := ⟨f1 - 1, by omega⟩
    have hs : F_X3_joinFrames_14 rc n e (f1 + 1) v (nI F) (nI o) μ = (if (if lk e F o μ then (1 : Int32) else 0) = 0 then F_X3_joinFrames_14 rc n e f1 v (nI F) (nI (o + 1)) μ else (gw_bi (F_X4_merge n (e + 1) (nI F) (nI o) μ) (fun (r_8 : Int32) (μ_9 : gw_M) => (F_X3_unfold n e r_8 μ_9).bind (fun (μ_13 : gw_M) => F_X3_joinFrames_14 rc n e f1 (v + 1) (nI F) (nI (o + 1)) μ_13)))) := by
      rw [F_X3_joinFrames_14, if_neg (by rw [show (10 : Int32) = nI 10 from rfl]; exact nI_ge (by omega) (by omega)), c_like hn hG hF (by omega), Option.bind_some]
      simp only [F_X3_joinFrames_48, gw_let, nI_1]
    rw [hs]
    cases hlk : lk e F o μ
    · rw [if_neg Bool.false_ne_true, if_pos rfl]
      refine ih (o + 1) f1 f2 v μ s (by omega) (by omega) (by omega) (by omega) ⟨L3, L2, hG⟩ (fun o' h1 h2 => ?_)
      by_cases hoo : o' = o
      · subst hoo; exact hlk
      · exact hno o' h1 (by omega)
    · rw [if_pos rfl, if_neg (show ¬ (1 : Int32) = 0 by decide)]
      obtain ⟨f2, rfl⟩ : ∃ z, f2 = z + 1 := ⟨f2 - 1, by omega⟩
      obtain ⟨y, μ1, μ2, s2, k1, k2, k3, k4, k5, k6, k7⟩ := sim_join1 (n := n) hn hG hF (show o ≤ 9 by omega) (by omega)
      have hl := m_likeOf (n := n) hn hG hF
      rw [low_at (o := o) (by show (!lk e F o μ) = false; rw [hlk]; rfl) (9 - F) (F + 1) (by omega) (by omega) (fun f h1 h2 => by
        show (!lk e F f μ) = true
        rw [hno f (by omega) (by omega)]
        rfl)] at hl
      have hlF : led (μ (e + 3)) F = true := by
        unfold lk at hlk
        cases hc : led (μ (e + 3)) F
        · rw [hc] at hlk; cases hlk
        · rfl
      obtain ⟨v', μ', s', z1, z2, z3, z4⟩ := ih (o + 1) f1 f2 (v + 1) μ2 s2 (by omega) (by omega) (by omega) (by omega) k4 (fun o' h1 h2 => by
        unfold lk
        rw [led_fj hF (show o ≤ 9 by omega) (by omega) (show o' ≤ 9 by omega) k5, k6, k6]
        by_cases hoo : o' = o
        · rw [if_pos hoo]
          simp
        · rw [if_neg hoo, if_neg (by omega)]
          have := hno o' h1 (by omega)
          unfold lk at this
          rw [hlF, Bool.true_and] at this
          rw [this, Bool.and_false])
      refine ⟨v', μ', s', ?_, ?_, z3, fun j => by rw [z4, k7]⟩
      · rw [k1, bi_some, k2, Option.bind_some]
        exact z1
      · rw [F_X11_join_14, hl, Option.bind_some, if_neg (by rw [nI_m1 (by omega)]; exact id), Option.bind_some, k3, Option.bind_some]
        simp only [gw_let]
        exact z2
theorem sim_j4 (hn : 1000 ≤ n) : ∀ (d F f1 f2 : Nat) (v : Int32) (μ s : gw_M), F + d = 10 → d < f1 → d < f2 → Gs b e m K N μ s → ∃ v' μ' s', F_X3_joinFrames_4 n e f1 v (nI F) μ = some (v', μ') ∧ F_X11_join_8 n m f2 v (nI F) s = (F_X11_dealOut n m s').bind (fun (μ_3 : gw_M) => some (v', μ_3)) ∧ Gs b e m K N μ' s' ∧ ∀ j, μ' e j = μ e j := by
  intro d
  induction d with
  | zero =>
    intro F f1 f2 v μ s hF hf1 hf2 hG
    obtain ⟨f1, rfl⟩ : ∃ z, f1 = z + 1 := ⟨f1 - 1, by omega⟩
    obtain ⟨f2, rfl⟩ : ∃ z, f2 = z + 1 := ⟨f2 - 1, by omega⟩
    have : F = 10 := by omega
    subst this
    refine ⟨v, μ, s, ?_, ?_, hG, fun _ => rfl⟩
    · rw [F_X3_joinFrames_4, if_pos (by decide)]
    · rw [F_X11_join_8, if_pos (by decide)]
  | succ d ih =>
    intro F f1 f2 v μ s hF hf1 hf2 hG
    obtain ⟨f1, rfl⟩ : ∃ z, f1 = z + 1 := ⟨f1 - 1, by omega⟩
    obtain ⟨f2, rfl⟩ : ∃ z, f2 = z + 1 := ⟨f2 - 1, by omega⟩
    obtain ⟨v1, μ1, s1, a1, a2, a3, a4⟩ := sim_j14 (n := n) hn (show F ≤ 9 by omega) (F_X3_joinFrames_4 n e f1) (F_X11_join_8 n m f2) (9 - F) (F + 1) n n v μ s (by omega) (by omega) (by omega) (by omega) hG (fun o' h1 h2 => by omega)
    obtain ⟨v', μ', s', z1, z2, z3, z4⟩ := ih (F + 1) f1 f2 v1 μ1 s1 (by omega) (by omega) (by omega) a3
    refine ⟨v', μ', s', ?_, ?_, z3, fun j => by rw [z4, a4]⟩
    · rw [F_X3_joinFrames_4, if_neg (by rw [show (10 : Int32) = nI 10 from rfl]; exact nI_ge (by omega) (by omega))]
      simp only [gw_let, nI_1]
      rw [a1]; exact z1
    · rw [F_X11_join_8, if_neg (by rw [show (10 : Int32) = nI 10 from rfl]; exact nI_ge (by omega) (by omega)), a2]
      exact z2
/-! folded ahead -/
def LZ (h : Nat) (ν : Nat → Int32) (p : Nat) : Bool := decide (ν (754 + 2 * p) = -1) && (decide (ν (331 + 162 * h + 2 * p) ≠ -1) && decide (ν (332 + 162 * h + 2 * p) &&& gr_2 ν (ν (331 + 162 * h + 2 * p)).toNatClampNeg ≠ 0))
theorem G_t1 (hG : G b e m K N L3 L2 μ s) (hh : h < 3) {p : Nat} (hp : p < 16) : s (m + 1) (331 + 162 * h + 2 * p) = μ (e + 49 + 15 * h) p ∧ s (m + 1) (332 + 162 * h + 2 * p) = μ (e + 50 + 15 * h) p ∧ (s (m + 1) (331 + 162 * h + 2 * p) = -1 ∨ ∃ q, q ≤ 15 ∧ s (m + 1) (331 + 162 * h + 2 * p) = nI q) := by
  obtain ⟨d1, d2, d3, d4⟩ := gd_e hh (t := 1) (by decide) hp
  rw [show 299 + 162 * h + 32 * 1 + 2 * p = 331 + 162 * h + 2 * p by omega] at d1 d3
  rw [show 300 + 162 * h + 32 * 1 + 2 * p = 332 + 162 * h + 2 * p by omega] at d2 d4
  have r1 := G_rd hG d1
  have r2 := G_rd hG d2
  rw [show e + (45 + 15 * h + 4 * 1) = e + 49 + 15 * h by omega] at r1
  rw [show e + (46 + 15 * h + 4 * 1) = e + 50 + 15 * h by omega] at r2
  refine ⟨r1, r2, ?_⟩
  rcases G_n1 hG d1 (n := 15) d3 with c | ⟨q, hq, -, c⟩
  · exact Or.inl c.2
  · exact Or.inr ⟨q, hq, c⟩
theorem m_lz (hG : G b e m K N L3 L2 μ s) (hh : h < 3) (h5 : μ e 5 = nI h) {p : Nat} (hp : p < 16) : F_X11_isLazy n m (nI p) s = some (if LZ h (s (m + 1)) p then 1 else 0) := by
  have hT := G_q hG 0 (by decide)
  have h15 := G_s15 hG h5
  obtain ⟨-, -, t⟩ := G_t1 hG hh hp
  have to1 : F_X11_toOf n m 1 (nI p) s = some (s (m + 1) (331 + 162 * h + 2 * p)) := by
    have := m_to01 (n := n) (t := 1) hh h15 (by decide) hp
    rw [show 299 + 162 * h + 32 * 1 + 2 * p = 331 + 162 * h + 2 * p by omega] at this
    exact this
  have rt1 : F_X11_rightsOf n m 1 (nI p) s = some (s (m + 1) (332 + 162 * h + 2 * p)) := by
    have := m_rights01 (n := n) hT hh h15 (t := 1) (by decide) hp
    rw [show 300 + 162 * h + 32 * 1 + 2 * p = 332 + 162 * h + 2 * p by omega] at this
    exact this
  simp only [F_X11_isLazy, F_X11_isLazy_42, to1, Option.bind_some, rt1, m_to3 (n := n) (m := m) hp]
  have no : LZ h (s (m + 1)) p = false → some (0 : Int32) = some (if LZ h (s (m + 1)) p then 1 else 0) := by
    intro c
    rw [c]
    rfl
  rcases t with t | ⟨q, hq, t⟩
  · rw [t, if_pos rfl]
    refine no ?_
    unfold LZ
    simp [t]
  · have hne : ¬ nI q = -1 := by rw [nI_m1 (by omega)]; exact id
    rw [t, if_neg hne, m_rights2 hT (show q < 16 by omega), Option.bind_some]
    by_cases hz : s (m + 1) (332 + 162 * h + 2 * p) &&& gr_2 (s (m + 1)) q = 0
    · rw [if_pos hz]
      refine no ?_
      unfold LZ
      rw [t, nI_clamp (show q < 2 ^ 31 by omega), hz]
      simp
    · rw [if_neg hz]
      by_cases h3 : s (m + 1) (754 + 2 * p) = -1
      · rw [if_neg (not_not_intro h3)]
        have : LZ h (s (m + 1)) p = true := by
          unfold LZ
          rw [t, nI_clamp (show q < 2 ^ 31 by omega)]
          simp [h3, hz, hne]
        rw [this]
        rfl
      · rw [if_pos h3]
        refine no ?_
        unfold LZ
        simp [h3]
theorem c_rob (hG : G b e m K N L3 L2 μ s) (hh : h < 3) (h5 : μ e 5 = nI h) {p : Nat} (hp : p < 16) : F_X3_rightsOfBoth n e (nI p) μ = some (if s (m + 1) (331 + 162 * h + 2 * p) = -1 then 0 else s (m + 1) (332 + 162 * h + 2 * p) &&& gr_2 (s (m + 1)) (s (m + 1) (331 + 162 * h + 2 * p)).toNatClampNeg) := by
  obtain ⟨t1, t2, t⟩ := G_t1 hG hh hp
  have hc : 0 ≤ nI p ∧ p < 16 := ⟨nI_pos' (by omega), hp⟩
  simp only [F_X3_rightsOfBoth, c_inHand hh h5, Option.bind_some, c_tabHas hp, nI_clamp (show p < 2 ^ 31 by omega), if_pos hc, show e + 37 + 15 * h + 11 + 1 = e + 49 + 15 * h by omega, show e + 37 + 15 * h + 12 = e + 49 + 15 * h by omega, show e + 37 + 15 * h + 13 = e + 50 + 15 * h by omega, ← t1, ← t2]
  rcases t with t | ⟨q, hq, t⟩
  · rw [t]
    simp
  · have hne : ¬ nI q = -1 := by rw [nI_m1 (by omega)]; exact id
    rw [t, if_neg hne, if_pos (by decide), c_rightsGiven hG (show q < 16 by omega), Option.bind_some, if_neg hne, nI_clamp (show q < 2 ^ 31 by omega)]
theorem c_lz4 (hG : G b e m K N L3 L2 μ s) (hh : h < 3) (h5 : μ e 5 = nI h) : ∀ (d k f : Nat) (x : Int32), k + d = 16 → d < f → ∃ y, F_X3_lazyPages_4 n e f x (nI k) μ = some y ∧ ∀ i, i < 32 → bt y i = (bt x i || (decide (k ≤ i) && (decide (i < 16) && LZ h (s (m + 1)) i))) := by
  intro d
  induction d with
  | zero =>
    intro k f x hk hf
    obtain ⟨f, rfl⟩ : ∃ z, f = z + 1 := ⟨f - 1, by omega⟩
    have : k = 16 := by omega
    subst this
    rw [F_X3_lazyPages_4, if_pos (by decide)]
    refine ⟨x, rfl, fun i hi => ?_⟩
    by_cases h1 : 16 ≤ i
    · simp [Nat.not_lt.mpr h1]
    · simp [h1]
  | succ d ih =>
    intro k f x hk hf
    obtain ⟨f, rfl⟩ : ∃ z, f = z + 1 := ⟨f - 1, by omega⟩
    rw [F_X3_lazyPages_4, if_neg (by rw [show (16 : Int32) = nI 16 from rfl]; exact nI_ge (by omega) (by omega))]
    simp only [c_tabHas (show k < 16 by omega), Option.bind_some, c_rob hG hh h5 (show k < 16 by omega), F_X3_lazyPages_35, gw_let, nI_1]
    have h9 : μ (e + 8 + 1) k = s (m + 1) (754 + 2 * k) := (G_rd hG (gd_t2 k (by omega)).2.2.1).symm
    rw [h9]
    have other : ∀ i, i ≠ k → (decide (k + 1 ≤ i) && (decide (i < 16) && LZ h (s (m + 1)) i)) = (decide (k ≤ i) && (decide (i < 16) && LZ h (s (m + 1)) i)) := by
      intro i hik
      congr 1
      rw [decide_eq_decide]
      omega
    have no : LZ h (s (m + 1)) k = false → ∃ y, F_X3_lazyPages_4 n e f x (nI (k + 1)) μ = some y ∧ ∀ i, i < 32 → bt y i = (bt x i || (decide (k ≤ i) && (decide (i < 16) && LZ h (s (m + 1)) i))) := by
      intro hno
      obtain ⟨y, e1, e2⟩ := ih (k + 1) f x (by omega) (by omega)
      refine ⟨y, e1, fun i hi => ?_⟩
      rw [e2 i hi]
      by_cases hik : i = k
      · subst hik
        have hii : ¬ i + 1 ≤ i := by omega
        simp [hno, hii]
      · rw [other i hik]
    have yes : LZ h (s (m + 1)) k = true → ∃ y, F_X3_lazyPages_4 n e f (x ||| ((1 : Int32) <<< (nI k &&& 31))) (nI (k + 1)) μ = some y ∧ ∀ i, i < 32 → bt y i = (bt x i || (decide (k ≤ i) && (decide (i < 16) && LZ h (s (m + 1)) i))) := by
      intro hyes
      obtain ⟨y, e1, e2⟩ := ih (k + 1) f (x ||| ((1 : Int32) <<< (nI k &&& 31))) (by omega) (by omega)
      refine ⟨y, e1, fun i hi => ?_⟩
      rw [e2 i hi, b_set x (by omega) hi]
      by_cases hik : i = k
      · subst hik
        simp [hyes, show i < 16 by omega]
      · rw [other i hik]
        simp [hik]
    by_cases h3 : s (m + 1) (754 + 2 * k) = -1
    · rw [if_pos h3, if_neg (not_not_intro rfl)]
      by_cases h1 : s (m + 1) (331 + 162 * h + 2 * k) = -1
      · rw [if_pos h1, if_pos rfl]
        refine no ?_
        unfold LZ
        simp [h1]
      · rw [if_neg h1]
        by_cases hz : s (m + 1) (332 + 162 * h + 2 * k) &&& gr_2 (s (m + 1)) (s (m + 1) (331 + 162 * h + 2 * k)).toNatClampNeg = 0
        · rw [if_pos hz]
          refine no ?_
          unfold LZ
          simp [hz]
        · rw [if_neg hz]
          refine yes ?_
          unfold LZ
          simp [h3, h1, hz]
    · rw [if_neg h3, if_pos (by decide)]
      refine no ?_
      unfold LZ
      simp [h3]
theorem c_lazy (hn : 1000 ≤ n) (hG : G b e m K N L3 L2 μ s) (hh : h < 3) (h5 : μ e 5 = nI h) : ∃ y, F_X3_lazyPages n e μ = some y ∧ ∀ i, i < 32 → bt y i = (decide (i < 16) && LZ h (s (m + 1)) i) := by
  obtain ⟨y, e1, e2⟩ := c_lz4 (n := n) hG hh h5 16 0 n 0 rfl (by omega)
  refine ⟨y, e1, fun i hi => ?_⟩
  rw [e2 i hi, b_0]
  simp
end JOIN2
