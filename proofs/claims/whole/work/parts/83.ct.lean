/-! ===== counters of exits and takings never go down (class side) ===== -/
section CTS
def CT (e j : Nat) (μ0 μ : gw_M) : Prop := ∃ a b c, a ≤ j ∧ b ≤ j ∧ c ≤ j ∧ μ (e + 30) 1 = μ0 (e + 30) 1 + nI a ∧ μ (e + 34) 0 = μ0 (e + 34) 0 + nI b ∧ μ (e + 34) 1 = μ0 (e + 34) 1 + nI c
def WQ (R : gw_M → Prop) (X : Option gw_M) : Prop := ∀ μ', X = some μ' → R μ'
def WR (R : gw_M → Prop) (X : Option (Int32 × gw_M)) : Prop := ∀ r μ', X = some (r, μ') → R μ'
theorem CT_le {e j k : Nat} {μ0 μ : gw_M} (h : CT e j μ0 μ) (hk : j ≤ k) : CT e k μ0 μ := by
  obtain ⟨a, b, c, h1, h2, h3, h4⟩ := h
  exact ⟨a, b, c, by omega, by omega, by omega, h4⟩
theorem CT_refl {e : Nat} {μ : gw_M} : CT e 0 μ μ := ⟨0, 0, 0, Nat.le_refl 0, Nat.le_refl 0, Nat.le_refl 0, by rw [show nI 0 = (0 : Int32) from rfl, Int32.add_zero], by rw [show nI 0 = (0 : Int32) from rfl, Int32.add_zero], by rw [show nI 0 = (0 : Int32) from rfl, Int32.add_zero]⟩
theorem ct_up {e j a i : Nat} {v : Int32} {μ0 μ : gw_M} (h : CT e j μ0 μ) (h1 : a ≠ e + 30) (h2 : a ≠ e + 34) : CT e j μ0 (gw_up μ a i v) := by
  obtain ⟨x, y, z, q1, q2, q3, q4, q5, q6⟩ := h
  exact ⟨x, y, z, q1, q2, q3, by rw [up_ne (by omega)]; exact q4, by rw [up_ne (by omega)]; exact q5, by rw [up_ne (by omega)]; exact q6⟩
theorem ct_inc30 {e j i : Nat} {μ0 μ : gw_M} (h : CT e j μ0 μ) : CT e (j + 1) μ0 (gw_up μ (e + 30) i (μ (e + 30) i + 1)) := by
  obtain ⟨x, y, z, q1, q2, q3, q4, q5, q6⟩ := h
  by_cases hi : i = 1
  · subst hi
    exact ⟨x + 1, y, z, by omega, by omega, by omega, by rw [up_eq ⟨rfl, rfl⟩, q4, Int32.add_assoc, nI_1], by rw [up_ne (by omega)]; exact q5, by rw [up_ne (by omega)]; exact q6⟩
  · exact ⟨x, y, z, by omega, by omega, by omega, by rw [up_ne (by omega)]; exact q4, by rw [up_ne (by omega)]; exact q5, by rw [up_ne (by omega)]; exact q6⟩
theorem ct_inc34 {e j i : Nat} {μ0 μ : gw_M} (h : CT e j μ0 μ) : CT e (j + 1) μ0 (gw_up μ (e + 34) i (μ (e + 34) i + 1)) := by
  obtain ⟨x, y, z, q1, q2, q3, q4, q5, q6⟩ := h
  by_cases hi : i = 1
  · subst hi
    exact ⟨x, y, z + 1, by omega, by omega, by omega, by rw [up_ne (by omega)]; exact q4, by rw [up_ne (by omega)]; exact q5, by rw [up_eq ⟨rfl, rfl⟩, q6, Int32.add_assoc, nI_1]⟩
  · by_cases h0 : i = 0
    · subst h0
      exact ⟨x, y + 1, z, by omega, by omega, by omega, by rw [up_ne (by omega)]; exact q4, by rw [up_eq ⟨rfl, rfl⟩, q5, Int32.add_assoc, nI_1], by rw [up_ne (by omega)]; exact q6⟩
    · exact ⟨x, y, z, by omega, by omega, by omega, by rw [up_ne (by omega)]; exact q4, by rw [up_ne (by omega)]; exact q5, by rw [up_ne (by omega)]; exact q6⟩
theorem WQ_none {R : gw_M → Prop} : WQ R none := fun _ h => by cases h
theorem WR_none {R : gw_M → Prop} : WR R none := fun _ _ h => by cases h
theorem WQ_some {R : gw_M → Prop} {μ : gw_M} (h : R μ) : WQ R (some μ) := fun _ e => by cases e; exact h
theorem WR_some {R : gw_M → Prop} {r : Int32} {μ : gw_M} (h : R μ) : WR R (some (r, μ)) := fun _ _ e => by cases e; exact h
theorem WQ_ite {R : gw_M → Prop} {c : Prop} [Decidable c] {X Y : Option gw_M} (h1 : WQ R X) (h2 : WQ R Y) : WQ R (if c then X else Y) := by
  split
  · exact h1
  · exact h2
theorem WR_ite {R : gw_M → Prop} {c : Prop} [Decidable c] {X Y : Option (Int32 × gw_M)} (h1 : WR R X) (h2 : WR R Y) : WR R (if c then X else Y) := by
  split
  · exact h1
  · exact h2
theorem WQ_le {R R' : gw_M → Prop} {X : Option gw_M} (h : WQ R' X) (h2 : ∀ μ, R' μ → R μ) : WQ R X := fun μ e => h2 μ (h μ e)
theorem WR_le {R R' : gw_M → Prop} {X : Option (Int32 × gw_M)} (h : WR R' X) (h2 : ∀ μ, R' μ → R μ) : WR R X := fun r μ e => h2 μ (h r μ e)
theorem WQ_letM {R R' : gw_M → Prop} {v : gw_M} {f : gw_M → Option gw_M} (h : R' v) (h2 : ∀ μ, R' μ → WQ R (f μ)) : WQ R (gw_let v f) := h2 v h
theorem WR_letM {R R' : gw_M → Prop} {v : gw_M} {f : gw_M → Option (Int32 × gw_M)} (h : R' v) (h2 : ∀ μ, R' μ → WR R (f μ)) : WR R (gw_let v f) := h2 v h
theorem WQ_letA {α : Type} {R : gw_M → Prop} {v : α} {f : α → Option gw_M} (h2 : ∀ q, q = v → WQ R (f q)) : WQ R (gw_let v f) := h2 v rfl
theorem WR_letA {α : Type} {R : gw_M → Prop} {v : α} {f : α → Option (Int32 × gw_M)} (h2 : ∀ q, q = v → WR R (f q)) : WR R (gw_let v f) := h2 v rfl
theorem WQ_bindI {α : Type} {R : gw_M → Prop} {X : Option α} {f : α → Option gw_M} (h2 : ∀ q, WQ R (f q)) : WQ R (X.bind f) := by
  cases X with
  | none => exact WQ_none
  | some x => exact h2 x
theorem WR_bindI {α : Type} {R : gw_M → Prop} {X : Option α} {f : α → Option (Int32 × gw_M)} (h2 : ∀ q, WR R (f q)) : WR R (X.bind f) := by
  cases X with
  | none => exact WR_none
  | some x => exact h2 x
theorem WQ_bindN {R : gw_M → Prop} {Z : Nat → Prop} {X : Option Nat} {f : Nat → Option gw_M} (h : ∀ q, X = some q → Z q) (h2 : ∀ q, Z q → WQ R (f q)) : WQ R (X.bind f) := by
  cases X with
  | none => exact WQ_none
  | some x => exact h2 x (h x rfl)
theorem WR_bindN {R : gw_M → Prop} {Z : Nat → Prop} {X : Option Nat} {f : Nat → Option (Int32 × gw_M)} (h : ∀ q, X = some q → Z q) (h2 : ∀ q, Z q → WR R (f q)) : WR R (X.bind f) := by
  cases X with
  | none => exact WR_none
  | some x => exact h2 x (h x rfl)
theorem WQ_bindM {R R' : gw_M → Prop} {X : Option gw_M} {f : gw_M → Option gw_M} (h : WQ R' X) (h2 : ∀ μ, R' μ → WQ R (f μ)) : WQ R (X.bind f) := by
  cases X with
  | none => exact WQ_none
  | some x => exact h2 x (h x rfl)
theorem WR_bindM {R R' : gw_M → Prop} {X : Option gw_M} {f : gw_M → Option (Int32 × gw_M)} (h : WQ R' X) (h2 : ∀ μ, R' μ → WR R (f μ)) : WR R (X.bind f) := by
  cases X with
  | none => exact WR_none
  | some x => exact h2 x (h x rfl)
theorem WQ_bi {R R' : gw_M → Prop} {X : Option (Int32 × gw_M)} {f : Int32 → gw_M → Option gw_M} (h : WR R' X) (h2 : ∀ r μ, R' μ → WQ R (f r μ)) : WQ R (gw_bi X f) := by
  cases X with
  | none => exact WQ_none
  | some x => exact h2 x.1 x.2 (h x.1 x.2 rfl)
theorem WR_bi {R R' : gw_M → Prop} {X : Option (Int32 × gw_M)} {f : Int32 → gw_M → Option (Int32 × gw_M)} (h : WR R' X) (h2 : ∀ r μ, R' μ → WR R (f r μ)) : WR R (gw_bi X f) := by
  cases X with
  | none => exact WR_none
  | some x => exact h2 x.1 x.2 (h x.1 x.2 rfl)
theorem ct_fil {e j a k : Nat} {v : Int32} {μ0 μ : gw_M} (h : CT e j μ0 μ) (h1 : a ≠ e + 30) (h2 : a ≠ e + 34) : CT e j μ0 (gw_fil μ a k v) := by
  obtain ⟨x, y, z, q1, q2, q3, q4, q5, q6⟩ := h
  have ne : ∀ b i, b ≠ a → gw_fil μ a k v b i = μ b i := fun b i hb => if_neg (fun c => hb c.1)
  exact ⟨x, y, z, q1, q2, q3, by rw [ne _ _ (by omega)]; exact q4, by rw [ne _ _ (by omega)]; exact q5, by rw [ne _ _ (by omega)]; exact q6⟩
theorem ct_cpy {e j a b sp dp k : Nat} {μ0 μ : gw_M} (h : CT e j μ0 μ) (h1 : b ≠ e + 30) (h2 : b ≠ e + 34) : CT e j μ0 (gw_cpy μ a b sp dp k) := by
  obtain ⟨x, y, z, q1, q2, q3, q4, q5, q6⟩ := h
  have ne : ∀ c i, c ≠ b → gw_cpy μ a b sp dp k c i = μ c i := fun c i hb => if_neg hb
  exact ⟨x, y, z, q1, q2, q3, by rw [ne _ _ (by omega)]; exact q4, by rw [ne _ _ (by omega)]; exact q5, by rw [ne _ _ (by omega)]; exact q6⟩
theorem nt_X3_inHand {n e r : Nat} {μ : gw_M} (h : F_X3_inHand n e μ = some r) : e + 35 ≤ r := by
  unfold F_X3_inHand gw_let at h
  split at h
  · have := Option.some.inj h
    omega
  · cases h
theorem nt_X3_guest {n e r : Nat} {gu : Int32} {μ : gw_M} (h : F_X3_guest n e gu μ = some r) : r + 15 ≤ e + 30 ∨ e + 35 ≤ r := by
  unfold F_X3_guest gw_let at h
  split at h
  · split at h
    · have := Option.some.inj h
      omega
    · cases h
  · have := Option.some.inj h
    omega

theorem ct_X2_writeExit {e j n : Nat} {μ0 μ : gw_M} {v1 v2 v3 v4 : Int32} (hμ : CT e j μ0 μ)  : WQ (CT e (j + 1) μ0) (F_X2_writeExit n (e + 25) v1 v2 v3 v4 μ) := by
  unfold F_X2_writeExit
  exact WQ_letA (fun w_1 hw_1 => WQ_ite (WQ_letM (ct_up hμ (by omega) (by omega)) (fun μ_3 hμ_3 => WQ_ite (WQ_letM (ct_up hμ_3 (by omega) (by omega)) (fun μ_5 hμ_5 => WQ_ite (WQ_letM (ct_up hμ_5 (by omega) (by omega)) (fun μ_7 hμ_7 => WQ_ite (WQ_letM (ct_up hμ_7 (by omega) (by omega)) (fun μ_9 hμ_9 => WQ_ite (WQ_ite (WQ_letM (ct_inc30 hμ_9) (fun μ_12 hμ_12 => WQ_ite (WQ_some (CT_le hμ_12 (by omega))) (WQ_letM (ct_up hμ_12 (by omega) (by omega)) (fun μ_14 hμ_14 => WQ_letM (ct_up hμ_14 (by omega) (by omega)) (fun μ_15 hμ_15 => WQ_some (CT_le hμ_15 (by omega))))))) (WQ_none)) (WQ_none))) (WQ_none))) (WQ_none))) (WQ_none))) (WQ_none))
theorem ct_X7_goTo {e j n : Nat} {μ0 μ : gw_M} {v1 : Int32} {a0 : Nat} (hμ : CT e j μ0 μ) (ha : a0 + 8 ≤ e + 30 ∨ e + 35 ≤ a0) : WQ (CT e (j) μ0) (F_X7_goTo n a0 v1 μ) := by
  unfold F_X7_goTo
  exact WQ_ite (WQ_some (CT_le hμ (by omega))) (WQ_ite (WQ_some (CT_le hμ (by omega))) (WQ_letM (ct_up hμ (by omega) (by omega)) (fun μ_3 hμ_3 => WQ_some (CT_le hμ_3 (by omega)))))
theorem ct_X3_dealToOuter {e j n : Nat} {μ0 μ : gw_M} {v1 v2 : Int32} (hμ : CT e j μ0 μ)  : WQ (CT e (j + 1) μ0) (F_X3_dealToOuter n e v1 v2 μ) := by
  unfold F_X3_dealToOuter
  exact WQ_bindM (ct_X2_writeExit hμ) (fun μ_2 hμ_2 => WQ_letM (ct_up hμ_2 (by omega) (by omega)) (fun μ_5 hμ_5 => WQ_ite (WQ_bindM (ct_X7_goTo hμ_5 (by omega)) (fun μ_8 hμ_8 => WQ_some (CT_le hμ_8 (by omega)))) (WQ_none)))
theorem ct_X3_timeGoesOn_77 {e j n : Nat} {μ0 μ : gw_M} {v1 : Int32} (hμ : CT e j μ0 μ)  : WR (CT e (j + 1) μ0) (F_X3_timeGoesOn_77 n e v1 μ) := by
  unfold F_X3_timeGoesOn_77
  exact WR_ite (WR_some (CT_le hμ (by omega))) (WR_ite (WR_some (CT_le hμ (by omega))) (WR_letM (ct_up hμ (by omega) (by omega)) (fun μ_3 hμ_3 => WR_ite (WR_some (CT_le hμ_3 (by omega))) (WR_bindM (ct_X3_dealToOuter hμ_3) (fun μ_6 hμ_6 => WR_some (CT_le hμ_6 (by omega)))))))
theorem ct_X9_removeAt {e j n : Nat} {μ0 μ : gw_M} {v1 : Int32} {a0 : Nat} (hμ : CT e j μ0 μ) (ha : a0 + 8 ≤ e + 30 ∨ e + 35 ≤ a0) : WQ (CT e (j) μ0) (F_X9_removeAt n a0 v1 μ) := by
  unfold F_X9_removeAt
  exact WQ_letA (fun w_1 hw_1 => WQ_ite (WQ_letM (ct_cpy hμ (by omega) (by omega)) (fun μ_2 hμ_2 => WQ_ite (WQ_letM (ct_cpy hμ_2 (by omega) (by omega)) (fun μ_4 hμ_4 => WQ_ite (WQ_letM (ct_cpy hμ_4 (by omega) (by omega)) (fun μ_6 hμ_6 => WQ_letM (ct_up hμ_6 (by omega) (by omega)) (fun μ_8 hμ_8 => WQ_some (CT_le hμ_8 (by omega))))) (WQ_none))) (WQ_none))) (WQ_none))
theorem ct_X0_await {e j n : Nat} {μ0 μ : gw_M} {v1 v2 : Int32} {a0 : Nat} (hμ : CT e j μ0 μ) (ha : a0 + 8 ≤ e + 30 ∨ e + 35 ≤ a0) : WQ (CT e (j) μ0) (F_X0_await n a0 v1 v2 μ) := by
  unfold F_X0_await
  exact WQ_bindI (fun r_1 => WQ_ite (WQ_some (CT_le hμ (by omega))) (WQ_letM (ct_up hμ (by omega) (by omega)) (fun μ_6 hμ_6 => WQ_ite (WQ_letM (ct_up hμ_6 (by omega) (by omega)) (fun μ_8 hμ_8 => WQ_some (CT_le hμ_8 (by omega)))) (WQ_none))))
theorem ct_X3_hostSees {e j n : Nat} {μ0 μ : gw_M} {v1 v2 : Int32} (hμ : CT e j μ0 μ)  : WQ (CT e (j + 1) μ0) (F_X3_hostSees n e v1 v2 μ) := by
  unfold F_X3_hostSees
  exact WQ_bindM (ct_X2_writeExit hμ) (fun μ_2 hμ_2 => WQ_some (CT_le hμ_2 (by omega)))
theorem ct_X3_goOff {e j n : Nat} {μ0 μ : gw_M} {v1 : Int32} (hμ : CT e j μ0 μ)  : WQ (CT e (j + 1) μ0) (F_X3_goOff n e v1 μ) := by
  unfold F_X3_goOff
  exact WQ_ite (WQ_letA (fun w_2 hw_2 => WQ_ite (WQ_letA (fun w_4 hw_4 => WQ_bindM (ct_X9_removeAt hμ (by omega)) (fun μ_6 hμ_6 => WQ_ite (WQ_bindN (fun r_10 hhr_10 => nt_X3_guest hhr_10) (fun r_10 hr_10 => WQ_bindM (ct_X0_await hμ_6 (by omega)) (fun μ_15 hμ_15 => WQ_some (CT_le hμ_15 (by omega))))) (WQ_bindM (ct_X3_hostSees hμ_6) (fun μ_19 hμ_19 => WQ_some (CT_le hμ_19 (by omega))))))) (WQ_none))) (WQ_none)
theorem ctl_X3_timeGoesOn_44 {e n : Nat} {μ0 : gw_M} : ∀ (f j : Nat) (v1 v2 : Int32) (μ : gw_M), CT e j μ0 μ → WR (CT e (j + (1 + f)) μ0) (F_X3_timeGoesOn_44 n e f v1 v2 μ) := by
  intro f
  induction f with
  | zero => intro j v1 v2 μ hμ; exact WR_none
  | succ f ih =>
    intro j v1 v2 μ hμ
    rw [F_X3_timeGoesOn_44]
    exact WR_ite (WR_le (ct_X3_timeGoesOn_77 hμ) (fun _ hz => CT_le hz (by omega))) (WR_bindI (fun r_2 => WR_ite (WR_bindM (ct_X3_goOff hμ) (fun μ_8 hμ_8 => WR_letA (fun w_11 hw_11 => WR_letA (fun w_12 hw_12 => WR_le (ih _ _ _ _ hμ_8) (fun _ hz => CT_le hz (by omega)))))) (WR_le (ct_X3_timeGoesOn_77 hμ) (fun _ hz => CT_le hz (by omega)))))
theorem ct_X3_timeGoesOn_44 {e j n : Nat} {μ0 μ : gw_M} {v1 v2 : Int32} (hμ : CT e j μ0 μ) : WR (CT e (j + (1 + 1 * n)) μ0) (F_X3_timeGoesOn_44 n e n v1 v2 μ) := WR_le (ctl_X3_timeGoesOn_44 n j v1 v2 μ hμ) (fun _ hz => CT_le hz (by omega))
theorem ct_X3_timeGoesOn_35 {e j n : Nat} {μ0 μ : gw_M} {s1 : Int32} (hμ : CT e j μ0 μ)  : WR (CT e (j + (1 + 1 * n)) μ0) (F_X3_timeGoesOn_35 n e s1 μ) := by
  unfold F_X3_timeGoesOn_35
  exact WR_ite (WR_ite (WR_letM (ct_up hμ (by omega) (by omega)) (fun μ_3 hμ_3 => WR_le (ct_X3_timeGoesOn_44 hμ_3) (fun _ hz => CT_le hz (by omega)))) (WR_none)) (WR_none)
theorem ct_X3_timeGoesOn {e j n : Nat} {μ0 μ : gw_M} (hμ : CT e j μ0 μ)  : WR (CT e (j + (1 + 1 * n)) μ0) (F_X3_timeGoesOn n e μ) := by
  unfold F_X3_timeGoesOn
  exact WR_letM (ct_up hμ (by omega) (by omega)) (fun μ_1 hμ_1 => WR_ite (WR_le (ct_X3_timeGoesOn_35 hμ_1) (fun _ hz => CT_le hz (by omega))) (WR_le (ct_X3_timeGoesOn_35 hμ_1) (fun _ hz => CT_le hz (by omega))))
theorem ct_X0_take {e j n : Nat} {μ0 μ : gw_M} {v1 v2 : Int32} {a0 : Nat} (hμ : CT e j μ0 μ) (ha : a0 + 8 ≤ e + 30 ∨ e + 35 ≤ a0) : WR (CT e (j) μ0) (F_X0_take n a0 v1 v2 μ) := by
  unfold F_X0_take
  exact WR_letM (ct_up hμ (by omega) (by omega)) (fun μ_1 hμ_1 => WR_letM (ct_up hμ_1 (by omega) (by omega)) (fun μ_2 hμ_2 => WR_ite (WR_some (CT_le hμ_2 (by omega))) (WR_none)))
theorem ct_X2_noteTake {e j n : Nat} {μ0 μ : gw_M} {v1 v2 v3 : Int32} (hμ : CT e j μ0 μ)  : WQ (CT e (j + 1) μ0) (F_X2_noteTake n (e + 25) v1 v2 v3 μ) := by
  unfold F_X2_noteTake
  exact WQ_ite (WQ_ite (WQ_letM (ct_inc34 hμ) (fun μ_3 hμ_3 => WQ_ite (WQ_letM (ct_up hμ_3 (by omega) (by omega)) (fun μ_5 hμ_5 => WQ_ite (WQ_bindI (fun r_7 => WQ_ite (WQ_letM (ct_up hμ_5 (by omega) (by omega)) (fun μ_12 hμ_12 => WQ_some (CT_le hμ_12 (by omega)))) (WQ_none))) (WQ_none))) (WQ_none))) (WQ_none)) (WQ_none)
theorem ct_X3_dealOutToInner {e j n : Nat} {μ0 μ : gw_M} (hμ : CT e j μ0 μ)  : WQ (CT e (j + 1) μ0) (F_X3_dealOutToInner n e μ) := by
  unfold F_X3_dealOutToInner
  exact WQ_bindN (fun r_1 hhr_1 => nt_X3_inHand hhr_1) (fun r_1 hr_1 => WQ_bindI (fun r_5 => WQ_ite (WQ_some (CT_le hμ (by omega))) (WQ_bi (ct_X0_take hμ (by omega)) (fun r_10 μ_11 hμ_11 => WQ_bindM (ct_X2_noteTake hμ_11) (fun μ_15 hμ_15 => WQ_some (CT_le hμ_15 (by omega)))))))
theorem ct_X3_dealOut_49 {e j n : Nat} {μ0 μ : gw_M} (hμ : CT e j μ0 μ)  : WQ (CT e (j + 1) μ0) (F_X3_dealOut_49 n e μ) := by
  unfold F_X3_dealOut_49
  exact WQ_ite (WQ_some (CT_le hμ (by omega))) (WQ_bindM (ct_X3_dealOutToInner hμ) (fun μ_3 hμ_3 => WQ_some (CT_le hμ_3 (by omega))))
theorem ct_X3_dealOut_28 {e j n : Nat} {μ0 μ : gw_M} {v1 : Int32} (hμ : CT e j μ0 μ)  : WQ (CT e (j + 2) μ0) (F_X3_dealOut_28 n e v1 μ) := by
  unfold F_X3_dealOut_28
  exact WQ_bi (ct_X0_take hμ (by omega)) (fun r_1 μ_2 hμ_2 => WQ_bindM (ct_X2_noteTake hμ_2) (fun μ_6 hμ_6 => WQ_le (ct_X3_dealOut_49 hμ_6) (fun _ hz => CT_le hz (by omega))))
theorem ct_X3_dealOut {e j n : Nat} {μ0 μ : gw_M} (hμ : CT e j μ0 μ)  : WQ (CT e (j + 3) μ0) (F_X3_dealOut n e μ) := by
  unfold F_X3_dealOut
  exact WQ_bindI (fun r_1 => WQ_ite (WQ_le (ct_X3_dealOut_49 hμ) (fun _ hz => CT_le hz (by omega))) (WQ_ite (WQ_le (ct_X3_dealOut_28 hμ) (fun _ hz => CT_le hz (by omega))) (WQ_bindM (ct_X3_dealToOuter hμ) (fun μ_8 hμ_8 => WQ_le (ct_X3_dealOut_28 hμ_8) (fun _ hz => CT_le hz (by omega))))))
theorem ct_X7_advance {e j n : Nat} {μ0 μ : gw_M} {a0 : Nat} (hμ : CT e j μ0 μ) (ha : a0 + 8 ≤ e + 30 ∨ e + 35 ≤ a0) : WR (CT e (j) μ0) (F_X7_advance n a0 μ) := by
  unfold F_X7_advance
  exact WR_letA (fun w_1 hw_1 => WR_ite (WR_letM (ct_up hμ (by omega) (by omega)) (fun μ_3 hμ_3 => WR_some (CT_le hμ_3 (by omega)))) (WR_letM (ct_up hμ (by omega) (by omega)) (fun μ_4 hμ_4 => WR_some (CT_le hμ_4 (by omega)))))
theorem ct_X4_touchFrame_24 {e j n : Nat} {μ0 μ : gw_M} {v1 : Int32} {a0 : Nat} (hμ : CT e j μ0 μ) (ha : a0 + 20 ≤ e + 30) : WR (CT e (j) μ0) (F_X4_touchFrame_24 n a0 v1 μ) := by
  unfold F_X4_touchFrame_24
  exact WR_ite (WR_some (CT_le hμ (by omega))) (WR_none)
theorem ct_X4_touchFrame {e j n : Nat} {μ0 μ : gw_M} {v1 v2 v3 : Int32} {a0 : Nat} (hμ : CT e j μ0 μ) (ha : a0 + 20 ≤ e + 30) : WR (CT e (j) μ0) (F_X4_touchFrame n a0 v1 v2 v3 μ) := by
  unfold F_X4_touchFrame
  exact WR_ite (WR_le (ct_X4_touchFrame_24 hμ (by omega)) (fun _ hz => CT_le hz (by omega))) (WR_ite (WR_letM (ct_up hμ (by omega) (by omega)) (fun μ_3 hμ_3 => WR_letM (ct_up hμ_3 (by omega) (by omega)) (fun μ_4 hμ_4 => WR_le (ct_X4_touchFrame_24 hμ_4 (by omega)) (fun _ hz => CT_le hz (by omega))))) (WR_none))
theorem ct_X2_hear {e j n : Nat} {μ0 μ : gw_M} {v1 : Int32} (hμ : CT e j μ0 μ)  : WQ (CT e (j) μ0) (F_X2_hear n (e + 25) v1 μ) := by
  unfold F_X2_hear
  exact WQ_ite (WQ_letM (ct_up hμ (by omega) (by omega)) (fun μ_2 hμ_2 => WQ_letM (ct_up hμ_2 (by omega) (by omega)) (fun μ_3 hμ_3 => WQ_some (CT_le hμ_3 (by omega))))) (WQ_none)
theorem ct_X3_touchByInner_92 {e j n : Nat} {μ0 μ : gw_M} {v2 v3 v5 : Int32} (hμ : CT e j μ0 μ)  : WR (CT e (j) μ0) (F_X3_touchByInner_92 n e v2 v3 v5 μ) := by
  unfold F_X3_touchByInner_92
  exact WR_ite (WR_bi (ct_X4_touchFrame hμ (by omega)) (fun r_2 μ_3 hμ_3 => WR_ite (WR_some (CT_le hμ_3 (by omega))) (WR_bindM (ct_X2_hear hμ_3) (fun μ_8 hμ_8 => WR_some (CT_le hμ_8 (by omega)))))) (WR_none)
theorem ct_X8_drop {e j n : Nat} {μ0 μ : gw_M} {v1 : Int32} {a0 : Nat} (hμ : CT e j μ0 μ) (ha : a0 + 8 ≤ e + 30 ∨ e + 35 ≤ a0) : WQ (CT e (j) μ0) (F_X8_drop n a0 v1 μ) := by
  unfold F_X8_drop
  exact WQ_ite (WQ_letM (ct_up hμ (by omega) (by omega)) (fun μ_2 hμ_2 => WQ_ite (WQ_letM (ct_up hμ_2 (by omega) (by omega)) (fun μ_4 hμ_4 => WQ_some (CT_le hμ_4 (by omega)))) (WQ_none))) (WQ_none)
theorem ct_X8_put {e j n : Nat} {μ0 μ : gw_M} {v1 v2 v3 : Int32} {a0 : Nat} (hμ : CT e j μ0 μ) (ha : a0 + 8 ≤ e + 30 ∨ e + 35 ≤ a0) : WQ (CT e (j) μ0) (F_X8_put n a0 v1 v2 v3 μ) := by
  unfold F_X8_put
  exact WQ_ite (WQ_letM (ct_up hμ (by omega) (by omega)) (fun μ_2 hμ_2 => WQ_ite (WQ_letM (ct_up hμ_2 (by omega) (by omega)) (fun μ_4 hμ_4 => WQ_ite (WQ_letM (ct_up hμ_4 (by omega) (by omega)) (fun μ_6 hμ_6 => WQ_letM (ct_up hμ_6 (by omega) (by omega)) (fun μ_7 hμ_7 => WQ_some (CT_le hμ_7 (by omega))))) (WQ_none))) (WQ_none))) (WQ_none)
theorem ct_X3_fold {e j n : Nat} {μ0 μ : gw_M} {v1 : Int32} (hμ : CT e j μ0 μ)  : WQ (CT e (j) μ0) (F_X3_fold n e v1 μ) := by
  unfold F_X3_fold
  exact WQ_bindN (fun r_1 hhr_1 => nt_X3_inHand hhr_1) (fun r_1 hr_1 => WQ_ite (WQ_letA (fun w_6 hw_6 => WQ_ite (WQ_bindI (fun r_8 => WQ_letA (fun w_12 hw_12 => WQ_ite (WQ_bindM (ct_X8_put hμ (by omega)) (fun μ_15 hμ_15 => WQ_some (CT_le hμ_15 (by omega)))) (WQ_none)))) (WQ_none))) (WQ_none))
theorem ct_X3_foldOnTouch_164 {e j n : Nat} {μ0 μ : gw_M} {v1 : Int32} (hμ : CT e j μ0 μ)  : WR (CT e (j) μ0) (F_X3_foldOnTouch_164 n e v1 μ) := by
  unfold F_X3_foldOnTouch_164
  exact WR_bindM (ct_X3_fold hμ) (fun μ_2 hμ_2 => WR_some (CT_le hμ_2 (by omega)))
theorem ct_X8_dropEldest {e j n : Nat} {μ0 μ : gw_M} {a0 : Nat} (hμ : CT e j μ0 μ) (ha : a0 + 8 ≤ e + 30 ∨ e + 35 ≤ a0) : WQ (CT e (j) μ0) (F_X8_dropEldest n a0 μ) := by
  unfold F_X8_dropEldest
  exact WQ_bindI (fun r_1 => WQ_ite (WQ_some (CT_le hμ (by omega))) (WQ_bindM (ct_X8_drop hμ (by omega)) (fun μ_7 hμ_7 => WQ_some (CT_le hμ_7 (by omega)))))
theorem ct_X3_foldOnTouch_116 {e j n : Nat} {μ0 μ : gw_M} {v1 v2 v5 : Int32} (hμ : CT e j μ0 μ)  : WR (CT e (j) μ0) (F_X3_foldOnTouch_116 n e v1 v2 v5 μ) := by
  unfold F_X3_foldOnTouch_116
  exact WR_bindI (fun r_1 => WR_ite (WR_bindM (ct_X8_drop hμ (by omega)) (fun μ_7 hμ_7 => WR_bindI (fun r_10 => WR_ite (WR_le (ct_X3_foldOnTouch_164 hμ_7) (fun _ hz => CT_le hz (by omega))) (WR_bindM (ct_X8_dropEldest hμ_7 (by omega)) (fun μ_16 hμ_16 => WR_le (ct_X3_foldOnTouch_164 hμ_16) (fun _ hz => CT_le hz (by omega))))))) (WR_some (CT_le hμ (by omega))))
theorem ct_X4_give_82 {e j n : Nat} {μ0 μ : gw_M} {v1 v2 v3 : Int32} {a0 : Nat} (hμ : CT e j μ0 μ) (ha : a0 + 20 ≤ e + 30) : WR (CT e (j) μ0) (F_X4_give_82 n a0 v1 v2 v3 μ) := by
  unfold F_X4_give_82
  exact WR_ite (WR_bindM (ct_X8_put hμ (by omega)) (fun μ_3 hμ_3 => WR_letM (ct_up hμ_3 (by omega) (by omega)) (fun μ_6 hμ_6 => WR_ite (WR_bindI (fun r_8 => WR_ite (WR_letM (ct_up hμ_6 (by omega) (by omega)) (fun μ_13 hμ_13 => WR_ite (WR_letM (ct_up hμ_13 (by omega) (by omega)) (fun μ_15 hμ_15 => WR_letM (ct_up hμ_15 (by omega) (by omega)) (fun μ_16 hμ_16 => WR_some (CT_le hμ_16 (by omega))))) (WR_none))) (WR_none))) (WR_none)))) (WR_some (CT_le hμ (by omega)))
theorem ct_X4_storeAway {e j n : Nat} {μ0 μ : gw_M} {v1 : Int32} {a0 : Nat} (hμ : CT e j μ0 μ) (ha : a0 + 20 ≤ e + 30) : WQ (CT e (j) μ0) (F_X4_storeAway n a0 v1 μ) := by
  unfold F_X4_storeAway
  exact WQ_ite (WQ_letA (fun w_2 hw_2 => WQ_ite (WQ_ite (WQ_ite (WQ_letM (ct_up hμ (by omega) (by omega)) (fun μ_6 hμ_6 => WQ_ite (WQ_letM (ct_up hμ_6 (by omega) (by omega)) (fun μ_8 hμ_8 => WQ_ite (WQ_letM (ct_up hμ_8 (by omega) (by omega)) (fun μ_10 hμ_10 => WQ_letM (ct_up hμ_10 (by omega) (by omega)) (fun μ_11 hμ_11 => WQ_some (CT_le hμ_11 (by omega))))) (WQ_none))) (WQ_none))) (WQ_none)) (WQ_none)) (WQ_some (CT_le hμ (by omega))))) (WQ_none)
theorem ctl_X4_give_15 {e j n a0 : Nat} {μ0 : gw_M} (ha : a0 + 20 ≤ e + 30) : ∀ (f : Nat) (v1 v2 v3 v4 : Int32) (μ : gw_M), CT e j μ0 μ → WR (CT e j μ0) (F_X4_give_15 n a0 f v1 v2 v3 v4 μ) := by
  intro f
  induction f with
  | zero => intro v1 v2 v3 v4 μ hμ; exact WR_none
  | succ f ih =>
    intro v1 v2 v3 v4 μ hμ
    rw [F_X4_give_15]
    exact WR_ite (WR_le (ct_X4_give_82 hμ (by omega)) (fun _ hz => CT_le hz (by omega))) (WR_ite (WR_le (ct_X4_give_82 hμ (by omega)) (fun _ hz => CT_le hz (by omega))) (WR_bindI (fun r_3 => WR_ite (WR_bindM (ct_X4_storeAway hμ (by omega)) (fun μ_9 hμ_9 => WR_letM (ct_up hμ_9 (by omega) (by omega)) (fun μ_12 hμ_12 => WR_letA (fun w_13 hw_13 => WR_bindI (fun r_14 => WR_bindI (fun r_18 => WR_letA (fun w_22 hw_22 => WR_le (ih _ _ _ _ _ hμ_12) (fun _ hz => CT_le hz (by omega))))))))) (WR_le (ct_X4_give_82 hμ (by omega)) (fun _ hz => CT_le hz (by omega))))))
theorem ct_X4_give_15 {e j n a0 f : Nat} {μ0 μ : gw_M} {v1 v2 v3 v4 : Int32} (hμ : CT e j μ0 μ) (ha : a0 + 20 ≤ e + 30) : WR (CT e j μ0) (F_X4_give_15 n a0 f v1 v2 v3 v4 μ) := ctl_X4_give_15 ha f v1 v2 v3 v4 μ hμ
theorem ct_X4_give {e j n : Nat} {μ0 μ : gw_M} {v1 : Int32} {a0 : Nat} (hμ : CT e j μ0 μ) (ha : a0 + 20 ≤ e + 30) : WR (CT e (j) μ0) (F_X4_give n a0 v1 μ) := by
  unfold F_X4_give
  exact WR_letA (fun w_1 hw_1 => WR_bindI (fun r_2 => WR_bindI (fun r_6 => WR_le (ct_X4_give_15 hμ (by omega)) (fun _ hz => CT_le hz (by omega)))))
theorem ctl_X3_unfold_10 {e j n : Nat} {μ0 : gw_M} : ∀ (f : Nat) (v1 : Int32) (p2 : Nat) (v3 : Int32) (μ : gw_M), CT e j μ0 μ → WQ (CT e j μ0) (F_X3_unfold_10 n e f v1 p2 v3 μ) := by
  intro f
  induction f with
  | zero => intro v1 p2 v3 μ hμ; exact WQ_none
  | succ f ih =>
    intro v1 p2 v3 μ hμ
    rw [F_X3_unfold_10]
    exact WQ_ite (WQ_some (CT_le hμ (by omega))) (WQ_ite (WQ_ite (WQ_le (ih _ _ _ _ hμ) (fun _ hz => CT_le hz (by omega))) (WQ_ite (WQ_bindI (fun r_5 => WQ_ite (WQ_le (ih _ _ _ _ hμ) (fun _ hz => CT_le hz (by omega))) (WQ_bindM (ct_X8_drop hμ (by omega)) (fun μ_11 hμ_11 => WQ_le (ih _ _ _ _ hμ_11) (fun _ hz => CT_le hz (by omega)))))) (WQ_none))) (WQ_none))
theorem ct_X3_unfold_10 {e j n f : Nat} {μ0 μ : gw_M} {v1 v3 : Int32} {p2 : Nat} (hμ : CT e j μ0 μ) : WQ (CT e j μ0) (F_X3_unfold_10 n e f v1 p2 v3 μ) := ctl_X3_unfold_10 f v1 p2 v3 μ hμ
theorem ct_X3_unfold {e j n : Nat} {μ0 μ : gw_M} {v1 : Int32} (hμ : CT e j μ0 μ)  : WQ (CT e (j) μ0) (F_X3_unfold n e v1 μ) := by
  unfold F_X3_unfold
  exact WQ_bindN (fun r_1 hhr_1 => nt_X3_inHand hhr_1) (fun r_1 hr_1 => WQ_le (ct_X3_unfold_10 hμ) (fun _ hz => CT_le hz (by omega)))
theorem ct_X3_foldOnTouch_88 {e j n : Nat} {μ0 μ : gw_M} {v1 v2 v5 : Int32} (hμ : CT e j μ0 μ)  : WR (CT e (j) μ0) (F_X3_foldOnTouch_88 n e v1 v2 v5 μ) := by
  unfold F_X3_foldOnTouch_88
  exact WR_bindI (fun r_1 => WR_ite (WR_le (ct_X3_foldOnTouch_116 hμ) (fun _ hz => CT_le hz (by omega))) (WR_bi (ct_X4_give hμ (by omega)) (fun r_6 μ_7 hμ_7 => WR_bindM (ct_X3_unfold hμ_7) (fun μ_11 hμ_11 => WR_le (ct_X3_foldOnTouch_116 hμ_11) (fun _ hz => CT_le hz (by omega))))))
theorem ct_X4_part {e j n : Nat} {μ0 μ : gw_M} {v1 : Int32} {a0 : Nat} (hμ : CT e j μ0 μ) (ha : a0 + 20 ≤ e + 30) : WQ (CT e (j) μ0) (F_X4_part n a0 v1 μ) := by
  unfold F_X4_part
  exact WQ_bindI (fun r_1 => WQ_ite (WQ_letM (ct_up hμ (by omega) (by omega)) (fun μ_6 hμ_6 => WQ_some (CT_le hμ_6 (by omega)))) (WQ_bindM (ct_X4_storeAway hμ (by omega)) (fun μ_8 hμ_8 => WQ_some (CT_le hμ_8 (by omega)))))
theorem ct_X3_foldOnTouch {e j n : Nat} {μ0 μ : gw_M} {v1 v2 : Int32} (hμ : CT e j μ0 μ)  : WR (CT e (j + 1) μ0) (F_X3_foldOnTouch n e v1 v2 μ) := by
  unfold F_X3_foldOnTouch
  exact WR_bindN (fun r_1 hhr_1 => nt_X3_inHand hhr_1) (fun r_1 hr_1 => WR_letA (fun w_5 hw_5 => WR_bindI (fun r_6 => WR_ite (WR_bindM (ct_X3_hostSees hμ) (fun μ_12 hμ_12 => WR_ite (WR_letA (fun w_16 hw_16 => WR_ite (WR_le (ct_X3_foldOnTouch_88 hμ_12) (fun _ hz => CT_le hz (by omega))) (WR_bindI (fun r_18 => WR_ite (WR_le (ct_X3_foldOnTouch_88 hμ_12) (fun _ hz => CT_le hz (by omega))) (WR_bindM (ct_X4_part hμ_12 (by omega)) (fun μ_24 hμ_24 => WR_bindM (ct_X3_unfold hμ_24) (fun μ_28 hμ_28 => WR_le (ct_X3_foldOnTouch_88 hμ_28) (fun _ hz => CT_le hz (by omega))))))))) (WR_none))) (WR_letM (ct_up hμ (by omega) (by omega)) (fun μ_31 hμ_31 => WR_bindM (ct_X3_dealToOuter hμ_31) (fun μ_33 hμ_33 => WR_some (CT_le hμ_33 (by omega))))))))
theorem ct_X3_eventOfInner {e j n : Nat} {μ0 μ : gw_M} {v1 : Int32} (hμ : CT e j μ0 μ)  : WR (CT e (j + 1) μ0) (F_X3_eventOfInner n e v1 μ) := by
  unfold F_X3_eventOfInner
  exact WR_bindI (fun r_1 => WR_ite (WR_ite (WR_letM (ct_up hμ (by omega) (by omega)) (fun μ_7 hμ_7 => WR_ite (WR_ite (WR_some (CT_le hμ_7 (by omega))) (WR_bindM (ct_X3_hostSees hμ_7) (fun μ_11 hμ_11 => WR_some (CT_le hμ_11 (by omega))))) (WR_bindM (ct_X3_dealToOuter hμ_7) (fun μ_15 hμ_15 => WR_some (CT_le hμ_15 (by omega)))))) (WR_none)) (WR_none))
theorem ct_X3_touchByInner {e j n : Nat} {μ0 μ : gw_M} {v1 v2 v3 : Int32} (hμ : CT e j μ0 μ)  : WR (CT e (j + 1) μ0) (F_X3_touchByInner n e v1 v2 v3 μ) := by
  unfold F_X3_touchByInner
  exact WR_bindN (fun r_1 hhr_1 => nt_X3_inHand hhr_1) (fun r_1 hr_1 => WR_bindI (fun r_5 => WR_ite (WR_ite (WR_letA (fun w_11 hw_11 => WR_bindI (fun r_12 => WR_ite (WR_le (ct_X3_touchByInner_92 hμ) (fun _ hz => CT_le hz (by omega))) (WR_bi (ct_X3_foldOnTouch hμ) (fun r_17 μ_18 hμ_18 => WR_ite (WR_le (ct_X3_touchByInner_92 hμ_18) (fun _ hz => CT_le hz (by omega))) (WR_some (CT_le hμ_18 (by omega)))))))) (WR_none)) (WR_bi (ct_X3_eventOfInner hμ) (fun r_22 μ_23 hμ_23 => WR_ite (WR_some (CT_le hμ_23 (by omega))) (WR_letM (ct_up hμ_23 (by omega) (by omega)) (fun μ_27 hμ_27 => WR_letM (ct_up hμ_27 (by omega) (by omega)) (fun μ_28 hμ_28 => WR_some (CT_le hμ_28 (by omega)))))))))
theorem ct_X1_trapAt {e j n : Nat} {μ0 μ : gw_M} {v1 : Int32} {a0 : Nat} (hμ : CT e j μ0 μ) (ha : e + 35 ≤ a0) : WQ (CT e (j) μ0) (F_X1_trapAt n a0 v1 μ) := by
  unfold F_X1_trapAt
  exact WQ_letM (ct_up hμ (by omega) (by omega)) (fun μ_1 hμ_1 => WQ_bindM (ct_X7_goTo hμ_1 (by omega)) (fun μ_3 hμ_3 => WQ_some (CT_le hμ_3 (by omega))))
theorem ct_X3_lead {e j n : Nat} {μ0 μ : gw_M} {v2 v3 : Int32} {p1 : Nat} (hμ : CT e j μ0 μ) (hp1 : e + 35 ≤ p1) : WQ (CT e (j) μ0) (F_X3_lead n e p1 v2 v3 μ) := by
  unfold F_X3_lead
  exact WQ_ite (WQ_ite (WQ_some (CT_le hμ (by omega))) (WQ_bindI (fun r_3 => WQ_ite (WQ_some (CT_le hμ (by omega))) (WQ_bindM (ct_X1_trapAt hμ (by omega)) (fun μ_9 hμ_9 => WQ_some (CT_le hμ_9 (by omega))))))) (WQ_bindM (ct_X7_goTo hμ (by omega)) (fun μ_13 hμ_13 => WQ_some (CT_le hμ_13 (by omega))))
theorem ct_X3_actOfInner_100 {e j n : Nat} {μ0 μ : gw_M} {v3 v4 v5 v6 : Int32} {p1 : Nat} (hμ : CT e j μ0 μ) (hp1 : e + 35 ≤ p1) : WQ (CT e (j + 1) μ0) (F_X3_actOfInner_100 n e p1 v3 v4 v5 v6 μ) := by
  unfold F_X3_actOfInner_100
  exact WQ_bi (ct_X3_touchByInner hμ) (fun r_1 μ_2 hμ_2 => WQ_bindM (ct_X3_lead hμ_2 (by omega)) (fun μ_6 hμ_6 => WQ_some (CT_le hμ_6 (by omega))))
theorem ct_X1_actAlone_51 {e j n : Nat} {μ0 μ : gw_M} {v1 : Int32} {a0 : Nat} (hμ : CT e j μ0 μ) (ha : e + 35 ≤ a0) : WQ (CT e (j) μ0) (F_X1_actAlone_51 n a0 v1 μ) := by
  unfold F_X1_actAlone_51
  exact WQ_ite (WQ_some (CT_le hμ (by omega))) (WQ_bindM (ct_X7_goTo hμ (by omega)) (fun μ_3 hμ_3 => WQ_some (CT_le hμ_3 (by omega))))
theorem ct_X1_actAlone {e j n : Nat} {μ0 μ : gw_M} {v1 v2 v3 : Int32} {a0 : Nat} (hμ : CT e j μ0 μ) (ha : e + 35 ≤ a0) : WQ (CT e (j) μ0) (F_X1_actAlone n a0 v1 v2 v3 μ) := by
  unfold F_X1_actAlone
  exact WQ_ite (WQ_ite (WQ_le (ct_X1_actAlone_51 hμ (by omega)) (fun _ hz => CT_le hz (by omega))) (WQ_ite (WQ_le (ct_X1_actAlone_51 hμ (by omega)) (fun _ hz => CT_le hz (by omega))) (WQ_bindM (ct_X8_put hμ (by omega)) (fun μ_5 hμ_5 => WQ_some (CT_le hμ_5 (by omega)))))) (WQ_bindM (ct_X8_put hμ (by omega)) (fun μ_9 hμ_9 => WQ_some (CT_le hμ_9 (by omega))))
theorem ct_X3_actOfInner_162 {e j n : Nat} {μ0 μ : gw_M} {v4 v5 v6 : Int32} {p1 : Nat} (hμ : CT e j μ0 μ) (hp1 : e + 35 ≤ p1) : WQ (CT e (j) μ0) (F_X3_actOfInner_162 n e p1 v4 v5 v6 μ) := by
  unfold F_X3_actOfInner_162
  exact WQ_bindM (ct_X1_actAlone hμ (by omega)) (fun μ_2 hμ_2 => WQ_some (CT_le hμ_2 (by omega)))
theorem ct_X0_endService {e j n : Nat} {μ0 μ : gw_M} {a0 : Nat} (hμ : CT e j μ0 μ) (ha : a0 + 8 ≤ e + 30 ∨ e + 35 ≤ a0) : WR (CT e (j) μ0) (F_X0_endService n a0 μ) := by
  unfold F_X0_endService
  exact WR_bindI (fun r_1 => WR_ite (WR_some (CT_le hμ (by omega))) (WR_letM (ct_up hμ (by omega) (by omega)) (fun μ_6 hμ_6 => WR_some (CT_le hμ_6 (by omega)))))
theorem ct_X3_actOfInner {e j n : Nat} {μ0 μ : gw_M} (hμ : CT e j μ0 μ)  : WQ (CT e (j + 1) μ0) (F_X3_actOfInner n e μ) := by
  unfold F_X3_actOfInner
  exact WQ_bindN (fun r_1 hhr_1 => nt_X3_inHand hhr_1) (fun r_1 hr_1 => WQ_ite (WQ_bi (ct_X7_advance hμ (by omega)) (fun r_6 μ_7 hμ_7 => WQ_ite (WQ_letA (fun w_11 hw_11 => WQ_ite (WQ_letA (fun w_13 hw_13 => WQ_ite (WQ_letA (fun w_15 hw_15 => WQ_ite (WQ_le (ct_X3_actOfInner_100 hμ_7 (by omega)) (fun _ hz => CT_le hz (by omega))) (WQ_ite (WQ_le (ct_X3_actOfInner_100 hμ_7 (by omega)) (fun _ hz => CT_le hz (by omega))) (WQ_ite (WQ_le (ct_X3_actOfInner_100 hμ_7 (by omega)) (fun _ hz => CT_le hz (by omega))) (WQ_ite (WQ_bi (ct_X3_eventOfInner hμ_7) (fun r_20 μ_21 hμ_21 => WQ_some (CT_le hμ_21 (by omega)))) (WQ_ite (WQ_letM (ct_up hμ_7 (by omega) (by omega)) (fun μ_25 hμ_25 => WQ_some (CT_le hμ_25 (by omega)))) (WQ_ite (WQ_letM (ct_up hμ_7 (by omega) (by omega)) (fun μ_27 hμ_27 => WQ_some (CT_le hμ_27 (by omega)))) (WQ_ite (WQ_le (ct_X3_actOfInner_162 hμ_7 (by omega)) (fun _ hz => CT_le hz (by omega))) (WQ_ite (WQ_bi (ct_X0_endService hμ_7 (by omega)) (fun r_30 μ_31 hμ_31 => WQ_some (CT_le hμ_31 (by omega)))) (WQ_le (ct_X3_actOfInner_162 hμ_7 (by omega)) (fun _ hz => CT_le hz (by omega)))))))))))) (WQ_none))) (WQ_none))) (WQ_none))) (WQ_some (CT_le hμ (by omega))))
theorem ct_X3_touchByOuter_127 {e j n : Nat} {μ0 μ : gw_M} {v1 v2 v3 : Int32} (hμ : CT e j μ0 μ)  : WR (CT e (j) μ0) (F_X3_touchByOuter_127 n e v1 v2 v3 μ) := by
  unfold F_X3_touchByOuter_127
  exact WR_ite (WR_bi (ct_X4_touchFrame hμ (by omega)) (fun r_2 μ_3 hμ_3 => WR_some (CT_le hμ_3 (by omega)))) (WR_none)
theorem ct_X3_touchByOuter_101 {e j n : Nat} {μ0 μ : gw_M} {v1 v2 v3 : Int32} (hμ : CT e j μ0 μ)  : WR (CT e (j) μ0) (F_X3_touchByOuter_101 n e v1 v2 v3 μ) := by
  unfold F_X3_touchByOuter_101
  exact WR_bindI (fun r_1 => WR_ite (WR_le (ct_X3_touchByOuter_127 hμ) (fun _ hz => CT_le hz (by omega))) (WR_bi (ct_X4_give hμ (by omega)) (fun r_6 μ_7 hμ_7 => WR_bindM (ct_X3_unfold hμ_7) (fun μ_11 hμ_11 => WR_le (ct_X3_touchByOuter_127 hμ_11) (fun _ hz => CT_le hz (by omega))))))
theorem ct_X3_touchByOuter_76 {e j n : Nat} {μ0 μ : gw_M} {v1 v2 v3 v4 : Int32} (hμ : CT e j μ0 μ)  : WR (CT e (j + 1) μ0) (F_X3_touchByOuter_76 n e v1 v2 v3 v4 μ) := by
  unfold F_X3_touchByOuter_76
  exact WR_bindI (fun r_1 => WR_ite (WR_le (ct_X3_touchByOuter_101 hμ) (fun _ hz => CT_le hz (by omega))) (WR_bindM (ct_X3_hostSees hμ) (fun μ_7 hμ_7 => WR_some (CT_le hμ_7 (by omega)))))
theorem ct_X3_touchByOuter {e j n : Nat} {μ0 μ : gw_M} {v1 v2 v3 : Int32} (hμ : CT e j μ0 μ)  : WR (CT e (j + 1) μ0) (F_X3_touchByOuter n e v1 v2 v3 μ) := by
  unfold F_X3_touchByOuter
  exact WR_letA (fun w_1 hw_1 => WR_bindI (fun r_2 => WR_ite (WR_ite (WR_le (ct_X3_touchByOuter_76 hμ) (fun _ hz => CT_le hz (by omega))) (WR_bindI (fun r_8 => WR_ite (WR_le (ct_X3_touchByOuter_76 hμ) (fun _ hz => CT_le hz (by omega))) (WR_bindM (ct_X3_hostSees hμ) (fun μ_14 hμ_14 => WR_bindM (ct_X4_part hμ_14 (by omega)) (fun μ_18 hμ_18 => WR_bindM (ct_X3_unfold hμ_18) (fun μ_22 hμ_22 => WR_le (ct_X3_touchByOuter_101 hμ_22) (fun _ hz => CT_le hz (by omega))))))))) (WR_bindM (ct_X3_hostSees hμ) (fun μ_26 hμ_26 => WR_le (ct_X3_touchByOuter_101 hμ_26) (fun _ hz => CT_le hz (by omega))))))
theorem ct_X3_actOfOuter_108 {e j n : Nat} {μ0 μ : gw_M} {v3 v4 v5 : Int32} (hμ : CT e j μ0 μ)  : WQ (CT e (j + 1) μ0) (F_X3_actOfOuter_108 n e v3 v4 v5 μ) := by
  unfold F_X3_actOfOuter_108
  exact WQ_bi (ct_X3_touchByOuter hμ) (fun r_1 μ_2 hμ_2 => WQ_some (CT_le hμ_2 (by omega)))
theorem ct_X3_eventOfOuter_18 {e j n : Nat} {μ0 μ : gw_M} {v1 s0 : Int32} (hμ : CT e j μ0 μ)  : WR (CT e (j + 1) μ0) (F_X3_eventOfOuter_18 n e v1 s0 μ) := by
  unfold F_X3_eventOfOuter_18
  exact WR_ite (WR_ite (WR_letM (ct_up hμ (by omega) (by omega)) (fun μ_3 hμ_3 => WR_ite (WR_some (CT_le hμ_3 (by omega))) (WR_bindM (ct_X3_hostSees hμ_3) (fun μ_6 hμ_6 => WR_some (CT_le hμ_6 (by omega)))))) (WR_none)) (WR_none)
theorem ct_X3_eventOfOuter {e j n : Nat} {μ0 μ : gw_M} {v1 : Int32} (hμ : CT e j μ0 μ)  : WR (CT e (j + 1) μ0) (F_X3_eventOfOuter n e v1 μ) := by
  unfold F_X3_eventOfOuter
  exact WR_bindI (fun r_1 => WR_ite (WR_le (ct_X3_eventOfOuter_18 hμ) (fun _ hz => CT_le hz (by omega))) (WR_le (ct_X3_eventOfOuter_18 hμ) (fun _ hz => CT_le hz (by omega))))
theorem ct_X3_enterInner {e j n : Nat} {μ0 μ : gw_M} (hμ : CT e j μ0 μ)  : WQ (CT e (j) μ0) (F_X3_enterInner n e μ) := by
  unfold F_X3_enterInner
  exact WQ_letM (ct_up hμ (by omega) (by omega)) (fun μ_1 hμ_1 => WQ_letM (ct_up hμ_1 (by omega) (by omega)) (fun μ_2 hμ_2 => WQ_some (CT_le hμ_2 (by omega))))
theorem ct_X3_tellInner {e j n : Nat} {μ0 μ : gw_M} {v1 v2 v3 : Int32} (hμ : CT e j μ0 μ)  : WQ (CT e (j) μ0) (F_X3_tellInner n e v1 v2 v3 μ) := by
  unfold F_X3_tellInner
  exact WQ_bindN (fun r_1 hhr_1 => nt_X3_inHand hhr_1) (fun r_1 hr_1 => WQ_bindM (ct_X8_put hμ (by omega)) (fun μ_6 hμ_6 => WQ_bindM (ct_X8_drop hμ_6 (by omega)) (fun μ_10 hμ_10 => WQ_some (CT_le hμ_10 (by omega)))))
theorem ct_X3_tellMissed {e j n : Nat} {μ0 μ : gw_M} {v1 : Int32} (hμ : CT e j μ0 μ)  : WQ (CT e (j) μ0) (F_X3_tellMissed n e v1 μ) := by
  unfold F_X3_tellMissed
  exact WQ_ite (WQ_some (CT_le hμ (by omega))) (WQ_bindM (ct_X3_tellInner hμ) (fun μ_3 hμ_3 => WQ_some (CT_le hμ_3 (by omega))))
theorem ct_X8_dropAll {e j n : Nat} {μ0 μ : gw_M} {a0 : Nat} (hμ : CT e j μ0 μ) (ha : a0 + 8 ≤ e + 30 ∨ e + 35 ≤ a0) : WQ (CT e (j) μ0) (F_X8_dropAll n a0 μ) := by
  unfold F_X8_dropAll
  exact WQ_letM (ct_fil hμ (by omega) (by omega)) (fun μ_1 hμ_1 => WQ_letM (ct_fil hμ_1 (by omega) (by omega)) (fun μ_2 hμ_2 => WQ_some (CT_le hμ_2 (by omega))))
theorem ct_X3_switchTo {e j n : Nat} {μ0 μ : gw_M} {v1 : Int32} (hμ : CT e j μ0 μ)  : WQ (CT e (j) μ0) (F_X3_switchTo n e v1 μ) := by
  unfold F_X3_switchTo
  exact WQ_letM (ct_up hμ (by omega) (by omega)) (fun μ_1 hμ_1 => WQ_bindM (ct_X8_dropAll hμ_1 (by omega)) (fun μ_3 hμ_3 => WQ_letM (ct_up hμ_3 (by omega) (by omega)) (fun μ_6 hμ_6 => WQ_some (CT_le hμ_6 (by omega)))))
theorem ct_X3_switchUnlessInHand {e j n : Nat} {μ0 μ : gw_M} {v1 : Int32} (hμ : CT e j μ0 μ)  : WQ (CT e (j) μ0) (F_X3_switchUnlessInHand n e v1 μ) := by
  unfold F_X3_switchUnlessInHand
  exact WQ_ite (WQ_some (CT_le hμ (by omega))) (WQ_bindM (ct_X3_switchTo hμ) (fun μ_3 hμ_3 => WQ_some (CT_le hμ_3 (by omega))))
theorem ct_X3_actOfOuter {e j n : Nat} {μ0 μ : gw_M} (hμ : CT e j μ0 μ)  : WQ (CT e (j + 1) μ0) (F_X3_actOfOuter n e μ) := by
  unfold F_X3_actOfOuter
  exact WQ_ite (WQ_bi (ct_X7_advance hμ (by omega)) (fun r_2 μ_3 hμ_3 => WQ_ite (WQ_letA (fun w_7 hw_7 => WQ_ite (WQ_letA (fun w_9 hw_9 => WQ_ite (WQ_letA (fun w_11 hw_11 => WQ_ite (WQ_le (ct_X3_actOfOuter_108 hμ_3) (fun _ hz => CT_le hz (by omega))) (WQ_ite (WQ_le (ct_X3_actOfOuter_108 hμ_3) (fun _ hz => CT_le hz (by omega))) (WQ_ite (WQ_le (ct_X3_actOfOuter_108 hμ_3) (fun _ hz => CT_le hz (by omega))) (WQ_ite (WQ_bi (ct_X3_eventOfOuter hμ_3) (fun r_16 μ_17 hμ_17 => WQ_some (CT_le hμ_17 (by omega)))) (WQ_ite (WQ_letM (ct_up hμ_3 (by omega) (by omega)) (fun μ_21 hμ_21 => WQ_some (CT_le hμ_21 (by omega)))) (WQ_ite (WQ_letM (ct_up hμ_3 (by omega) (by omega)) (fun μ_23 hμ_23 => WQ_some (CT_le hμ_23 (by omega)))) (WQ_ite (WQ_bindM (ct_X3_enterInner hμ_3) (fun μ_26 hμ_26 => WQ_some (CT_le hμ_26 (by omega)))) (WQ_ite (WQ_bindM (ct_X3_tellInner hμ_3) (fun μ_31 hμ_31 => WQ_some (CT_le hμ_31 (by omega)))) (WQ_ite (WQ_bindN (fun r_35 hhr_35 => nt_X3_inHand hhr_35) (fun r_35 hr_35 => WQ_bindM (ct_X0_await hμ_3 (by omega)) (fun μ_40 hμ_40 => WQ_some (CT_le hμ_40 (by omega))))) (WQ_ite (WQ_bindM (ct_X3_tellMissed hμ_3) (fun μ_45 hμ_45 => WQ_some (CT_le hμ_45 (by omega)))) (WQ_ite (WQ_bi (ct_X0_endService hμ_3 (by omega)) (fun r_49 μ_50 hμ_50 => WQ_some (CT_le hμ_50 (by omega)))) (WQ_ite (WQ_bindM (ct_X3_switchUnlessInHand hμ_3) (fun μ_55 hμ_55 => WQ_some (CT_le hμ_55 (by omega)))) (WQ_some (CT_le hμ_3 (by omega)))))))))))))))) (WQ_none))) (WQ_none))) (WQ_none))) (WQ_some (CT_le hμ (by omega)))
theorem ct_X3_goOn {e j n : Nat} {μ0 μ : gw_M} (hμ : CT e j μ0 μ)  : WQ (CT e (j + (8 + 1 * n)) μ0) (F_X3_goOn n e μ) := by
  unfold F_X3_goOn
  exact WQ_bi (ct_X3_timeGoesOn hμ) (fun r_1 μ_2 hμ_2 => WQ_bindM (ct_X3_dealOut hμ_2) (fun μ_6 hμ_6 => WQ_ite (WQ_bindM (ct_X3_actOfInner hμ_6) (fun μ_11 hμ_11 => WQ_bindM (ct_X3_dealOut hμ_11) (fun μ_15 hμ_15 => WQ_some (CT_le hμ_15 (by omega))))) (WQ_bindM (ct_X3_actOfOuter hμ_6) (fun μ_19 hμ_19 => WQ_bindM (ct_X3_dealOut hμ_19) (fun μ_23 hμ_23 => WQ_some (CT_le hμ_23 (by omega)))))))
end CTS
