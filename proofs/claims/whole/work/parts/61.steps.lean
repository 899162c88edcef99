/-! ===== the whole relation: now, what can be taken back, the image ===== -/
def PR (b : Nat) (S : gw_S) (e q : Nat) (μ s : gw_M) : Prop := ∃ st fs sz, st < 20 ∧ fs < 20 ∧ sz ≤ 20 ∧ μ e 1 = nI st ∧ μ e 2 = nI sz ∧ s q 0 = nI sz ∧ s q 1 = nI fs ∧ ∀ i, i < sz → gw_rf S (e + 1) ((st + i) % 20) ≠ 0 ∧ RR b (gw_rf S (e + 1) ((st + i) % 20)) μ (fun j => s q (991 + 991 * ((fs + i) % 20) + j))
def pp (S : gw_S) (A z : Nat) : Nat := gw_rf S (if z < 20 then A + 84 else A + 168) (z % 20)
def SH (S : gw_S) (A m : Nat) : Prop := gw_wf S ∧ gw_sh S 10 A ∧ gw_sh S 11 m ∧ A + 268 ≤ m ∧ m + 5 ≤ gw_nn S ∧ (∀ z, z < 40 → pp S A z = 0 ∨ (m + 6 ≤ pp S A z ∧ pp S A z + 81 ≤ gw_nn S ∧ gw_sh S 3 (pp S A z))) ∧ ∀ z z', z < 40 → z' < 40 → z ≠ z' → pp S A z ≠ 0 → pp S A z' ≠ 0 → pp S A z + 82 ≤ pp S A z' ∨ pp S A z' + 82 ≤ pp S A z
def R2 (b : Nat) (S : gw_S) (A m : Nat) (μ s : gw_M) : Prop := b < 2 ^ 28 ∧ RR b (A + 1) μ (s (m + 1)) ∧ PR b S (A + 83) (m + 1) μ s ∧ RR b (A + 85) μ (s (m + 2)) ∧ PR b S (A + 167) (m + 2) μ s
def nz (f : Nat → Bool) : Nat → Nat
  | 0 => 0
  | n + 1 => nz f n + if f n then 1 else 0
theorem nz_cg {f g : Nat → Bool} : ∀ n, (∀ z, z < n → f z = g z) → nz f n = nz g n := by
  intro n
  induction n with
  | zero => intro _; rfl
  | succ n ih =>
    intro h
    unfold nz
    rw [ih (fun z hz => h z (by omega)), h n (by omega)]
theorem nz_one {f g : Nat → Bool} {k : Nat} (hf : f k = true) (hg : g k = false) : ∀ n, k < n → (∀ z, z < n → z ≠ k → f z = g z) → nz g n + 1 = nz f n := by
  intro n
  induction n with
  | zero => intro h; omega
  | succ n ih =>
    intro hk h
    unfold nz
    by_cases hn : k = n
    · subst hn
      rw [nz_cg k (fun z hz => h z (by omega) (by omega)), hf, hg]
      simp
    · rw [← ih (by omega) (fun z hz hne => h z (by omega) hne), h n (by omega) (by omega)]
      omega
def nul (S : gw_S) (A : Nat) : Nat := nz (fun z => decide (pp S A z = 0)) 40
theorem pp_1 {S : gw_S} {A k : Nat} (hk : k < 20) : pp S A k = gw_rf S (A + 84) k := by
  unfold pp
  rw [if_pos hk, Nat.mod_eq_of_lt hk]
theorem pp_2 {S : gw_S} {A k : Nat} (hk : k < 20) : pp S A (20 + k) = gw_rf S (A + 168) k := by
  unfold pp
  rw [if_neg (by omega), show (20 + k) % 20 = k by omega]
section STEPSR
variable {b A m n : Nat} {S : gw_S} {μ s : gw_M}
theorem PR_cg {e q : Nat} {μ' s' : gw_M} (h : PR b S e q μ s) (hrow : ∀ k, k < 20 → gw_rf S (e + 1) k ≠ 0 → ∀ c y, c < 82 → μ' (gw_rf S (e + 1) k + c) y = μ (gw_rf S (e + 1) k + c) y) (he : μ' e 1 = μ e 1 ∧ μ' e 2 = μ e 2) (hs : ∀ y, (y < 2 ∨ (993 ≤ y ∧ y < 20813)) → s' q y = s q y) : PR b S e q μ' s' := by
  obtain ⟨st, fs, sz, h1, h2, h3, h4, h5, h6, h7, h8⟩ := h
  refine ⟨st, fs, sz, h1, h2, h3, by rw [he.1]; exact h4, by rw [he.2]; exact h5, by rw [hs 0 (by omega)]; exact h6, by rw [hs 1 (by omega)]; exact h7, fun i hi => ?_⟩
  obtain ⟨w1, w2⟩ := h8 i hi
  refine ⟨w1, RR_cg w2 (fun c j hc => hrow _ (Nat.mod_lt _ (by decide)) w1 c j hc) (fun j j1 j2 => hs _ ?_)⟩
  have := Nat.mod_lt (fs + i) (show 0 < 20 by decide)
  omega
theorem PR_mono {e q b' : Nat} (h : PR b S e q μ s) (hb : b ≤ b') (hb' : b' < 2 ^ 28) : PR b' S e q μ s := by
  obtain ⟨st, fs, sz, h1, h2, h3, h4, h5, h6, h7, h8⟩ := h
  exact ⟨st, fs, sz, h1, h2, h3, h4, h5, h6, h7, fun i hi => ⟨(h8 i hi).1, RR_mono (h8 i hi).2 hb hb'⟩⟩
theorem SH_r1 (hS : SH S A m) {k : Nat} (hk : k < 20) (h0 : gw_rf S (A + 84) k ≠ 0) : m + 6 ≤ gw_rf S (A + 84) k ∧ gw_rf S (A + 84) k + 81 ≤ gw_nn S ∧ gw_sh S 3 (gw_rf S (A + 84) k) := by
  have := hS.2.2.2.2.2.1 k (by omega)
  rw [pp_1 hk] at this
  exact this.resolve_left h0
theorem SH_r2 (hS : SH S A m) {k : Nat} (hk : k < 20) (h0 : gw_rf S (A + 168) k ≠ 0) : m + 6 ≤ gw_rf S (A + 168) k ∧ gw_rf S (A + 168) k + 81 ≤ gw_nn S ∧ gw_sh S 3 (gw_rf S (A + 168) k) := by
  have := hS.2.2.2.2.2.1 (20 + k) (by omega)
  rw [pp_2 hk] at this
  exact this.resolve_left h0
theorem R2_cg {μ' s' : gw_M} (hS : SH S A m) (h : R2 b S A m μ s) (hμ : ∀ x y, (A ≤ x ∧ x < A + 169) ∨ m + 6 ≤ x → μ' x y = μ x y) (hs : ∀ x y, x = m + 1 ∨ x = m + 2 → s' x y = s x y) : R2 b S A m μ' s' := by
  obtain ⟨h0, h1, h2, h3, h4⟩ := h
  refine ⟨h0, RR_cg h1 (fun c j hc => hμ _ _ (by omega)) (fun i _ _ => hs _ _ (Or.inl rfl)), PR_cg h2 (fun k hk h0 c y hc => hμ _ _ ?_) ⟨hμ _ _ (by omega), hμ _ _ (by omega)⟩ (fun y _ => hs _ _ (Or.inl rfl)), RR_cg h3 (fun c j hc => hμ _ _ (by omega)) (fun i _ _ => hs _ _ (Or.inr rfl)), PR_cg h4 (fun k hk h0 c y hc => hμ _ _ ?_) ⟨hμ _ _ (by omega), hμ _ _ (by omega)⟩ (fun y _ => hs _ _ (Or.inr rfl))⟩
  · have h6 : m + 6 ≤ gw_rf S (A + 83 + 1) k := (SH_r1 hS hk h0).1
    omega
  · have h6 : m + 6 ≤ gw_rf S (A + 167 + 1) k := (SH_r2 hS hk h0).1
    omega
theorem R2_mono {b' : Nat} (h : R2 b S A m μ s) (hb : b ≤ b') (hb' : b' < 2 ^ 28) : R2 b' S A m μ s :=
  ⟨hb', RR_mono h.2.1 hb hb', PR_mono h.2.2.1 hb hb', RR_mono h.2.2.2.1 hb hb', PR_mono h.2.2.2.2 hb hb'⟩
theorem R2_G (h : R2 b S A m μ s) : Gs b (A + 1) m μ s μ s := by
  obtain ⟨L3, L2, g⟩ := h.2.1
  exact ⟨L3, L2, fun _ _ _ => rfl, fun _ _ _ => rfl, g⟩
/-- what was done to the machine now -/
theorem R2_now {b' : Nat} {μ' s' : gw_M} (hS : SH S A m) (h : R2 b S A m μ s) (hG : Gs b' (A + 1) m μ s μ' s') (hb : b ≤ b') : R2 b' S A m μ' s' := by
  obtain ⟨L3, L2, g1, g2, g3⟩ := hG
  have hb' := g3.1
  obtain ⟨h0, h1, h2, h3, h4⟩ := h
  refine ⟨hb', ⟨L3, L2, g3⟩, PR_mono (PR_cg h2 (fun k hk h0 c y hc => g1 _ _ ?_) ⟨g1 _ _ (by omega), g1 _ _ (by omega)⟩ (fun y hy => g2 _ _ (by omega))) hb hb', RR_mono (RR_cg h3 (fun c j hc => g1 _ _ (by omega)) (fun i _ _ => g2 _ _ (by omega))) hb hb', PR_mono (PR_cg h4 (fun k hk h0 c y hc => g1 _ _ ?_) ⟨g1 _ _ (by omega), g1 _ _ (by omega)⟩ (fun y _ => g2 _ _ (by omega))) hb hb'⟩
  · have h6 : m + 6 ≤ gw_rf S (A + 83 + 1) k := (SH_r1 hS hk h0).1
    have := hS.2.2.2.1
    omega
  · have h6 : m + 6 ≤ gw_rf S (A + 167 + 1) k := (SH_r2 hS hk h0).1
    have := hS.2.2.2.1
    omega
/-- the model keeps a step -/
theorem m_keep56 {x : Nat} (hx : 993 ≤ x) (hx2 : x + 991 ≤ 20813) : ∀ (d k f : Nat) (s : gw_M), k + d = 991 → d < f → ∃ s1, F_X11_keep_56 n m f (nI x) (nI k) s = some (gw_up s1 (m + 1) 0 (s1 (m + 1) 0 + 1)) ∧ ∀ a j, s1 a j = if a = m + 1 ∧ x + k ≤ j ∧ j < x + 991 then s a (2 + (j - x)) else s a j := by
  intro d
  induction d with
  | zero =>
    intro k f s hk hf
    obtain ⟨f, rfl⟩ : ∃ z, f = z + 1 := ⟨f - 1, by omega⟩
    have : k = 991 := by omega
    subst this
    rw [F_X11_keep_56, if_pos (by decide)]
    exact ⟨s, rfl, fun a j => by rw [if_neg (by omega)]⟩
  | succ d ih =>
    intro k f s hk hf
    obtain ⟨f, rfl⟩ : ∃ z, f = z + 1 := ⟨f - 1, by omega⟩
    rw [F_X11_keep_56, if_neg (by rw [show (991 : Int32) = nI 991 from rfl]; exact nI_ge (by omega) (by omega))]
    simp only [gw_let, show (2 : Int32) = nI 2 from rfl, nI_add, nI_1, nI_clamp (show 2 + k < 2 ^ 31 by omega), nI_clamp (show x + k < 2 ^ 31 by omega)]
    rw [if_pos ⟨nI_pos' (by omega), by omega⟩, if_pos ⟨nI_pos' (by omega), by omega⟩]
    obtain ⟨s1, e1, e2⟩ := ih (k + 1) f (gw_up s (m + 1) (x + k) (s (m + 1) (2 + k))) (by omega) (by omega)
    refine ⟨s1, e1, fun a j => ?_⟩
    rw [e2 a j]
    by_cases h1 : a = m + 1 ∧ x + (k + 1) ≤ j ∧ j < x + 991
    · rw [if_pos h1, if_pos ⟨h1.1, by omega, h1.2.2⟩, up_ne (by omega)]
    · rw [if_neg h1, up_at]
      by_cases h2 : a = m + 1 ∧ j = x + k
      · rw [if_pos h2, if_pos ⟨h2.1, by omega, by omega⟩, h2.1, h2.2, show x + k - x = k by omega]
      · rw [if_neg h2, if_neg (by omega)]
theorem m_stepAt {f i : Nat} (hf : f < 20) (hi : i ≤ 20) : F_X11_stepAt n (nI f) (nI i) s = some (nI (993 + 991 * ((f + i) % 20))) := by
  have := pk_rem (a := f + i) (d := 20) (by omega) (by decide) (by decide)
  have h2 : nI (f + i) - nI (f + i) / (20 : Int32) * (20 : Int32) = nI ((f + i) % 20) := this
  simp only [F_X11_stepAt, nI_add, h2]
  rw [show (993 : Int32) = nI 993 from rfl, show (991 : Int32) = nI 991 from rfl, pk_mul, nI_add]
/-- which slot, and where the first one is then -/
def kfs (fs sz : Nat) : Nat := if sz = 20 then (fs + 1) % 20 else fs
theorem m_keep (hn : 1000 ≤ n) {fs sz : Nat} (hfs : fs < 20) (hsz : sz ≤ 20) (h0 : s (m + 1) 0 = nI sz) (h1 : s (m + 1) 1 = nI fs) : ∃ s1, F_X11_keep n m s = some s1 ∧ s1 (m + 1) 0 = nI (min (sz + 1) 20) ∧ s1 (m + 1) 1 = nI (kfs fs sz) ∧ (∀ y, 2 ≤ y → y < 993 → s1 (m + 1) y = s (m + 1) y) ∧ (∀ x y, x ≠ m + 1 → s1 x y = s x y) ∧ (∀ y, 993 ≤ y → (y < 993 + 991 * ((fs + sz) % 20) ∨ 993 + 991 * ((fs + sz) % 20) + 991 ≤ y) → s1 (m + 1) y = s (m + 1) y) ∧ ∀ j, 2 ≤ j → j < 993 → s1 (m + 1) (991 + 991 * ((fs + sz) % 20) + j) = s (m + 1) j := by
  have main : ∀ (f2 i2 : Nat) (s2 : gw_M), f2 < 20 → i2 < 20 → (f2 + i2) % 20 = (fs + sz) % 20 → s2 (m + 1) 0 = nI i2 → s2 (m + 1) 1 = nI f2 → (∀ x y, ¬ (x = m + 1 ∧ y < 2) → s2 x y = s x y) → ∃ s1, F_X11_keep_38 n m s2 = some s1 ∧ s1 (m + 1) 0 = nI (i2 + 1) ∧ s1 (m + 1) 1 = nI f2 ∧ (∀ y, 2 ≤ y → y < 993 → s1 (m + 1) y = s (m + 1) y) ∧ (∀ x y, x ≠ m + 1 → s1 x y = s x y) ∧ (∀ y, 993 ≤ y → (y < 993 + 991 * ((fs + sz) % 20) ∨ 993 + 991 * ((fs + sz) % 20) + 991 ≤ y) → s1 (m + 1) y = s (m + 1) y) ∧ ∀ j, 2 ≤ j → j < 993 → s1 (m + 1) (991 + 991 * ((fs + sz) % 20) + j) = s (m + 1) j := by
    intro f2 i2 s2 hf2 hi2 hsl q0 q1 q2
    have hlt := Nat.mod_lt (fs + sz) (show 0 < 20 by decide)
    obtain ⟨s3, e1, e2⟩ := m_keep56 (n := n) (m := m) (x := 993 + 991 * ((fs + sz) % 20)) (by omega) (by omega) 991 0 n s2 rfl (by omega)
    have e1' : F_X11_keep_56 n m n (nI (993 + 991 * ((fs + sz) % 20))) 0 s2 = _ := e1
    refine ⟨gw_up s3 (m + 1) 0 (s3 (m + 1) 0 + 1), ?_, ?_, ?_, fun y y1 y2 => ?_, fun x y hx => ?_, fun y y1 y2 => ?_, fun j j1 j2 => ?_⟩
    · rw [F_X11_keep_38, q1, q0, m_stepAt hf2 (by omega), Option.bind_some, hsl]
      exact e1'
    · rw [up_eq ⟨rfl, rfl⟩, e2, if_neg (by omega), q0, nI_1]
    · rw [up_ne (by omega), e2, if_neg (by omega), q1]
    · rw [up_ne (by omega), e2, if_neg (by omega), q2 _ _ (by omega)]
    · rw [up_ne (by omega), e2, if_neg (by omega), q2 _ _ (by omega)]
    · rw [up_ne (by omega), e2, if_neg (by omega), q2 _ _ (by omega)]
    · rw [up_ne (by omega), e2, if_pos ⟨rfl, by omega, by omega⟩, q2 _ _ (by omega)]
      congr 1
      omega
  unfold F_X11_keep kfs
  by_cases h20 : sz = 20
  · subst h20
    rw [h0, if_neg (by decide), h1, if_pos rfl]
    have hm : nI fs + 1 - (nI fs + 1) / (20 : Int32) * (20 : Int32) = nI ((fs + 1) % 20) := by
      rw [nI_1]
      exact pk_rem (by omega) (by decide) (by decide)
    simp only [gw_let, hm]
    rw [up_ne (j := 1) (j' := 0) (by omega), h0]
    have := main ((fs + 1) % 20) 19 (gw_up (gw_up s (m + 1) 1 (nI ((fs + 1) % 20))) (m + 1) 0 (nI 20 - 1)) (Nat.mod_lt _ (by decide)) (by decide) (by omega) (up_eq ⟨rfl, rfl⟩) (by rw [up_ne (by omega), up_eq ⟨rfl, rfl⟩]) (fun x y hxy => by rw [up_ne (by omega), up_ne (by omega)])
    exact this
  · rw [h0, if_pos (show ¬ nI sz = 20 from fun c => h20 (nI_inj (b := 20) (by omega) (by omega) c)), if_neg h20, show min (sz + 1) 20 = sz + 1 by omega]
    exact main fs sz s hfs (by omega) rfl h0 h1 (fun _ _ _ => rfl)
end STEPSR
