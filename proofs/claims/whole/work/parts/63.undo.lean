/-! ===== a step is taken back; the image ===== -/
theorem nz_le {f : Nat → Bool} : ∀ j i, i ≤ j → nz f i ≤ nz f j := by
  intro j
  induction j with
  | zero => intro i hi; rw [show i = 0 by omega]; exact Nat.le_refl _
  | succ j ih =>
    intro i hi
    by_cases h : i = j + 1
    · subst h; exact Nat.le_refl _
    · have := ih i (by omega)
      show nz f i ≤ nz f j + if f j then 1 else 0
      omega
section UNDO
variable {b A m n e z0 o zo : Nat} {S : gw_S} {μ s : gw_M}
theorem m_undo39 {x : Nat} (hx : 993 ≤ x) (hx2 : x + 991 ≤ 20813) : ∀ (d k f : Nat) (s : gw_M), k + d = 991 → d < f → ∃ s1, F_X11_undo_39 n m f (nI x) (nI k) s = some (s1 (m + 1) 0, s1) ∧ ∀ a j, s1 a j = if a = m + 1 ∧ 2 + k ≤ j ∧ j < 993 then s a (x + (j - 2)) else s a j := by
  intro d
  induction d with
  | zero =>
    intro k f s hk hf
    obtain ⟨f, rfl⟩ : ∃ z, f = z + 1 := ⟨f - 1, by omega⟩
    have : k = 991 := by omega
    subst this
    rw [F_X11_undo_39, if_pos (by decide)]
    exact ⟨s, rfl, fun a j => by rw [if_neg (by omega)]⟩
  | succ d ih =>
    intro k f s hk hf
    obtain ⟨f, rfl⟩ : ∃ z, f = z + 1 := ⟨f - 1, by omega⟩
    rw [F_X11_undo_39, if_neg (by rw [show (991 : Int32) = nI 991 from rfl]; exact nI_ge (by omega) (by omega))]
    simp only [gw_let, show (2 : Int32) = nI 2 from rfl, nI_add, nI_1, nI_clamp (show 2 + k < 2 ^ 31 by omega), nI_clamp (show x + k < 2 ^ 31 by omega)]
    rw [if_pos ⟨nI_pos' (by omega), by omega⟩, if_pos ⟨nI_pos' (by omega), by omega⟩]
    obtain ⟨s1, e1, e2⟩ := ih (k + 1) f (gw_up s (m + 1) (2 + k) (s (m + 1) (x + k))) (by omega) (by omega)
    refine ⟨s1, e1, fun a j => ?_⟩
    rw [e2 a j]
    by_cases h1 : a = m + 1 ∧ 2 + (k + 1) ≤ j ∧ j < 993
    · rw [if_pos h1, if_pos ⟨h1.1, by omega, h1.2.2⟩, up_ne (by omega)]
    · rw [if_neg h1, up_at]
      by_cases h2 : a = m + 1 ∧ j = 2 + k
      · rw [if_pos h2, if_pos ⟨h2.1, by omega, by omega⟩, h2.1, h2.2, show 2 + k - 2 = k by omega]
      · rw [if_neg h2, if_neg (by omega)]
theorem sim_undo (hn : 1000 ≤ n) (hS : SH S A m) (h : R2 b S A m μ s) : ∃ r μ' s' pu bb, ((¬ μ (A + 83) 2 = 0 → ∃ k, k < 20 ∧ gw_sl (gw_up μ (A + 83) 2 (μ (A + 83) 2 - 1)) (A + 83) = nI k ∧ F_X3_copyFrom n (A + 1) (gw_rf S (A + 84) k) (gw_up μ (A + 83) 2 (μ (A + 83) 2 - 1)) = some pu) ∧ (μ (A + 83) 2 = 0 → pu = μ)) ∧ (∀ (l : Launch) (x : gw_C) (d : Nat) (Q1 : Option Value → gw_S → gw_M → Prop), Q1 none S pu → gw_ok l x (d + 8) sgX5_popInto 0 0 [.ref (A + 83), .ref (A + 1)] S μ Q1) ∧ F_X10_undo n A μ pu = some (r, μ', bb) ∧ F_X11_undo n m s = some (r, s') ∧ R2 b S A m μ' s' ∧ (∀ x y, m ≤ x → x < m + 6 → μ' x y = μ x y) ∧ ∀ x y, x ≠ m + 1 → s' x y = s x y := by
  have h' := h
  obtain ⟨h0, h1, h2, h3, h4⟩ := h'
  obtain ⟨st, fs, sz, a1, a2, a3, a4, a5, a6, a7, a8⟩ := h2
  have hA := hS.2.2.2.1
  have hE : gw_sh S 5 (A + 83) := gw_sub hS.2.1 5 83 (by decide +kernel)
  by_cases hz : sz = 0
  · subst hz
    have a5' : μ (A + 83) 2 = 0 := a5
    have a6' : s (m + 1) 0 = 0 := a6
    refine ⟨-1, μ, s, μ, false, ⟨fun c => absurd a5' c, fun _ => rfl⟩, fun l x d Q1 hq => ok_X5_popInto0 (d := d + 2) hE a5' hq, ?_, ?_, h, fun _ _ _ _ => rfl, fun _ _ _ => rfl⟩
    · rw [F_X10_undo, if_neg (not_not_intro a5')]
    · rw [F_X11_undo, if_neg (not_not_intro a6')]
  · obtain ⟨w1, w2⟩ := a8 (sz - 1) (by omega)
    have hk : (st + (sz - 1)) % 20 < 20 := Nat.mod_lt _ (by decide)
    have hf : (fs + (sz - 1)) % 20 < 20 := Nat.mod_lt _ (by decide)
    have hr := SH_r1 hS hk w1
    have hpr : nI sz - 1 = nI (sz - 1) := by
      obtain ⟨z, rfl⟩ : ∃ z, sz = z + 1 := ⟨sz - 1, by omega⟩
      exact nI_pred z
    have μd : ∃ μd, μd = gw_up μ (A + 83) 2 (μ (A + 83) 2 - 1) := ⟨_, rfl⟩
    obtain ⟨μd, hμd⟩ := μd
    have d1 : ∀ x y, ¬ (x = A + 83 ∧ y = 2) → μd x y = μ x y := fun x y hxy => by rw [hμd]; exact up_ne hxy
    have d2 : μd (A + 83) 2 = nI (sz - 1) := by rw [hμd, up_eq ⟨rfl, rfl⟩, a5, hpr]
    have w2' : RR b (gw_rf S (A + 84) ((st + (sz - 1)) % 20)) μd (fun j => s (m + 1) (991 + 991 * ((fs + (sz - 1)) % 20) + j)) := RR_cg w2 (fun c j hc => d1 _ _ (by show ¬ (gw_rf S (A + 84) _ + c = _ ∧ _); omega)) (fun _ _ _ => rfl)
    obtain ⟨μ1, c1, c2, c3⟩ := sim_copy (n := n) hn (a := A + 1) (p := gw_rf S (A + 84) ((st + (sz - 1)) % 20)) (by omega) w2'
    have sd : ∃ sd, sd = gw_up s (m + 1) 0 (s (m + 1) 0 - 1) := ⟨_, rfl⟩
    obtain ⟨sd, hsd⟩ := sd
    have s1d : ∀ x y, ¬ (x = m + 1 ∧ y = 0) → sd x y = s x y := fun x y hxy => by rw [hsd]; exact up_ne hxy
    have s2d : sd (m + 1) 0 = nI (sz - 1) := by rw [hsd, up_eq ⟨rfl, rfl⟩, a6, hpr]
    obtain ⟨s1, k1, k2⟩ := m_undo39 (n := n) (m := m) (x := 993 + 991 * ((fs + (sz - 1)) % 20)) (by omega) (by omega) 991 0 n sd rfl (by omega)
    have k1' : F_X11_undo_39 n m n (nI (993 + 991 * ((fs + (sz - 1)) % 20))) 0 sd = _ := k1
    have f0 : s1 (m + 1) 0 = nI (sz - 1) := by rw [k2, if_neg (by omega)]; exact s2d
    have fr : ∀ x y, x < A + 1 ∨ A + 83 ≤ x → ¬ (x = A + 83 ∧ y = 2) → μ1 x y = μ x y := fun x y hx hxy => by rw [c3 x y (by omega), d1 x y hxy]
    have m83 : μ1 (A + 83) 2 = nI (sz - 1) := by rw [c3 _ _ (by omega)]; exact d2
    have hne : ¬ μ (A + 83) 2 = 0 := by
      rw [a5]
      exact fun c => hz (nI_inj (b := 0) (by omega) (by omega) c)
    have hsl : gw_sl (gw_up μ (A + 83) 2 (μ (A + 83) 2 - 1)) (A + 83) = nI ((st + (sz - 1)) % 20) := by
      rw [← hμd]
      unfold gw_sl
      rw [d1 _ _ (by omega), a4, d2, nI_add]
      exact pk_rem (by omega) (by decide) (by decide)
    refine ⟨nI (sz - 1), μ1, s1, μ1, true, ⟨fun _ => ⟨(st + (sz - 1)) % 20, hk, hsl, by rw [← hμd]; exact c1⟩, fun c => absurd c hne⟩, fun l x d Q1 hq => ?_, ?_, ?_, ⟨h0, ?_, ?_, ?_, ?_⟩, fun x y hx hx2 => fr x y (by omega) (by omega), fun x y hx => by rw [k2, if_neg (by omega), s1d _ _ (by omega)]⟩
    · refine ok_X5_popInto (d := d + 2) (k := (st + (sz - 1)) % 20) (n0 := n) (μ1 := μ1) hE (gw_sub hS.2.1 3 1 (by decide +kernel)) hne hk hsl w1 hr.2.2 ?_ hq
      rw [← hμd]
      exact c1
    · rw [F_X10_undo, if_pos]
      · show some (μ1 (A + 83) 2, μ1, true) = _
        rw [m83]
      · rw [a5]
        exact fun c => hz (nI_inj (b := 0) (by omega) (by omega) c)
    · rw [F_X11_undo, if_pos]
      · simp only [gw_let]
        rw [← hsd, s1d _ _ (by omega), a7, s2d, m_stepAt a2 (by omega), Option.bind_some, k1', f0]
      · rw [a6]
        exact fun c => hz (nI_inj (b := 0) (by omega) (by omega) c)
    · refine RR_cg c2 (fun _ _ _ => rfl) (fun j j1 j2 => ?_)
      rw [k2, if_pos ⟨rfl, by omega, j2⟩, s1d _ _ (by omega)]
      congr 1
      omega
    · refine ⟨st, fs, sz - 1, a1, a2, by omega, by rw [fr _ _ (by omega) (by omega)]; exact a4, m83, f0, by rw [k2, if_neg (by omega), s1d _ _ (by omega)]; exact a7, fun i hi => ?_⟩
      obtain ⟨v1, v2⟩ := a8 i (by omega)
      have hki : (st + i) % 20 < 20 := Nat.mod_lt _ (by decide)
      have hri := SH_r1 hS hki v1
      refine ⟨v1, RR_cg v2 (fun c j hc => fr _ _ ?_ ?_) (fun j j1 j2 => ?_)⟩
      · show gw_rf S (A + 84) _ + c < _ ∨ _ ≤ gw_rf S (A + 84) _ + c
        omega
      · show ¬ (gw_rf S (A + 84) _ + c = _ ∧ _)
        omega
      · have := Nat.mod_lt (fs + i) (show 0 < 20 by decide)
        rw [k2, if_neg (by omega), s1d _ _ (by omega)]
    · exact RR_cg h3 (fun c j hc => fr _ _ (by omega) (by omega)) (fun j _ _ => by rw [k2, if_neg (by omega), s1d _ _ (by omega)])
    · refine PR_cg h4 (fun k hk h0 c y hc => fr _ _ ?_ ?_) ⟨fr _ _ (by omega) (by omega), fr _ _ (by omega) (by omega)⟩ (fun y _ => by rw [k2, if_neg (by omega), s1d _ _ (by omega)])
      · have := (SH_r2 hS hk h0).1
        show gw_rf S (A + 168) _ + c < _ ∨ _ ≤ gw_rf S (A + 168) _ + c
        omega
      · have := (SH_r2 hS hk h0).1
        show ¬ (gw_rf S (A + 168) _ + c = _ ∧ _)
        omega
theorem sim_undo2 (hn : 1000 ≤ n) (hS : SH S A m) (h : R2 b S A m μ s) : ∃ r μ' pu bb, (∀ (l : Launch) (x : gw_C) (d : Nat) (Q1 : Option Value → gw_S → gw_M → Prop), Q1 none S pu → gw_ok l x (d + 8) sgX5_popInto 0 0 [.ref (A + 83), .ref (A + 1)] S μ Q1) ∧ F_X10_undo n A μ pu = some (r, μ', bb) ∧ (∀ x y, m ≤ x → x < m + 6 → μ' x y = μ x y) ∧ ∀ s, R2 b S A m μ s → ∃ s', F_X11_undo n m s = some (r, s') ∧ R2 b S A m μ' s' ∧ ∀ x y, x ≠ m + 1 → s' x y = s x y := by
  obtain ⟨r, μ', -, pu, bb, ⟨a1, a2⟩, a3, a4, -, -, a5, -⟩ := sim_undo (n := n) hn hS h
  refine ⟨r, μ', pu, bb, a3, a4, a5, fun s h' => ?_⟩
  obtain ⟨r2, μ2, s2, pu2, bb2, ⟨b1, b2⟩, -, b4, b6, b7, -, b9⟩ := sim_undo (n := n) hn hS h'
  have hpu : pu2 = pu := by
    by_cases c : μ (A + 83) 2 = 0
    · rw [a2 c, b2 c]
    · obtain ⟨k, k1, k2, k3⟩ := a1 c
      obtain ⟨k', k1', k2', k3'⟩ := b1 c
      have hk : k' = k := nI_inj (by omega) (by omega) (k2'.symm.trans k2)
      subst hk
      rw [k3] at k3'
      exact (Option.some.inj k3').symm
  subst hpu
  rw [a4] at b4
  obtain ⟨q1, q2, q3⟩ := gw_inj3 b4
  subst q1
  subst q2
  exact ⟨s2, b6, b7, b9⟩
/-- all steps are copied from one past to the other -/
def pcP (b A m e o : Nat) (S0 : gw_S) (μ0 : gw_M) (st N : Nat) (ν : Nat → Nat → Int32) (i bb : Nat) (S : gw_S) (μ : gw_M) : Prop := bb = nz (fun j => decide (gw_rf S0 (e + 1) j = 0)) i ∧ SH S A m ∧ nul S A + bb = nul S0 A ∧ (∀ j, j < 20 → i ≤ j → gw_rf S (e + 1) j = gw_rf S0 (e + 1) j) ∧ PC b S e μ 0 i ν ∧ PC b S o μ st N ν ∧ (∀ x y, x < m + 6 → x ≠ e → μ x y = μ0 x y)
theorem pc_0 (hS : SH S A m) (he : eZ A e z0) (ho : eZ A o zo) (hzz : z0 ≠ zo) {st N : Nat} {ν : Nat → Nat → Int32} (h : PC b S o μ st N ν) : pcP b A m e o S μ st N ν 0 0 S (gw_up (gw_up μ e 1 0) e 2 0) := by
  obtain ⟨h1, h2, h3, h4, h5⟩ := h
  obtain ⟨-, -, e3, e4⟩ := eZ_sh hS he
  obtain ⟨-, -, o3, o4⟩ := eZ_sh hS ho
  have hne : o ≠ e := by
    rcases he with ⟨p1, p2⟩ | ⟨p1, p2⟩ <;> rcases ho with ⟨q1, q2⟩ | ⟨q1, q2⟩ <;> omega
  refine ⟨rfl, hS, rfl, fun _ _ _ => rfl, ⟨by decide, by decide, by rw [up_ne (by omega), up_eq ⟨rfl, rfl⟩]; rfl, by rw [up_eq ⟨rfl, rfl⟩]; rfl, fun i hi => absurd hi (by omega)⟩, ⟨h1, h2, by rw [up_ne (by omega), up_ne (by omega)]; exact h3, by rw [up_ne (by omega), up_ne (by omega)]; exact h4, fun i hi => ?_⟩, fun x y hx hxe => by rw [up_ne (by omega), up_ne (by omega)]⟩
  obtain ⟨w1, w2⟩ := h5 i hi
  have hk : (st + i) % 20 < 20 := Nat.mod_lt _ (by decide)
  have hz : zo + (st + i) % 20 < 40 := by rcases ho with ⟨rfl, -⟩ | ⟨rfl, -⟩ <;> omega
  have hr := (hS.2.2.2.2.2.1 _ hz).resolve_left (by rw [eZ_pp ho hk]; exact w1)
  rw [eZ_pp ho hk] at hr
  exact ⟨w1, RR_cg w2 (fun c j hc => by rw [up_ne (by omega), up_ne (by omega)]) (fun _ _ _ => rfl)⟩
theorem pc_s (hn : 1000 ≤ n) (he : eZ A e z0) (ho : eZ A o zo) (hzz : z0 ≠ zo) {S0 : gw_S} {μ0 : gw_M} {st N i bb : Nat} {ν : Nat → Nat → Int32} (hi : i < N) (h : pcP b A m e o S0 μ0 st N ν i bb S μ) : ∃ b' S' μ', gw_cst n e o i S μ bb b' S' μ' ∧ pcP b A m e o S0 μ0 st N ν (i + 1) b' S' μ' := by
  obtain ⟨p1, hS, p3, p4, p5, p6, p7⟩ := h
  obtain ⟨o1, o2, o3, o4, o5⟩ := p6
  obtain ⟨w1, w2⟩ := o5 i hi
  have hk : (st + i) % 20 < 20 := Nat.mod_lt _ (by decide)
  have hz : zo + (st + i) % 20 < 40 := by rcases ho with ⟨rfl, -⟩ | ⟨rfl, -⟩ <;> omega
  have hr := (hS.2.2.2.2.2.1 _ hz).resolve_left (by rw [eZ_pp ho hk]; exact w1)
  rw [eZ_pp ho hk] at hr
  have hii : (0 + i) % 20 = i := by omega
  have hne : o ≠ e := by
    rcases he with ⟨p1, p2⟩ | ⟨p1, p2⟩ <;> rcases ho with ⟨q1, q2⟩ | ⟨q1, q2⟩ <;> omega
  have hoe : ¬ o + 1 = e := by
    rcases he with ⟨p1, p2⟩ | ⟨p1, p2⟩ <;> rcases ho with ⟨q1, q2⟩ | ⟨q1, q2⟩ <;> omega
  have hoe2 : ¬ o + 1 = e + 1 := by omega
  obtain ⟨-, -, e3, e4⟩ := eZ_sh hS he
  obtain ⟨-, -, f3, f4⟩ := eZ_sh hS ho
  obtain ⟨q1, q2, q3, q4, q5, q6, q7, q8⟩ := SH_push hS he (k := i) (by omega)
  have hzne : ∀ j j', j < 20 → j' < 20 → zo + j ≠ z0 + j' := by
    intro j j' hj hj'
    rcases he with ⟨p1, p2⟩ | ⟨p1, p2⟩ <;> rcases ho with ⟨q1, q2⟩ | ⟨q1, q2⟩ <;> omega
  have hd := q6 _ hz (hzne _ _ hk (by omega)) (by rw [eZ_pp ho hk]; exact w1)
  rw [eZ_pp ho hk] at hd
  obtain ⟨μ1, c1, c2, c3, c4⟩ := c_push (n := n) hn hS he p5 w2 hr.2.1 (by rw [hii]; exact hd)
  rw [hii] at c1 c2 c3 c4
  have orf : ∀ j, j < 20 → gw_rf (gw_pS S e i) (o + 1) j = gw_rf S (o + 1) j := by
    intro j hj
    have hzj : zo + j < 40 := by rcases ho with ⟨rfl, -⟩ | ⟨rfl, -⟩ <;> omega
    have := q2 (zo + j) hzj
    rw [eZ_pp ho hj, eZ_pp ho hj, if_neg (hzne _ _ hj (by omega))] at this
    exact this
  have hb' : bb + (if gw_rf S (e + 1) i = 0 then 1 else 0) = nz (fun j => decide (gw_rf S0 (e + 1) j = 0)) (i + 1) := by
    rw [p4 i (by omega) (Nat.le_refl _), p1]
    show _ = nz _ i + if decide (gw_rf S0 (e + 1) i = 0) = true then 1 else 0
    by_cases c : gw_rf S0 (e + 1) i = 0
    · simp [c]
    · simp [c]
  refine ⟨bb + (if gw_rf S (e + 1) i = 0 then 1 else 0), gw_pS S e i, gw_pE μ1 e, ⟨(st + i) % 20, i, μ1, hk, by omega, ?_, w1, hr.2.2, c1, ?_, c2, fun c => by rw [if_pos c]; exact Nat.le_refl _, by omega, rfl, rfl⟩, hb', q1, by omega, fun j hj hij => ?_, ?_, ?_, fun x y hx hxe => ?_⟩
  · rw [o3, nI_add]
    exact pk_rem (by omega) (by decide) (by decide)
  · by_cases c : gw_rf S (e + 1) i = 0
    · exact Or.inl c
    · have hz2 : z0 + i < 40 := by rcases he with ⟨rfl, -⟩ | ⟨rfl, -⟩ <;> omega
      have := (hS.2.2.2.2.2.1 _ hz2).resolve_left (by rw [eZ_pp he (by omega)]; exact c)
      rw [eZ_pp he (by omega)] at this
      exact Or.inr this.2.2
  · rw [q7 j hj, if_neg (by omega)]
    exact p4 j hj (by omega)
  · obtain ⟨g1, g2, g3, g4, g5⟩ := c3
    have hkf : kfs 0 i = 0 := by
      unfold kfs
      rw [if_neg (by omega)]
    rw [hkf] at g3 g5
    rw [show min (i + 1) 20 = i + 1 by omega] at g4 g5
    refine ⟨by decide, by omega, g3, g4, fun j hj => ?_⟩
    obtain ⟨v1, v2⟩ := g5 j hj
    refine ⟨v1, ?_⟩
    simp only at v2
    by_cases c : j + 1 = i + 1
    · have : j = i := by omega
      subst this
      rw [if_pos rfl] at v2
      exact v2
    · rw [if_neg c, if_neg (show ¬ i = 20 by omega)] at v2
      exact v2
  · refine ⟨o1, o2, by rw [c4 _ _ (by omega) (by omega) (by omega)]; exact o3, by rw [c4 _ _ (by omega) (by omega) (by omega)]; exact o4, fun j hj => ?_⟩
    obtain ⟨v1, v2⟩ := o5 j hj
    have hkj : (st + j) % 20 < 20 := Nat.mod_lt _ (by decide)
    have hzj : zo + (st + j) % 20 < 40 := by rcases ho with ⟨rfl, -⟩ | ⟨rfl, -⟩ <;> omega
    have hrj := (hS.2.2.2.2.2.1 _ hzj).resolve_left (by rw [eZ_pp ho hkj]; exact v1)
    have hdj := q6 _ hzj (hzne _ _ hkj (by omega)) (by rw [eZ_pp ho hkj]; exact v1)
    rw [eZ_pp ho hkj] at hrj hdj
    rw [orf _ hkj]
    exact ⟨v1, RR_cg v2 (fun c y hc => c4 _ _ (by omega) (by omega) (by omega)) (fun _ _ _ => rfl)⟩
  · rw [c4 x y (by omega) hxe (by omega)]
    exact p7 x y hx hxe
end UNDO
