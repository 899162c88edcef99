/-! ===== a call of the class, and then the same call of the model ===== -/
abbrev gw_Q : Type := Option Value → gw_S → gw_M → Prop
def PAIR (b c A m : Nat) (S : gw_S) (M : gw_M) (g1 g2 : gw_Sig) (a1 a2 : List Value) : Prop := ∃ mc ms, (mc ≤ 1640 ∧ ms ≤ 22140) ∧ ∀ (l : Launch) (x : gw_C) (d : Nat) (Q : gw_Q), (∀ (r : Int32) S' M1, SH S' A m → (∀ (d2 : Nat) (Q2 : gw_Q), (∀ M2, SH S' A m → R2 (b + c) S' A m M2 M2 → nul S' A * 82 + mc ≤ nul S A * 82 + 82 → nul S' A * 1107 + ms ≤ nul S A * 1107 + 1107 → Q2 (some (.int r)) S' M2) → gw_ok l x (d2 + 14) g2 0 0 a2 S' M1 Q2) → Q (some (.int r)) S' M1) → gw_ok l x (d + 14) g1 mc ms a1 S M Q
theorem nz_n (f : Nat → Bool) : ∀ n, nz f n ≤ n
  | 0 => Nat.le_refl _
  | n + 1 => by
    have := nz_n f n
    unfold nz
    split <;> omega
section PAIRS
variable {b c A m n : Nat} {S : gw_S} {M : gw_M} {g1 g2 : gw_Sig} {a1 a2 : List Value}
theorem mk_push (hn : 1000 ≤ n) (hS : SH S A m) (hR : R2 b S A m M M) (hb : b + c < 2 ^ 28) (F : gw_M → Option (Int32 × gw_M × Bool)) (F2 : gw_M → Option (Int32 × gw_M))
    (H1 : ∀ (l : Launch) (x : gw_C) (d mc ms : Nat) (Sp : gw_S) (Q : gw_Q) (pu : gw_M) (r : Int32) (μ' : gw_M) (bb : Bool), (∀ {c e : Nat}, gw_sh S c e → gw_sh Sp c e) → (∀ {Q1 : gw_Q}, Q1 none Sp pu → gw_ok l x (d + 8) sgX5_push mc ms [.ref (A + 83), .ref (A + 1)] S M Q1) → F pu = some (r, μ', bb) → Q (some (.int r)) (cond bb Sp S) μ' → gw_ok l x (d + 9) g1 mc ms a1 S M Q)
    (H2 : ∀ (l : Launch) (x : gw_C) (d : Nat) (S' : gw_S) (Q : gw_Q) (s : gw_M) (r : Int32) (s' : gw_M), gw_sh S' 11 m → F2 s = some (r, s') → Q (some (.int r)) S' s' → gw_ok l x (d + 14) g2 0 0 a2 S' s Q)
    (HS : ∀ pu s s1, Gs b (A + 1) m M s M s → Gs b (A + 1) m pu s1 pu s1 → F_X11_keep n m s = some s1 → (∀ c y, c < 82 → pu (A + 1 + c) y = M (A + 1 + c) y) → ∃ r μ' s' bb, F pu = some (r, μ', bb) ∧ F2 s = some (r, s') ∧ ((bb = false ∧ μ' = M ∧ s' = s) ∨ (bb = true ∧ Gs (b + c) (A + 1) m pu s1 μ' s'))) : PAIR b c A m S M g1 g2 a1 a2 := by
  obtain ⟨k, pu, k1, k2, k3, k4⟩ := sim_push2 (n := n) hn hS hR
  have hA := hS.2.2.2.1
  have he : eZ A (A + 83) 0 := Or.inl ⟨rfl, rfl⟩
  obtain ⟨q1, -, -, -, q5, -, -, -⟩ := SH_push hS he k1
  have hnow : ∀ c y, c < 82 → pu (A + 1 + c) y = M (A + 1 + c) y := fun c y hc => k3 _ _ (by omega) (by omega)
  obtain ⟨s1, e1, e2, e3, e4⟩ := k4 M hR
  obtain ⟨r, μ', s', bb, f1, f2, f3⟩ := HS pu M s1 (R2_G hR) (R2_G e2) e1 hnow
  refine ⟨pmc S (A + 83) k, pms S (A + 83) k, ⟨by unfold pmc; split <;> omega, by unfold pms; split <;> omega⟩, fun l x d Q hQ => ?_⟩
  refine H1 l x (d + 5) _ _ (gw_pS S (A + 83) k) Q pu r μ' bb (fun h => gw_pS_mono hS.1 (gw_sub hS.2.1 5 83 (by decide +kernel)) h) (fun {Q1} hq => k2 l x (d + 5) Q1 hq) f1 (hQ r _ μ' (by cases bb with | true => exact q1 | false => exact hS) (fun d2 Q2 h2 => ?_))
  have hag : ∀ x y, m ≤ x → x < m + 6 → μ' x y = M x y := by
    intro x y hx hx2
    rcases f3 with ⟨-, rfl, -⟩ | ⟨-, L3, L2, g, -⟩
    · rfl
    · rw [g x y (by omega), k3 x y hx2 (by omega)]
  have hR1 : R2 b S A m M μ' := R2_cg hS hR (fun _ _ _ => rfl) (fun x y hx => hag x y (by omega) (by omega))
  obtain ⟨s1', e1', e2', e3', e4'⟩ := k4 μ' hR1
  obtain ⟨r', μ'', s'', bb', f1', f2', f3'⟩ := HS pu μ' s1' (R2_G hR1) (R2_G e2') e1' hnow
  rw [f1] at f1'
  obtain ⟨z1, z2, z3⟩ := gw_inj3 f1'
  subst z1
  subst z2
  subst z3
  rcases f3' with ⟨rfl, y2, y3⟩ | ⟨rfl, g⟩
  · refine H2 l x d2 S Q2 μ' r s'' hS.2.2.1 f2' (h2 s'' hS ?_ ?_ ?_)
    · rw [y3, y2]
      exact R2_mono hR (by omega) hb
    · show nul S A * 82 + _ ≤ _
      unfold pmc
      split <;> omega
    · show nul S A * 1107 + _ ≤ _
      unfold pms
      split <;> omega
  · refine H2 l x d2 (gw_pS S (A + 83) k) Q2 μ' r s'' q1.2.2.1 f2' (h2 s'' q1 ?_ ?_ ?_)
    · have w := R2_now q1 e2' g (by omega)
      obtain ⟨L3, L2, -, gN, -⟩ := g
      have sm : ∀ x y, x ≠ m + 1 → s'' x y = μ' x y := fun x y hx => by rw [gN x y (by omega), e3' x y hx]
      exact R2_cg q1 w (fun x y hx => sm x y (by omega)) (fun _ _ _ => rfl)
    · show nul (gw_pS S (A + 83) k) A * 82 + _ ≤ _
      unfold pmc
      split
      · rename_i hh; rw [if_pos hh] at q5; omega
      · rename_i hh; rw [if_neg hh] at q5; omega
    · show nul (gw_pS S (A + 83) k) A * 1107 + _ ≤ _
      unfold pms
      split
      · rename_i hh; rw [if_pos hh] at q5; omega
      · rename_i hh; rw [if_neg hh] at q5; omega
/-- calls that change nothing but cells that nobody looks at -/
theorem mk_read (hS : SH S A m) (hR : R2 b S A m M M) (F : Option (Int32 × gw_M)) (F2 : gw_M → Option (Int32 × gw_M))
    (H1 : ∀ (l : Launch) (x : gw_C) (d : Nat) (Q : gw_Q) (r : Int32) (μ' : gw_M), F = some (r, μ') → Q (some (.int r)) S μ' → gw_ok l x (d + 14) g1 0 0 a1 S M Q)
    (H2 : ∀ (l : Launch) (x : gw_C) (d : Nat) (Q : gw_Q) (s : gw_M) (r : Int32) (s' : gw_M), F2 s = some (r, s') → Q (some (.int r)) S s' → gw_ok l x (d + 14) g2 0 0 a2 S s Q)
    (HS : ∀ s, Gs b (A + 1) m M s M s → ∃ r μ' s', F = some (r, μ') ∧ F2 s = some (r, s') ∧ (∀ x y, (A ≤ x ∧ x < A + 169) ∨ m ≤ x → μ' x y = M x y) ∧ (∀ x y, (x < m ∨ m + 6 ≤ x) ∨ x = m + 2 → s' x y = s x y) ∧ (∀ y, y < 20813 → s' (m + 1) y = s (m + 1) y)) : PAIR b 0 A m S M g1 g2 a1 a2 := by
  obtain ⟨r, μ', s', f1, f2, f3, f4, f5⟩ := HS M (R2_G hR)
  refine ⟨0, 0, ⟨Nat.zero_le _, Nat.zero_le _⟩, fun l x d Q hQ => H1 l x d Q r μ' f1 (hQ r S μ' hS (fun d2 Q2 h2 => ?_))⟩
  have hA := hS.2.2.2.1
  have hR1 : R2 b S A m M μ' := R2_cg hS hR (fun _ _ _ => rfl) (fun x y hx => f3 x y (by omega))
  obtain ⟨r', μ'', s'', f1', f2', f3', f4', f5'⟩ := HS μ' (R2_G hR1)
  rw [f1] at f1'
  obtain ⟨z1, z2⟩ := gw_inj2 f1'
  subst z1
  subst z2
  refine H2 l x d2 Q2 μ' r s'' f2' (h2 s'' hS ?_ (by omega) (by omega))
  have w : R2 b S A m μ' μ' := R2_cg hS hR1 (fun x y hx => f3 x y (by omega)) (fun _ _ _ => rfl)
  obtain ⟨h0, h1, h2', h3, h4⟩ := w
  have sm : ∀ x y, (A ≤ x ∧ x < A + 169) ∨ m + 6 ≤ x → s'' x y = μ' x y := fun x y hx => f4' x y (by omega)
  have sn : ∀ y, s'' (m + 2) y = μ' (m + 2) y := fun y => f4' _ y (by omega)
  refine ⟨h0, RR_cg h1 (fun c j hc => sm _ _ (by omega)) (fun i _ _ => f5' i (by omega)), PR_cg h2' (fun k hk h0 c y hc => sm _ _ ?_) ⟨sm _ _ (by omega), sm _ _ (by omega)⟩ (fun y hy => f5' y (by omega)), RR_cg h3 (fun c j hc => sm _ _ (by omega)) (fun i _ _ => sn i), PR_cg h4 (fun k hk h0 c y hc => sm _ _ ?_) ⟨sm _ _ (by omega), sm _ _ (by omega)⟩ (fun y hy => sn y)⟩
  · have h6 : m + 6 ≤ gw_rf S (A + 83 + 1) k := (SH_r1 hS hk h0).1
    omega
  · have h6 : m + 6 ≤ gw_rf S (A + 167 + 1) k := (SH_r2 hS hk h0).1
    omega
theorem pr_undo (hn : 1000 ≤ n) (hS : SH S A m) (hR : R2 b S A m M M) : PAIR b 0 A m S M sgX10_undo sgX11_undo [.ref A] [.ref m] := by
  obtain ⟨r, μ', pu, bb, k1, k2, k3, k4⟩ := sim_undo2 (n := n) hn hS hR
  have hA := hS.2.2.2.1
  refine ⟨0, 0, ⟨Nat.zero_le _, Nat.zero_le _⟩, fun l x d Q hQ => ?_⟩
  have hc : cond bb S S = S := by cases bb <;> rfl
  refine ok_X10_undo (d := d + 5) (Sp := S) (pu := pu) (fun h => h) (fun {Q1} hq => k1 l x (d + 5) Q1 hq) hS.2.1 k2 ?_
  rw [hc]
  refine hQ r S μ' hS (fun d2 Q2 h2 => ?_)
  have hR1 : R2 b S A m M μ' := R2_cg hS hR (fun _ _ _ => rfl) (fun x y hx => k3 x y (by omega) (by omega))
  obtain ⟨s', e1, e2, e3⟩ := k4 μ' hR1
  refine ok_X11_undo (d := d2 + 12) hS.2.2.1 e1 (h2 s' hS ?_ (by omega) (by omega))
  exact R2_cg hS e2 (fun x y hx => e3 x y (by omega)) (fun _ _ _ => rfl)
theorem cpy_row (μ : gw_M) (a b x y : Nat) : gw_cpy μ a b 0 0 20813 x y = if x = b ∧ y < 20813 then μ a y else μ x y := by
  simp only [gw_cpy, gw_row, va_cpy, Nat.zero_add, Nat.zero_le, true_and, Nat.sub_zero]
  by_cases hx : x = b
  · subst hx
    by_cases hy : y < 20813
    · simp [hy]
    · simp [hy]
  · rw [if_neg hx, if_neg (fun c => hx c.1)]
theorem pr_image (hn : 1000 ≤ n) (hS : SH S A m) (hR : R2 b S A m M M) : PAIR b 0 A m S M sgX10_image sgX11_image [.ref A] [.ref m] := by
  obtain ⟨h0, h1, h2, h3, h4⟩ := hR
  have hA := hS.2.2.2.1
  obtain ⟨st, fs, sz, f1, f2, f3, hP⟩ := PR_PC h2
  have he : eZ A (A + 167) 20 := Or.inr ⟨rfl, rfl⟩
  have ho : eZ A (A + 83) 0 := Or.inl ⟨rfl, rfl⟩
  obtain ⟨μ1, c1, c2, c3⟩ := sim_copy (n := n) hn (a := A + 85) (p := A + 1) (by omega) h1
  have hP1 : PC b S (A + 83) μ1 st sz (fun i j => M (m + 1) (991 + 991 * ((fs + i) % 20) + j)) := by
    obtain ⟨a1, a2, a3, a4, a5⟩ := hP
    refine ⟨a1, a2, by rw [c3 _ _ (by omega)]; exact a3, by rw [c3 _ _ (by omega)]; exact a4, fun i hi => ?_⟩
    obtain ⟨w1, w2⟩ := a5 i hi
    have := (SH_r1 hS (Nat.mod_lt (st + i) (by decide)) w1).1
    exact ⟨w1, RR_cg w2 (fun c j hc => c3 _ _ (by show gw_rf S (A + 84) _ + c < _ ∨ _ ≤ gw_rf S (A + 84) _ + c; omega)) (fun _ _ _ => rfl)⟩
  refine ⟨82 * nz (fun j => decide (gw_rf S (A + 167 + 1) j = 0)) sz, 1107 * nz (fun j => decide (gw_rf S (A + 167 + 1) j = 0)) sz, (by have h1 := nz_n (fun j => decide (gw_rf S (A + 167 + 1) j = 0)) sz; have h2 := hP.2.1; omega), fun l x d Q hQ => ?_⟩
  refine ok_X10_image (d := d + 6) (n0 := n) (pcP b A m (A + 167) (A + 83) S μ1 st sz _) sz _ hP.2.1 hS.2.1 c1 (pc_0 hS he ho (by decide) hP1) (fun i bb S' μ hi hp => ?_) (fun i bb S' μ hi hp => pc_s hn he ho (by decide) hi hp) (fun bb S' M1 hp => ?_)
  · obtain ⟨p1, p2, p3, p4, p5, p6, p7⟩ := hp
    exact ⟨p2.2.1, p6.2.2.2.1, by rw [p1]; exact nz_le _ _ hi⟩
  · obtain ⟨p1, p2, p3, p4, p5, p6, p7⟩ := hp
    have lo : ∀ x y, x < m + 6 → x ≠ A + 167 → (x < A + 85 ∨ A + 167 ≤ x) → M1 x y = M x y := fun x y hx hx2 hx3 => by rw [p7 x y hx hx2, c3 x y (by omega)]
    refine hQ (M1 (A + 1) 7) S' M1 p2 (fun d2 Q2 h2 => ?_)
    have i3 : M1 (m + 1) 3 = M1 (A + 1) 7 := by
      rw [lo _ _ (by omega) (by omega) (by omega), lo _ _ (by omega) (by omega) (by omega)]
      obtain ⟨L3, L2, g⟩ := h1
      exact (g.2.1 3 0 7 (by decide +kernel)).1
    have hM2 : gw_cpy M1 (m + 1) (m + 2) 0 0 20813 (m + 1) 3 = M1 (A + 1) 7 := by
      rw [cpy_row, if_neg (by omega), i3]
    refine ok_X11_image (d := d2 + 12) (n0 := n) p2.2.2.1 (r := M1 (A + 1) 7) (μ' := gw_cpy M1 (m + 1) (m + 2) 0 0 20813) ?_ (h2 _ p2 ⟨h0, ?_, ?_, ?_, ?_⟩ ?_ ?_)
    · simp only [F_X11_image, gw_let]
      rw [hM2]
    · refine RR_cg h1 (fun c j hc => ?_) (fun i i1 i2 => ?_)
      · rw [cpy_row, if_neg (by omega), lo _ _ (by omega) (by omega) (by omega)]
      · rw [cpy_row, if_neg (by omega), lo _ _ (by omega) (by omega) (by omega)]
    · refine PC_PR (ν := fun i j => M (m + 1) (991 + 991 * ((fs + i) % 20) + j)) (st := st) (sz := sz) ?_ f1 ?_ ?_ (fun i hi j j1 j2 => ?_)
      · obtain ⟨a1, a2, a3, a4, a5⟩ := p6
        refine ⟨a1, a2, by rw [cpy_row, if_neg (by omega)]; exact a3, by rw [cpy_row, if_neg (by omega)]; exact a4, fun i hi => ?_⟩
        obtain ⟨w1, w2⟩ := a5 i hi
        have := (SH_r1 p2 (Nat.mod_lt (st + i) (by decide)) w1).1
        exact ⟨w1, RR_cg w2 (fun c j hc => by rw [cpy_row, if_neg (by show ¬ (gw_rf S' (A + 84) _ + c = _ ∧ _); omega)]) (fun _ _ _ => rfl)⟩
      · rw [cpy_row, if_neg (by omega), lo _ _ (by omega) (by omega) (by omega)]; exact f2
      · rw [cpy_row, if_neg (by omega), lo _ _ (by omega) (by omega) (by omega)]; exact f3
      · rw [cpy_row, if_neg (by omega), lo _ _ (by omega) (by omega) (by omega)]
    · refine RR_cg c2 (fun c j hc => ?_) (fun i i1 i2 => ?_)
      · rw [cpy_row, if_neg (by omega), p7 _ _ (by omega) (by omega)]
      · rw [cpy_row, if_pos ⟨rfl, by omega⟩, lo _ _ (by omega) (by omega) (by omega)]
    · refine PC_PR (ν := fun i j => M (m + 1) (991 + 991 * ((fs + i) % 20) + j)) (st := 0) (sz := sz) ?_ f1 ?_ ?_ (fun i hi j j1 j2 => ?_)
      · obtain ⟨a1, a2, a3, a4, a5⟩ := p5
        refine ⟨a1, a2, by rw [cpy_row, if_neg (by omega)]; exact a3, by rw [cpy_row, if_neg (by omega)]; exact a4, fun i hi => ?_⟩
        obtain ⟨w1, w2⟩ := a5 i hi
        have := (SH_r2 p2 (Nat.mod_lt (0 + i) (by decide)) w1).1
        exact ⟨w1, RR_cg w2 (fun c j hc => by rw [cpy_row, if_neg (by show ¬ (gw_rf S' (A + 168) _ + c = _ ∧ _); omega)]) (fun _ _ _ => rfl)⟩
      · rw [cpy_row, if_pos ⟨rfl, by omega⟩, lo _ _ (by omega) (by omega) (by omega)]; exact f2
      · rw [cpy_row, if_pos ⟨rfl, by omega⟩, lo _ _ (by omega) (by omega) (by omega)]; exact f3
      · have := Nat.mod_lt (fs + i) (show 0 < 20 by decide)
        rw [cpy_row, if_pos ⟨rfl, by omega⟩, lo _ _ (by omega) (by omega) (by omega)]
    · rw [← p3, p1]; omega
    · rw [← p3, p1]; omega
theorem pr_back (hn : 1000 ≤ n) (hS : SH S A m) (hR : R2 b S A m M M) : PAIR b 0 A m S M sgX10_back sgX11_back [.ref A] [.ref m] := by
  obtain ⟨h0, h1, h2, h3, h4⟩ := hR
  have hA := hS.2.2.2.1
  obtain ⟨st, fs, sz, f1, f2, f3, hP⟩ := PR_PC h4
  have he : eZ A (A + 83) 0 := Or.inl ⟨rfl, rfl⟩
  have ho : eZ A (A + 167) 20 := Or.inr ⟨rfl, rfl⟩
  obtain ⟨μ1, c1, c2, c3⟩ := sim_copy (n := n) hn (a := A + 1) (p := A + 85) (by omega) h3
  have hP1 : PC b S (A + 167) μ1 st sz (fun i j => M (m + 2) (991 + 991 * ((fs + i) % 20) + j)) := by
    obtain ⟨a1, a2, a3, a4, a5⟩ := hP
    refine ⟨a1, a2, by rw [c3 _ _ (by omega)]; exact a3, by rw [c3 _ _ (by omega)]; exact a4, fun i hi => ?_⟩
    obtain ⟨w1, w2⟩ := a5 i hi
    have := (SH_r2 hS (Nat.mod_lt (st + i) (by decide)) w1).1
    exact ⟨w1, RR_cg w2 (fun c j hc => c3 _ _ (by show gw_rf S (A + 168) _ + c < _ ∨ _ ≤ gw_rf S (A + 168) _ + c; omega)) (fun _ _ _ => rfl)⟩
  refine ⟨82 * nz (fun j => decide (gw_rf S (A + 83 + 1) j = 0)) sz, 1107 * nz (fun j => decide (gw_rf S (A + 83 + 1) j = 0)) sz, (by have h1 := nz_n (fun j => decide (gw_rf S (A + 83 + 1) j = 0)) sz; have h2 := hP.2.1; omega), fun l x d Q hQ => ?_⟩
  refine ok_X10_back (d := d + 6) (n0 := n) (pcP b A m (A + 83) (A + 167) S μ1 st sz _) sz _ hP.2.1 hS.2.1 c1 (pc_0 hS he ho (by decide) hP1) (fun i bb S' μ hi hp => ?_) (fun i bb S' μ hi hp => pc_s hn he ho (by decide) hi hp) (fun bb S' M1 hp => ?_)
  · obtain ⟨p1, p2, p3, p4, p5, p6, p7⟩ := hp
    exact ⟨p2.2.1, p6.2.2.2.1, by rw [p1]; exact nz_le _ _ hi⟩
  · obtain ⟨p1, p2, p3, p4, p5, p6, p7⟩ := hp
    have lo : ∀ x y, x < m + 6 → x ≠ A + 83 → (x < A + 1 ∨ A + 83 ≤ x) → M1 x y = M x y := fun x y hx hx2 hx3 => by rw [p7 x y hx hx2, c3 x y (by omega)]
    refine hQ (M1 (A + 1) 7) S' M1 p2 (fun d2 Q2 h2 => ?_)
    have i3 : M1 (m + 2) 3 = M1 (A + 1) 7 := by
      rw [lo _ _ (by omega) (by omega) (by omega), p7 (A + 1) 7 (by omega) (by omega)]
      obtain ⟨L3, L2, g⟩ := c2
      exact (g.2.1 3 0 7 (by decide +kernel)).1
    have hM2 : gw_cpy M1 (m + 2) (m + 1) 0 0 20813 (m + 1) 3 = M1 (A + 1) 7 := by
      rw [cpy_row, if_pos ⟨rfl, by omega⟩, i3]
    refine ok_X11_back (d := d2 + 12) (n0 := n) p2.2.2.1 (r := M1 (A + 1) 7) (μ' := gw_cpy M1 (m + 2) (m + 1) 0 0 20813) ?_ (h2 _ p2 ⟨h0, ?_, ?_, ?_, ?_⟩ ?_ ?_)
    · simp only [F_X11_back, gw_let]
      rw [hM2]
    · refine RR_cg c2 (fun c j hc => ?_) (fun i i1 i2 => ?_)
      · rw [cpy_row, if_neg (by omega), p7 _ _ (by omega) (by omega)]
      · rw [cpy_row, if_pos ⟨rfl, by omega⟩, lo _ _ (by omega) (by omega) (by omega)]
    · refine PC_PR (ν := fun i j => M (m + 2) (991 + 991 * ((fs + i) % 20) + j)) (st := 0) (sz := sz) ?_ f1 ?_ ?_ (fun i hi j j1 j2 => ?_)
      · obtain ⟨a1, a2, a3, a4, a5⟩ := p5
        refine ⟨a1, a2, by rw [cpy_row, if_neg (by omega)]; exact a3, by rw [cpy_row, if_neg (by omega)]; exact a4, fun i hi => ?_⟩
        obtain ⟨w1, w2⟩ := a5 i hi
        have := (SH_r1 p2 (Nat.mod_lt (0 + i) (by decide)) w1).1
        exact ⟨w1, RR_cg w2 (fun c j hc => by rw [cpy_row, if_neg (by show ¬ (gw_rf S' (A + 84) _ + c = _ ∧ _); omega)]) (fun _ _ _ => rfl)⟩
      · rw [cpy_row, if_pos ⟨rfl, by omega⟩, lo _ _ (by omega) (by omega) (by omega)]; exact f2
      · rw [cpy_row, if_pos ⟨rfl, by omega⟩, lo _ _ (by omega) (by omega) (by omega)]; exact f3
      · have := Nat.mod_lt (fs + i) (show 0 < 20 by decide)
        rw [cpy_row, if_pos ⟨rfl, by omega⟩, lo _ _ (by omega) (by omega) (by omega)]
    · refine RR_cg h3 (fun c j hc => ?_) (fun i i1 i2 => ?_)
      · rw [cpy_row, if_neg (by omega), lo _ _ (by omega) (by omega) (by omega)]
      · rw [cpy_row, if_neg (by omega), lo _ _ (by omega) (by omega) (by omega)]
    · refine PC_PR (ν := fun i j => M (m + 2) (991 + 991 * ((fs + i) % 20) + j)) (st := st) (sz := sz) ?_ f1 ?_ ?_ (fun i hi j j1 j2 => ?_)
      · obtain ⟨a1, a2, a3, a4, a5⟩ := p6
        refine ⟨a1, a2, by rw [cpy_row, if_neg (by omega)]; exact a3, by rw [cpy_row, if_neg (by omega)]; exact a4, fun i hi => ?_⟩
        obtain ⟨w1, w2⟩ := a5 i hi
        have := (SH_r2 p2 (Nat.mod_lt (st + i) (by decide)) w1).1
        exact ⟨w1, RR_cg w2 (fun c j hc => by rw [cpy_row, if_neg (by show ¬ (gw_rf S' (A + 168) _ + c = _ ∧ _); omega)]) (fun _ _ _ => rfl)⟩
      · rw [cpy_row, if_neg (by omega), lo _ _ (by omega) (by omega) (by omega)]; exact f2
      · rw [cpy_row, if_neg (by omega), lo _ _ (by omega) (by omega) (by omega)]; exact f3
      · rw [cpy_row, if_neg (by omega), lo _ _ (by omega) (by omega) (by omega)]
    · rw [← p3, p1]; omega
    · rw [← p3, p1]; omega
end PAIRS
