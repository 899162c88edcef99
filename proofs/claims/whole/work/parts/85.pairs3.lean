/-! ===== the calls on trial, both sides ===== -/
section PAIRS3
variable {b A m n : Nat} {S : gw_S} {M : gw_M}
/-- as PAIR, two calls deeper -/
def PAI (b c A m : Nat) (S : gw_S) (M : gw_M) (g1 g2 : gw_Sig) (a1 a2 : List Value) : Prop := ∃ mc ms, (mc ≤ 1640 ∧ ms ≤ 22140) ∧ ∀ (l : Launch) (x : gw_C) (d : Nat) (Q : gw_Q), (∀ (r : Int32) S' M1, SH S' A m → (∀ (d2 : Nat) (Q2 : gw_Q), (∀ M2, SH S' A m → R2 (b + c) S' A m M2 M2 → nul S' A * 82 + mc ≤ nul S A * 82 + 82 → nul S' A * 1107 + ms ≤ nul S A * 1107 + 1107 → Q2 (some (.int r)) S' M2) → gw_ok l x (d2 + 16) g2 0 0 a2 S' M1 Q2) → Q (some (.int r)) S' M1) → gw_ok l x (d + 16) g1 mc ms a1 S M Q
theorem PAI_of {c : Nat} {g1 g2 : gw_Sig} {a1 a2 : List Value} (h : PAIR b c A m S M g1 g2 a1 a2) : PAI b c A m S M g1 g2 a1 a2 := by
  obtain ⟨mc, ms, hm, h⟩ := h
  exact ⟨mc, ms, hm, fun l x d Q hQ => h l x (d + 2) Q (fun r S' M1 hS' H => hQ r S' M1 hS' (fun d2 Q2 h2 => H (d2 + 2) Q2 h2))⟩
theorem mk_tr {g1 g2 : gw_Sig} {a1 a2 : List Value} (hS : SH S A m) (hR : R2 b S A m M M) (F : Option (Int32 × gw_M)) (F2 : gw_M → Option (Int32 × gw_M))
    (H1 : ∀ (l : Launch) (x : gw_C) (d : Nat) (Q : gw_Q) (r : Int32) (μ' : gw_M), F = some (r, μ') → Q (some (.int r)) S μ' → gw_ok l x (d + 16) g1 0 0 a1 S M Q)
    (H2 : ∀ (l : Launch) (x : gw_C) (d : Nat) (Q : gw_Q) (s : gw_M) (r : Int32) (s' : gw_M), F2 s = some (r, s') → Q (some (.int r)) S s' → gw_ok l x (d + 16) g2 0 0 a2 S s Q)
    (HS : ∀ s, Gs b (A + 1) m M s M s → ∃ r μ' s', F = some (r, μ') ∧ F2 s = some (r, s') ∧ (∀ x y, (A ≤ x ∧ x < A + 169) ∨ m ≤ x → μ' x y = M x y) ∧ ∀ x y, x ≠ m + 3 → s' x y = s x y) : PAI b 0 A m S M g1 g2 a1 a2 := by
  obtain ⟨r, μ', s', f1, f2, f3, f4⟩ := HS M (R2_G hR)
  refine ⟨0, 0, ⟨Nat.zero_le _, Nat.zero_le _⟩, fun l x d Q hQ => H1 l x d Q r μ' f1 (hQ r S μ' hS (fun d2 Q2 h2 => ?_))⟩
  have hA := hS.2.2.2.1
  have hR1 : R2 b S A m M μ' := R2_cg hS hR (fun _ _ _ => rfl) (fun x y hx => f3 x y (by omega))
  obtain ⟨r', μ'', s'', f1', f2', f3', f4'⟩ := HS μ' (R2_G hR1)
  rw [f1] at f1'
  obtain ⟨z1, z2⟩ := gw_inj2 f1'
  subst z1
  subst z2
  refine H2 l x d2 Q2 μ' r s'' f2' (h2 s'' hS ?_ (by omega) (by omega))
  have w : R2 b S A m μ' μ' := R2_cg hS hR1 (fun x y hx => f3 x y (by omega)) (fun _ _ _ => rfl)
  obtain ⟨h0, h1, h2', h3, h4⟩ := w
  have sm : ∀ x y, (A ≤ x ∧ x < A + 169) ∨ m + 6 ≤ x → s'' x y = μ' x y := fun x y hx => f4' x y (by omega)
  have sn : ∀ y, s'' (m + 2) y = μ' (m + 2) y := fun y => f4' _ y (by omega)
  have sr1 : ∀ y, s'' (m + 1) y = μ' (m + 1) y := fun y => f4' _ y (by omega)
  refine ⟨h0, RR_cg h1 (fun c j hc => sm _ _ (by omega)) (fun i _ _ => sr1 i), PR_cg h2' (fun k hk h0 c y hc => sm _ _ ?_) ⟨sm _ _ (by omega), sm _ _ (by omega)⟩ (fun y hy => sr1 y), RR_cg h3 (fun c j hc => sm _ _ (by omega)) (fun i _ _ => sn i), PR_cg h4 (fun k hk h0 c y hc => sm _ _ ?_) ⟨sm _ _ (by omega), sm _ _ (by omega)⟩ (fun y hy => sn y)⟩
  · have h6 : m + 6 ≤ gw_rf S (A + 83 + 1) k := (SH_r1 hS hk h0).1
    omega
  · have h6 : m + 6 ≤ gw_rf S (A + 167 + 1) k := (SH_r2 hS hk h0).1
    omega
theorem pr_foretold (hn : 1000 ≤ n) (hn2 : n ≤ 100000) (hS : SH S A m) (hR : R2 b S A m M M) (hb : b + 8100 < 2 ^ 28) (v1 v2 : Int32) : PAI b 0 A m S M sgX10_foretold sgX11_foretold [.ref A, .int v1, .int v2] [.ref m, .int v1, .int v2] := by
  refine mk_tr hS hR (F_X10_foretold n A v1 v2 M) (fun s => F_X11_foretold n m v1 v2 s) ?_ ?_ (fun s g => tr_foretold hn hb hS.2.2.2.1 g v1 v2)
  · intro l x d Q r μ' h hq
    exact ok_X10_foretold (d := d + 9) hS.2.1 h hq
  · intro l x d Q s r s' h hq
    exact ok_X11_foretold (d := d + 2) hS.2.2.1 h hq
theorem pr_till (hn : 1000 ≤ n) (hn2 : n ≤ 100000) (hS : SH S A m) (hR : R2 b S A m M M) (hb : b + 8100 < 2 ^ 28) : PAI b 0 A m S M sgX10_till sgX11_till [.ref A] [.ref m] := by
  refine mk_tr hS hR (F_X10_till n A M) (fun s => F_X11_till n m s) ?_ ?_ (fun s g => tr_till hn hn2 hb hS.2.2.2.1 g)
  · intro l x d Q r μ' h hq
    exact ok_X10_till (d := d + 9) hS.2.1 h hq
  · intro l x d Q s r s' h hq
    exact ok_X11_till (d := d + 1) hS.2.2.1 h hq
theorem pr_waits (hn : 1000 ≤ n) (hn2 : n ≤ 100000) (hS : SH S A m) (hR : R2 b S A m M M) (hb : b + 8100 < 2 ^ 28) (v1 : Int32) : PAI b 0 A m S M sgX10_waits sgX11_waits [.ref A, .int v1] [.ref m, .int v1] := by
  refine mk_tr hS hR (F_X10_waits n A v1 M) (fun s => F_X11_waits n m v1 s) ?_ ?_ (fun s g => tr_waits hn hn2 hb hS.2.2.2.1 g v1)
  · intro l x d Q r μ' h hq
    exact ok_X10_waits (d := d + 9) hS.2.1 h hq
  · intro l x d Q s r s' h hq
    exact ok_X11_waits (d := d + 1) hS.2.2.1 h hq
theorem pr_roomiest (hn : 1000 ≤ n) (hn2 : n ≤ 100000) (hS : SH S A m) (hR : R2 b S A m M M) (hb : b + 8100 < 2 ^ 28) (v1 : Int32) : PAI b 0 A m S M sgX10_roomiest sgX11_roomiest [.ref A, .int v1] [.ref m, .int v1] := by
  refine mk_tr hS hR (F_X10_roomiest n A v1 M) (fun s => F_X11_roomiest n m v1 s) ?_ ?_ (fun s g => tr_roomiest hn hb hS.2.2.2.1 g v1)
  · intro l x d Q r μ' h hq
    exact ok_X10_roomiest (d := d + 9) hS.2.1 h hq
  · intro l x d Q s r s' h hq
    exact ok_X11_roomiest (d := d + 1) hS.2.2.1 h hq
end PAIRS3
