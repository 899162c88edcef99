/-! ===== plainly, plainTraps, plainHeard: both sides ===== -/
section PLAIN12
variable {b A m n : Nat} {S : gw_S} {M s : gw_M}
theorem in_n (v : Int32) : isin v 1 200 = 0 ∨ (isin v 1 200 = 1 ∧ ∃ T, T ≤ 200 ∧ v = nI T) := by
  rcases isin_c v 1 200 with h | ⟨h, a1, a2⟩
  · exact Or.inl h
  · have e1 : (1 : Int32).toInt = 1 := by decide
    have e2 : (200 : Int32).toInt = 200 := by decide
    obtain ⟨k, hk, e⟩ := nI_of_rg (v := v) (n := 200) (by omega) (by omega)
    exact Or.inr ⟨h, k, hk, e⟩
def PLR (A m : Nat) (M s : gw_M) (F1 F2 : Option (Int32 × gw_M)) : Prop := ∃ r μ' s', F1 = some (r, μ') ∧ F2 = some (r, s') ∧ FP (A + 251) m M s μ' s'
theorem plr_no (r : Int32) : PLR A m M s (some (r, M)) (some (r, s)) := ⟨r, M, s, rfl, rfl, FP_refl⟩
theorem tr_plainly (hn : 1000 ≤ n) (hmA : A + 268 ≤ m) (g0 : Gs b (A + 1) m M s M s) (v w : Int32) : PLR A m M s (F_X10_plainly n A v w M) (F_X11_plainly n m v w s) := by
  simp only [F_X10_plainly, F_X11_plainly, F_X10_isPage, F_X11_isPage, c_within, m_isIn, Option.bind_some]
  rcases in_n v with h | ⟨h, T, hT, rfl⟩
  · rw [h]; exact plr_no (-1)
  · rw [h, if_neg (show ¬ (1 : Int32) = 0 by decide), if_neg (show ¬ (1 : Int32) = 0 by decide)]
    rcases in_c w 15 (by decide) 15 rfl with h' | ⟨h', p, hp, rfl⟩
    · rw [h']; exact plr_no (-1)
    · rw [h', if_pos (show ¬ (1 : Int32) = 0 by decide), if_pos (show ¬ (1 : Int32) = 0 by decide)]
      obtain ⟨h, c, μ', s', e1, e2, e3, e4⟩ := pl_go (n := n) hn hmA g0 hT
      obtain ⟨-, -, -, -, -, -, -, q, -, -⟩ := e3
      rw [e1, e2, Option.bind_some, Option.bind_some, gi (k := p) (by omega) (by decide), gi (k := p) (by omega) (by decide), nI_clamp (show p < 2 ^ 31 by omega)]
      exact ⟨_, μ', s', rfl, by rw [show A + 267 = A + 251 + 16 from rfl, q p (by omega)], e4⟩
theorem tr_plainTraps (hn : 1000 ≤ n) (hmA : A + 268 ≤ m) (g0 : Gs b (A + 1) m M s M s) (v : Int32) : PLR A m M s (F_X10_plainTraps n A v M) (F_X11_plainTraps n m v s) := by
  simp only [F_X10_plainTraps, F_X11_plainTraps, c_within, m_isIn, Option.bind_some]
  rcases in_n v with h | ⟨h, T, hT, rfl⟩
  · rw [h]; exact plr_no (-1)
  · rw [h, if_pos (show ¬ (1 : Int32) = 0 by decide), if_pos (show ¬ (1 : Int32) = 0 by decide)]
    obtain ⟨h, c, μ', s', e1, e2, e3, e4⟩ := pl_go (n := n) hn hmA g0 hT
    obtain ⟨-, -, -, -, -, -, -, -, q, -⟩ := e3
    rw [e1, e2, Option.bind_some, Option.bind_some]
    exact ⟨_, μ', s', rfl, by rw [q], e4⟩
theorem tr_plainHeard (hn : 1000 ≤ n) (hmA : A + 268 ≤ m) (g0 : Gs b (A + 1) m M s M s) (v : Int32) : PLR A m M s (F_X10_plainHeard n A v M) (F_X11_plainHeard n m v s) := by
  simp only [F_X10_plainHeard, F_X11_plainHeard, c_within, m_isIn, Option.bind_some]
  rcases in_n v with h | ⟨h, T, hT, rfl⟩
  · rw [h]; exact plr_no (-1)
  · rw [h, if_pos (show ¬ (1 : Int32) = 0 by decide), if_pos (show ¬ (1 : Int32) = 0 by decide)]
    obtain ⟨h, c, μ', s', e1, e2, e3, e4⟩ := pl_go (n := n) hn hmA g0 hT
    obtain ⟨-, -, -, -, -, -, -, -, -, q⟩ := e3
    rw [e1, e2, Option.bind_some, Option.bind_some]
    exact ⟨_, μ', s', rfl, by rw [q], e4⟩
theorem mk_pl {g1 g2 : gw_Sig} {a1 a2 : List Value} (hS : SH S A m) (hR : R2 b S A m M M) (F : Option (Int32 × gw_M)) (F2 : gw_M → Option (Int32 × gw_M))
    (H1 : ∀ (l : Launch) (x : gw_C) (d : Nat) (Q : gw_Q) (r : Int32) (μ' : gw_M), F = some (r, μ') → Q (some (.int r)) S μ' → gw_ok l x (d + 14) g1 0 0 a1 S M Q)
    (H2 : ∀ (l : Launch) (x : gw_C) (d : Nat) (Q : gw_Q) (s : gw_M) (r : Int32) (s' : gw_M), F2 s = some (r, s') → Q (some (.int r)) S s' → gw_ok l x (d + 14) g2 0 0 a2 S s Q)
    (HS : ∀ s, Gs b (A + 1) m M s M s → PLR A m M s F (F2 s)) : PAIR b 0 A m S M g1 g2 a1 a2 := by
  have hA := hS.2.2.2.1
  refine mk_read hS hR F F2 H1 H2 (fun s g => ?_)
  obtain ⟨r, μ', s', e1, e2, e3, e4⟩ := HS s g
  exact ⟨r, μ', s', e1, e2, fun x y hx => e3 x y (by omega), fun x y hx => e4 x y (by omega) (by omega) (by omega), fun y hy => e4 _ _ (by omega) (by omega) (by omega)⟩
theorem pr_plainly (hn : 1000 ≤ n) (hS : SH S A m) (hR : R2 b S A m M M) (v1 v2 : Int32) : PAIR b 0 A m S M sgX10_plainly sgX11_plainly [.ref A, .int v1, .int v2] [.ref m, .int v1, .int v2] := by
  refine mk_pl hS hR (F_X10_plainly n A v1 v2 M) (fun s => F_X11_plainly n m v1 v2 s) ?_ ?_ (fun s g => tr_plainly hn hS.2.2.2.1 g v1 v2)
  · intro l x d Q r μ' h hq
    exact ok_X10_plainly (d := d + 8) hS.2.1 h hq
  · intro l x d Q s r s' h hq
    exact ok_X11_plainly (d := d + 7) hS.2.2.1 h hq
theorem pr_plainTraps (hn : 1000 ≤ n) (hS : SH S A m) (hR : R2 b S A m M M) (v1 : Int32) : PAIR b 0 A m S M sgX10_plainTraps sgX11_plainTraps [.ref A, .int v1] [.ref m, .int v1] := by
  refine mk_pl hS hR (F_X10_plainTraps n A v1 M) (fun s => F_X11_plainTraps n m v1 s) ?_ ?_ (fun s g => tr_plainTraps hn hS.2.2.2.1 g v1)
  · intro l x d Q r μ' h hq
    exact ok_X10_plainTraps (d := d + 8) hS.2.1 h hq
  · intro l x d Q s r s' h hq
    exact ok_X11_plainTraps (d := d + 7) hS.2.2.1 h hq
theorem pr_plainHeard (hn : 1000 ≤ n) (hS : SH S A m) (hR : R2 b S A m M M) (v1 : Int32) : PAIR b 0 A m S M sgX10_plainHeard sgX11_plainHeard [.ref A, .int v1] [.ref m, .int v1] := by
  refine mk_pl hS hR (F_X10_plainHeard n A v1 M) (fun s => F_X11_plainHeard n m v1 s) ?_ ?_ (fun s g => tr_plainHeard hn hS.2.2.2.1 g v1)
  · intro l x d Q r μ' h hq
    exact ok_X10_plainHeard (d := d + 8) hS.2.1 h hq
  · intro l x d Q s r s' h hq
    exact ok_X11_plainHeard (d := d + 7) hS.2.2.1 h hq
end PLAIN12
