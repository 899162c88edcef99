/-! ===== the start of the pure machine: what the Statement gives ===== -/
theorem gw_chk_nm {own nm nm' : String} {nL : Nat} {rt : Option FieldType} {cb : ByteArray} : ∀ (es : List gw_E) (pc : Nat), es.all (fun e => match e.2.2.1 with | .putfield _ => false | _ => true) = true → gw_chk own nm nL rt cb pc es = true → gw_chk own nm' nL rt cb pc es = true
  | [], _, _, _ => rfl
  | e :: es, pc, h, hc => by
    simp only [List.all_cons, Bool.and_eq_true] at h
    simp only [gw_chk, Bool.and_eq_true] at hc ⊢
    obtain ⟨⟨⟨⟨⟨h1, h2⟩, h3⟩, h4⟩, h5⟩, h6⟩ := hc
    refine ⟨⟨⟨⟨⟨h1, h2⟩, h3⟩, ?_⟩, h5⟩, gw_chk_nm es _ h.2 h6⟩
    have h0 := h.1
    unfold gw_ini
    split
    · rename_i z heq
      rw [heq] at h0
      cases h0
    · rfl
theorem gw_begin {s : State} {args : Array Value} {b L : Nat} {xs : Nat → Int32} (hts : ∀ w ∈ lw_tbl, w.before args s = true) (hX : va_X b L xs s s.heap) (hbl : b < s.heap.size) : ∃ x : gw_C, x.1 + 1 = s.heap.size ∧ x.2.1 = s.heap ∧ x.2.2.2.2.2.2.1 = b ∧ x.2.2.2.2.2.2.2.1 = L ∧ x.2.2.2.2.2.2.2.2 = xs ∧ gw_kk x s := by
  have ex : ∀ k : Nat, ∃ z : ClassId × (Nat → Nat), ∀ q : vw_C, vwCl[k]? = some q → u_Kn s q.1 q.2.1 q.2.2 z.1 z.2 := by
    have one : ∀ (k : Nat) (q : vw_C), vwCl[k]? = some q → ∃ (cC : ClassId) (iS : Nat → Nat), u_Kn s q.1 q.2.1 q.2.2 cC iS := by
      intro k q h
      match k, h with
      | 0, h => cases h; exact u_known (C := RX0) (T := TX0) (N := 7) (n := 7) hts (fun w hw => gw_tb_lw w (inX0 w hw)) (hts _ (gw_lkp_in (i := 1101) rfl))
      | 1, h => cases h; exact u_known (C := RX1) (T := TX1) (N := 6) (n := 6) hts (fun w hw => gw_tb_lw w (inX1 w hw)) (hts _ (gw_lkp_in (i := 2029) rfl))
      | 2, h => cases h; exact u_known (C := RX2) (T := TX2) (N := 15) (n := 15) hts (fun w hw => gw_tb_lw w (inX2 w hw)) (hts _ (gw_lkp_in (i := 1205) rfl))
      | 3, h => cases h; exact u_known (C := RX3) (T := TX3) (N := 15) (n := 15) hts (fun w hw => gw_tb_lw w (inX3 w hw)) (hts _ (gw_lkp_in (i := 1028) rfl))
      | 4, h => cases h; exact u_known (C := RX4) (T := TX4) (N := 6) (n := 6) hts (fun w hw => gw_tb_lw w (inX4 w hw)) (hts _ (gw_lkp_in (i := 1034) rfl))
      | 5, h => cases h; exact u_known (C := RX5) (T := TX5) (N := 3) (n := 3) hts (fun w hw => gw_tb_lw w (inX5 w hw)) (hts _ (gw_lkp_in (i := 2130) rfl))
      | 6, h => cases h; exact u_known (C := RX6) (T := TX6) (N := 4) (n := 4) hts (fun w hw => gw_tb_lw w (inX6 w hw)) (hts _ (gw_lkp_in (i := 2149) rfl))
      | 7, h => cases h; exact u_known (C := RX7) (T := TX7) (N := 5) (n := 5) hts (fun w hw => gw_tb_lw w (inX7 w hw)) (hts _ (gw_lkp_in (i := 1107) rfl))
      | 8, h => cases h; exact u_known (C := RX8) (T := TX8) (N := 4) (n := 4) hts (fun w hw => gw_tb_lw w (inX8 w hw)) (hts _ (gw_lkp_in (i := 1040) rfl))
      | 9, h => cases h; exact u_known (C := RX9) (T := TX9) (N := 4) (n := 4) hts (fun w hw => gw_tb_lw w (inX9 w hw)) (hts _ (gw_lkp_in (i := 1178) rfl))
      | 10, h => cases h; exact u_known (C := RX10) (T := TX10) (N := 6) (n := 6) hts (fun w hw => gw_tb_lw w (inX10 w hw)) (hts _ (gw_lkp_in (i := 1020) rfl))
      | 11, h => cases h; exact u_known (C := RX11) (T := TX11) (N := 10) (n := 10) hts (fun w hw => gw_tb_lw w (inX11 w hw)) (hts _ (gw_lkp_in (i := 6065) rfl))
      | n + 12, h => simp [vwCl] at h
    intro k
    cases h : vwCl[k]? with
    | none => exact ⟨(0, fun _ => 0), fun q hq => by cases hq⟩
    | some q =>
      obtain ⟨cC, iS, hk⟩ := one k q h
      exact ⟨(cC, iS), fun q' hq => by cases hq; exact hk⟩
  obtain ⟨f, hf⟩ := Classical.axiomOfChoice ex
  obtain ⟨cI, kI, compI, i1, i2, i3⟩ := Cond.arrayClass_spec (hts _ (gw_tb_lw _ gw_ac))
  have obj : ∀ C : String, (Cond.arrayOver (.object C)) ∈ lw_tbl → ∃ cA : ClassId, ArrOfT s cA (.object C) ∧ va_RA s cA (.object C) := by
    intro C hC
    obtain ⟨comp, cA, kA, h1, h2, h3, h4, h5⟩ := Cond.arrayOver_spec (hts _ hC)
    exact ⟨cA, fun n z => ⟨fun k h => (by cases h), kA, h3, comp, h4⟩, kA, comp, h3, h4, h1, h5⟩
  obtain ⟨c1, o1⟩ := obj RX1 (gw_lkp_in (i := 1176) rfl)
  obtain ⟨c3, o3⟩ := obj RX3 (gw_lkp_in (i := 2136) rfl)
  refine ⟨(s.heap.size - 1, s.heap, (fun k => (f k).1, fun k => (f k).2), cI, c1, c3, b, L, xs), by show s.heap.size - 1 + 1 = s.heap.size; omega, rfl, rfl, rfl, rfl, ⟨fun k q hq => hf k q hq, fun k q hk => ?_⟩, hX, hbl, fun w hw => ?_⟩
  · match k, hk with
    | 0, hk => cases hk; exact ⟨fun n z => ⟨fun k h => (by cases h), kI, i2, compI, i3⟩, i1⟩
    | 1, hk => cases hk; exact o1
    | 2, hk => cases hk; exact o3
    | n + 3, hk => simp at hk
  · obtain ⟨h1, h2⟩ := List.mem_filter.mp hw
    have hb := hts w h1
    cases w with
    | methodLinkNest a i y h => exact va_Nw.of rfl hb
    | arrayOver t =>
      cases t with
      | object C => exact va_AO.of hb
      | _ => simp [gw_isn] at h2
    | _ => simp [gw_isn] at h2
/-- nothing is there yet -/
def gw_S0 : gw_S := (fun _ _ => 0, fun _ => 99, fun _ => 0, 0)
theorem gw_rep0 {x : gw_C} {s : State} (h1 : x.1 + 1 = s.heap.size) (h2 : x.2.1 = s.heap) : gw_rep x gw_S0 (fun _ _ => 0) s.heap [] :=
  ⟨fun a h => by have h' : (99 : Nat) < 15 := h; omega, fun a g1 g2 => by have g3 : a ≤ 0 := g2; omega, by show s.heap.size = x.1 + 1 + 0; omega, by rw [h2]; omega, fun q hq => by rw [h2], fun q hq => by cases hq⟩
