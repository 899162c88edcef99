def S_X3 (S : gw_S) (a0 : Nat) : gw_S := (gw_sr (S_X1 (gw_new (gw_sr (S_X1 (gw_new (gw_sr (S_X1 (gw_new (gw_sr (S_X2 (gw_new (gw_sr (S_X9 (gw_new (gw_sr (gw_new (gw_sr (gw_new (gw_sr (gw_new (gw_sr (S_X0 (gw_new (gw_sr (S_X8 (gw_new (gw_sr (S_X4 (gw_new S 4 0) (a0 + 1)) a0 0 (a0 + 1)) 8 0) (a0 + 8)) a0 1 (a0 + 8)) 0 0) (a0 + 12)) a0 3 (a0 + 12)) 13 3) a0 4 (a0 + 18)) 12 2) a0 8 (a0 + 19)) 12 10) a0 9 (a0 + 20)) 9 0) (a0 + 21)) a0 13 (a0 + 21)) 2 0) (a0 + 25)) a0 14 (a0 + 25)) 1 0) (a0 + 37)) (a0 + 18) 0 (a0 + 37)) 1 0) (a0 + 52)) (a0 + 18) 1 (a0 + 52)) 1 0) (a0 + 67)) (a0 + 18) 2 (a0 + 67))
def M_X3 (μ : gw_M) (a0 : Nat) : gw_M := (gw_fil (M_X1 (gw_row (M_X1 (gw_row (M_X1 (gw_row (M_X2 (gw_row (M_X9 (gw_row (gw_up (gw_row (gw_row (gw_up (gw_row (M_X0 (gw_row (gw_up (M_X8 (gw_row (M_X4 (gw_row μ (a0 + 1) (fun _ => 0)) (a0 + 1)) (a0 + 8) (fun _ => 0)) (a0 + 8)) a0 2 6) (a0 + 12) (fun _ => 0)) (a0 + 12)) (a0 + 18) (fun _ => 0)) a0 6 1) (a0 + 19) (fun _ => 0)) (a0 + 20) (fun _ => 0)) a0 12 (-1)) (a0 + 21) (fun _ => 0)) (a0 + 21)) (a0 + 25) (fun _ => 0)) (a0 + 25)) (a0 + 37) (fun _ => 0)) (a0 + 37)) (a0 + 52) (fun _ => 0)) (a0 + 52)) (a0 + 67) (fun _ => 0)) (a0 + 67)) (a0 + 20) 10 (-1))
theorem mk_X3 {a0 : Nat} {S : gw_S} {μ : gw_M} (hn : gw_nn S = a0) (hk : gw_kd S a0 = 3) (hr : ∀ j, gw_rf S a0 j = 0) (hm : ∀ j, μ a0 j = 0) (hl : gw_ln S a0 = 0) : gw_made S μ (S_X3 S a0) (M_X3 μ a0) 3 a0 := by
  have hp := pg_start [18] [20] hn hk hr hm hl
  have nf := gw_newf (μ := fun _ _ => 0) (c := 4) (a0 := a0) (m := 0) hp.1 1 rfl
  have hm1 := mk_X4 (S := (gw_new S 4 0)) (μ := (gw_row μ (a0 + 1) (fun _ => 0))) (a0 := a0 + 1) nf.1 nf.2.1 nf.2.2.1 (fun jj => by simp [gw_row]) nf.2.2.2.2
  replace hp := pg_sub2 hp 4 6 1 7 rfl rfl rfl hm1 (by decide +kernel) (by decide +kernel)
  replace hp := pg_ref hp 0 (a0 + 1)
  have nf := gw_newf (μ := fun _ _ => 0) (c := 8) (a0 := a0) (m := 7) hp.1 8 rfl
  have hm2 := mk_X8 (S := (gw_new (gw_sr (S_X4 (gw_new S 4 0) (a0 + 1)) a0 0 (a0 + 1)) 8 0)) (μ := (gw_row (M_X4 (gw_row μ (a0 + 1) (fun _ => 0)) (a0 + 1)) (a0 + 8) (fun _ => 0))) (a0 := a0 + 8) nf.1 nf.2.1 nf.2.2.1 (fun jj => by simp [gw_row]) nf.2.2.2.2
  replace hp := pg_sub2 hp 8 3 8 11 rfl rfl rfl hm2 (by decide +kernel) (by decide +kernel)
  replace hp := pg_ref hp 1 (a0 + 8)
  replace hp := pg_int hp 2 6
  have nf := gw_newf (μ := fun _ _ => 0) (c := 0) (a0 := a0) (m := 11) hp.1 12 rfl
  have hm3 := mk_X0 (S := (gw_new (gw_sr (S_X8 (gw_new (gw_sr (S_X4 (gw_new S 4 0) (a0 + 1)) a0 0 (a0 + 1)) 8 0) (a0 + 8)) a0 1 (a0 + 8)) 0 0)) (μ := (gw_row (gw_up (M_X8 (gw_row (M_X4 (gw_row μ (a0 + 1) (fun _ => 0)) (a0 + 1)) (a0 + 8) (fun _ => 0)) (a0 + 8)) a0 2 6) (a0 + 12) (fun _ => 0))) (a0 := a0 + 12) nf.1 nf.2.1 nf.2.2.1 (fun jj => by simp [gw_row]) nf.2.2.2.2
  replace hp := pg_sub2 hp 0 5 12 17 rfl rfl rfl hm3 (by decide +kernel) (by decide +kernel)
  replace hp := pg_ref hp 3 (a0 + 12)
  replace hp := pg_arr2 hp 13 3 18 rfl rfl (Or.inl (by decide)) (Or.inr ⟨0, rfl⟩)
  replace hp := pg_ref hp 4 (a0 + 18)
  replace hp := pg_int hp 6 1
  replace hp := pg_arr2 hp 12 2 19 rfl rfl (Or.inr rfl) (Or.inr ⟨2, rfl⟩)
  replace hp := pg_ref hp 8 (a0 + 19)
  replace hp := pg_arr2 hp 12 10 20 rfl rfl (Or.inr rfl) (Or.inl (by decide))
  replace hp := pg_ref hp 9 (a0 + 20)
  replace hp := pg_int hp 12 (-1)
  have nf := gw_newf (μ := fun _ _ => 0) (c := 9) (a0 := a0) (m := 20) hp.1 21 rfl
  have hm4 := mk_X9 (S := (gw_new (gw_sr (gw_new (gw_sr (gw_new (gw_sr (gw_new (gw_sr (S_X0 (gw_new (gw_sr (S_X8 (gw_new (gw_sr (S_X4 (gw_new S 4 0) (a0 + 1)) a0 0 (a0 + 1)) 8 0) (a0 + 8)) a0 1 (a0 + 8)) 0 0) (a0 + 12)) a0 3 (a0 + 12)) 13 3) a0 4 (a0 + 18)) 12 2) a0 8 (a0 + 19)) 12 10) a0 9 (a0 + 20)) 9 0)) (μ := (gw_row (gw_up (gw_row (gw_row (gw_up (gw_row (M_X0 (gw_row (gw_up (M_X8 (gw_row (M_X4 (gw_row μ (a0 + 1) (fun _ => 0)) (a0 + 1)) (a0 + 8) (fun _ => 0)) (a0 + 8)) a0 2 6) (a0 + 12) (fun _ => 0)) (a0 + 12)) (a0 + 18) (fun _ => 0)) a0 6 1) (a0 + 19) (fun _ => 0)) (a0 + 20) (fun _ => 0)) a0 12 (-1)) (a0 + 21) (fun _ => 0))) (a0 := a0 + 21) nf.1 nf.2.1 nf.2.2.1 (fun jj => by simp [gw_row]) nf.2.2.2.2
  replace hp := pg_sub2 hp 9 3 21 24 rfl rfl rfl hm4 (by decide +kernel) (by decide +kernel)
  replace hp := pg_ref hp 13 (a0 + 21)
  have nf := gw_newf (μ := fun _ _ => 0) (c := 2) (a0 := a0) (m := 24) hp.1 25 rfl
  have hm5 := mk_X2 (S := (gw_new (gw_sr (S_X9 (gw_new (gw_sr (gw_new (gw_sr (gw_new (gw_sr (gw_new (gw_sr (S_X0 (gw_new (gw_sr (S_X8 (gw_new (gw_sr (S_X4 (gw_new S 4 0) (a0 + 1)) a0 0 (a0 + 1)) 8 0) (a0 + 8)) a0 1 (a0 + 8)) 0 0) (a0 + 12)) a0 3 (a0 + 12)) 13 3) a0 4 (a0 + 18)) 12 2) a0 8 (a0 + 19)) 12 10) a0 9 (a0 + 20)) 9 0) (a0 + 21)) a0 13 (a0 + 21)) 2 0)) (μ := (gw_row (M_X9 (gw_row (gw_up (gw_row (gw_row (gw_up (gw_row (M_X0 (gw_row (gw_up (M_X8 (gw_row (M_X4 (gw_row μ (a0 + 1) (fun _ => 0)) (a0 + 1)) (a0 + 8) (fun _ => 0)) (a0 + 8)) a0 2 6) (a0 + 12) (fun _ => 0)) (a0 + 12)) (a0 + 18) (fun _ => 0)) a0 6 1) (a0 + 19) (fun _ => 0)) (a0 + 20) (fun _ => 0)) a0 12 (-1)) (a0 + 21) (fun _ => 0)) (a0 + 21)) (a0 + 25) (fun _ => 0))) (a0 := a0 + 25) nf.1 nf.2.1 nf.2.2.1 (fun jj => by simp [gw_row]) nf.2.2.2.2
  replace hp := pg_sub2 hp 2 11 25 36 rfl rfl rfl hm5 (by decide +kernel) (by decide +kernel)
  replace hp := pg_ref hp 14 (a0 + 25)
  have nf := gw_newf (μ := fun _ _ => 0) (c := 1) (a0 := a0) (m := 36) hp.1 37 rfl
  have hm6 := mk_X1 (S := (gw_new (gw_sr (S_X2 (gw_new (gw_sr (S_X9 (gw_new (gw_sr (gw_new (gw_sr (gw_new (gw_sr (gw_new (gw_sr (S_X0 (gw_new (gw_sr (S_X8 (gw_new (gw_sr (S_X4 (gw_new S 4 0) (a0 + 1)) a0 0 (a0 + 1)) 8 0) (a0 + 8)) a0 1 (a0 + 8)) 0 0) (a0 + 12)) a0 3 (a0 + 12)) 13 3) a0 4 (a0 + 18)) 12 2) a0 8 (a0 + 19)) 12 10) a0 9 (a0 + 20)) 9 0) (a0 + 21)) a0 13 (a0 + 21)) 2 0) (a0 + 25)) a0 14 (a0 + 25)) 1 0)) (μ := (gw_row (M_X2 (gw_row (M_X9 (gw_row (gw_up (gw_row (gw_row (gw_up (gw_row (M_X0 (gw_row (gw_up (M_X8 (gw_row (M_X4 (gw_row μ (a0 + 1) (fun _ => 0)) (a0 + 1)) (a0 + 8) (fun _ => 0)) (a0 + 8)) a0 2 6) (a0 + 12) (fun _ => 0)) (a0 + 12)) (a0 + 18) (fun _ => 0)) a0 6 1) (a0 + 19) (fun _ => 0)) (a0 + 20) (fun _ => 0)) a0 12 (-1)) (a0 + 21) (fun _ => 0)) (a0 + 21)) (a0 + 25) (fun _ => 0)) (a0 + 25)) (a0 + 37) (fun _ => 0))) (a0 := a0 + 37) nf.1 nf.2.1 nf.2.2.1 (fun jj => by simp [gw_row]) nf.2.2.2.2
  have hz0 : ∀ j, gw_rf (S_X1 (gw_new (gw_sr (S_X2 (gw_new (gw_sr (S_X9 (gw_new (gw_sr (gw_new (gw_sr (gw_new (gw_sr (gw_new (gw_sr (S_X0 (gw_new (gw_sr (S_X8 (gw_new (gw_sr (S_X4 (gw_new S 4 0) (a0 + 1)) a0 0 (a0 + 1)) 8 0) (a0 + 8)) a0 1 (a0 + 8)) 0 0) (a0 + 12)) a0 3 (a0 + 12)) 13 3) a0 4 (a0 + 18)) 12 2) a0 8 (a0 + 19)) 12 10) a0 9 (a0 + 20)) 9 0) (a0 + 21)) a0 13 (a0 + 21)) 2 0) (a0 + 25)) a0 14 (a0 + 25)) 1 0) (a0 + 37)) (a0 + 18) j = gw_rf (gw_sr (S_X2 (gw_new (gw_sr (S_X9 (gw_new (gw_sr (gw_new (gw_sr (gw_new (gw_sr (gw_new (gw_sr (S_X0 (gw_new (gw_sr (S_X8 (gw_new (gw_sr (S_X4 (gw_new S 4 0) (a0 + 1)) a0 0 (a0 + 1)) 8 0) (a0 + 8)) a0 1 (a0 + 8)) 0 0) (a0 + 12)) a0 3 (a0 + 12)) 13 3) a0 4 (a0 + 18)) 12 2) a0 8 (a0 + 19)) 12 10) a0 9 (a0 + 20)) 9 0) (a0 + 21)) a0 13 (a0 + 21)) 2 0) (a0 + 25)) a0 14 (a0 + 25)) (a0 + 18) j := fun j => gw_kp_rf hm6 (by rw [hp.1]) (by omega) j
  replace hp := pg_sub2 hp 1 14 37 51 rfl rfl rfl hm6 (by decide +kernel) (by decide +kernel)
  replace hp := pg_exS hp 18 (by decide) (by decide) 0 (a0 + 37)
  have nf := gw_newf (μ := fun _ _ => 0) (c := 1) (a0 := a0) (m := 51) hp.1 52 rfl
  have hm7 := mk_X1 (S := (gw_new (gw_sr (S_X1 (gw_new (gw_sr (S_X2 (gw_new (gw_sr (S_X9 (gw_new (gw_sr (gw_new (gw_sr (gw_new (gw_sr (gw_new (gw_sr (S_X0 (gw_new (gw_sr (S_X8 (gw_new (gw_sr (S_X4 (gw_new S 4 0) (a0 + 1)) a0 0 (a0 + 1)) 8 0) (a0 + 8)) a0 1 (a0 + 8)) 0 0) (a0 + 12)) a0 3 (a0 + 12)) 13 3) a0 4 (a0 + 18)) 12 2) a0 8 (a0 + 19)) 12 10) a0 9 (a0 + 20)) 9 0) (a0 + 21)) a0 13 (a0 + 21)) 2 0) (a0 + 25)) a0 14 (a0 + 25)) 1 0) (a0 + 37)) (a0 + 18) 0 (a0 + 37)) 1 0)) (μ := (gw_row (M_X1 (gw_row (M_X2 (gw_row (M_X9 (gw_row (gw_up (gw_row (gw_row (gw_up (gw_row (M_X0 (gw_row (gw_up (M_X8 (gw_row (M_X4 (gw_row μ (a0 + 1) (fun _ => 0)) (a0 + 1)) (a0 + 8) (fun _ => 0)) (a0 + 8)) a0 2 6) (a0 + 12) (fun _ => 0)) (a0 + 12)) (a0 + 18) (fun _ => 0)) a0 6 1) (a0 + 19) (fun _ => 0)) (a0 + 20) (fun _ => 0)) a0 12 (-1)) (a0 + 21) (fun _ => 0)) (a0 + 21)) (a0 + 25) (fun _ => 0)) (a0 + 25)) (a0 + 37) (fun _ => 0)) (a0 + 37)) (a0 + 52) (fun _ => 0))) (a0 := a0 + 52) nf.1 nf.2.1 nf.2.2.1 (fun jj => by simp [gw_row]) nf.2.2.2.2
  have hz1 : ∀ j, gw_rf (S_X1 (gw_new (gw_sr (S_X1 (gw_new (gw_sr (S_X2 (gw_new (gw_sr (S_X9 (gw_new (gw_sr (gw_new (gw_sr (gw_new (gw_sr (gw_new (gw_sr (S_X0 (gw_new (gw_sr (S_X8 (gw_new (gw_sr (S_X4 (gw_new S 4 0) (a0 + 1)) a0 0 (a0 + 1)) 8 0) (a0 + 8)) a0 1 (a0 + 8)) 0 0) (a0 + 12)) a0 3 (a0 + 12)) 13 3) a0 4 (a0 + 18)) 12 2) a0 8 (a0 + 19)) 12 10) a0 9 (a0 + 20)) 9 0) (a0 + 21)) a0 13 (a0 + 21)) 2 0) (a0 + 25)) a0 14 (a0 + 25)) 1 0) (a0 + 37)) (a0 + 18) 0 (a0 + 37)) 1 0) (a0 + 52)) (a0 + 18) j = gw_rf (gw_sr (S_X1 (gw_new (gw_sr (S_X2 (gw_new (gw_sr (S_X9 (gw_new (gw_sr (gw_new (gw_sr (gw_new (gw_sr (gw_new (gw_sr (S_X0 (gw_new (gw_sr (S_X8 (gw_new (gw_sr (S_X4 (gw_new S 4 0) (a0 + 1)) a0 0 (a0 + 1)) 8 0) (a0 + 8)) a0 1 (a0 + 8)) 0 0) (a0 + 12)) a0 3 (a0 + 12)) 13 3) a0 4 (a0 + 18)) 12 2) a0 8 (a0 + 19)) 12 10) a0 9 (a0 + 20)) 9 0) (a0 + 21)) a0 13 (a0 + 21)) 2 0) (a0 + 25)) a0 14 (a0 + 25)) 1 0) (a0 + 37)) (a0 + 18) 0 (a0 + 37)) (a0 + 18) j := fun j => gw_kp_rf hm7 (by rw [hp.1]) (by omega) j
  replace hp := pg_sub2 hp 1 14 52 66 rfl rfl rfl hm7 (by decide +kernel) (by decide +kernel)
  replace hp := pg_exS hp 18 (by decide) (by decide) 1 (a0 + 52)
  have nf := gw_newf (μ := fun _ _ => 0) (c := 1) (a0 := a0) (m := 66) hp.1 67 rfl
  have hm8 := mk_X1 (S := (gw_new (gw_sr (S_X1 (gw_new (gw_sr (S_X1 (gw_new (gw_sr (S_X2 (gw_new (gw_sr (S_X9 (gw_new (gw_sr (gw_new (gw_sr (gw_new (gw_sr (gw_new (gw_sr (S_X0 (gw_new (gw_sr (S_X8 (gw_new (gw_sr (S_X4 (gw_new S 4 0) (a0 + 1)) a0 0 (a0 + 1)) 8 0) (a0 + 8)) a0 1 (a0 + 8)) 0 0) (a0 + 12)) a0 3 (a0 + 12)) 13 3) a0 4 (a0 + 18)) 12 2) a0 8 (a0 + 19)) 12 10) a0 9 (a0 + 20)) 9 0) (a0 + 21)) a0 13 (a0 + 21)) 2 0) (a0 + 25)) a0 14 (a0 + 25)) 1 0) (a0 + 37)) (a0 + 18) 0 (a0 + 37)) 1 0) (a0 + 52)) (a0 + 18) 1 (a0 + 52)) 1 0)) (μ := (gw_row (M_X1 (gw_row (M_X1 (gw_row (M_X2 (gw_row (M_X9 (gw_row (gw_up (gw_row (gw_row (gw_up (gw_row (M_X0 (gw_row (gw_up (M_X8 (gw_row (M_X4 (gw_row μ (a0 + 1) (fun _ => 0)) (a0 + 1)) (a0 + 8) (fun _ => 0)) (a0 + 8)) a0 2 6) (a0 + 12) (fun _ => 0)) (a0 + 12)) (a0 + 18) (fun _ => 0)) a0 6 1) (a0 + 19) (fun _ => 0)) (a0 + 20) (fun _ => 0)) a0 12 (-1)) (a0 + 21) (fun _ => 0)) (a0 + 21)) (a0 + 25) (fun _ => 0)) (a0 + 25)) (a0 + 37) (fun _ => 0)) (a0 + 37)) (a0 + 52) (fun _ => 0)) (a0 + 52)) (a0 + 67) (fun _ => 0))) (a0 := a0 + 67) nf.1 nf.2.1 nf.2.2.1 (fun jj => by simp [gw_row]) nf.2.2.2.2
  have hz2 : ∀ j, gw_rf (S_X1 (gw_new (gw_sr (S_X1 (gw_new (gw_sr (S_X1 (gw_new (gw_sr (S_X2 (gw_new (gw_sr (S_X9 (gw_new (gw_sr (gw_new (gw_sr (gw_new (gw_sr (gw_new (gw_sr (S_X0 (gw_new (gw_sr (S_X8 (gw_new (gw_sr (S_X4 (gw_new S 4 0) (a0 + 1)) a0 0 (a0 + 1)) 8 0) (a0 + 8)) a0 1 (a0 + 8)) 0 0) (a0 + 12)) a0 3 (a0 + 12)) 13 3) a0 4 (a0 + 18)) 12 2) a0 8 (a0 + 19)) 12 10) a0 9 (a0 + 20)) 9 0) (a0 + 21)) a0 13 (a0 + 21)) 2 0) (a0 + 25)) a0 14 (a0 + 25)) 1 0) (a0 + 37)) (a0 + 18) 0 (a0 + 37)) 1 0) (a0 + 52)) (a0 + 18) 1 (a0 + 52)) 1 0) (a0 + 67)) (a0 + 18) j = gw_rf (gw_sr (S_X1 (gw_new (gw_sr (S_X1 (gw_new (gw_sr (S_X2 (gw_new (gw_sr (S_X9 (gw_new (gw_sr (gw_new (gw_sr (gw_new (gw_sr (gw_new (gw_sr (S_X0 (gw_new (gw_sr (S_X8 (gw_new (gw_sr (S_X4 (gw_new S 4 0) (a0 + 1)) a0 0 (a0 + 1)) 8 0) (a0 + 8)) a0 1 (a0 + 8)) 0 0) (a0 + 12)) a0 3 (a0 + 12)) 13 3) a0 4 (a0 + 18)) 12 2) a0 8 (a0 + 19)) 12 10) a0 9 (a0 + 20)) 9 0) (a0 + 21)) a0 13 (a0 + 21)) 2 0) (a0 + 25)) a0 14 (a0 + 25)) 1 0) (a0 + 37)) (a0 + 18) 0 (a0 + 37)) 1 0) (a0 + 52)) (a0 + 18) 1 (a0 + 52)) (a0 + 18) j := fun j => gw_kp_rf hm8 (by rw [hp.1]) (by omega) j
  replace hp := pg_sub2 hp 1 14 67 81 rfl rfl rfl hm8 (by decide +kernel) (by decide +kernel)
  replace hp := pg_exS hp 18 (by decide) (by decide) 2 (a0 + 67)
  replace hp := pg_fil hp 20 10 (-1) (by decide) (by decide)
  refine pg_end hp rfl rfl rfl rfl ?_ ?_ ?_ ?_
  · intro r hr
    simp only [List.mem_cons, List.not_mem_nil, or_false] at hr
    rcases hr with rfl | rfl | rfl | rfl | rfl | rfl | rfl | rfl <;> rfl
  · intro j v hv
    match j, hv with
    | 0, hv => obtain rfl := Option.some.inj hv; rfl
    | 1, hv => obtain rfl := Option.some.inj hv; rfl
    | 2, hv => obtain rfl := Option.some.inj hv; rfl
    | 3, hv => obtain rfl := Option.some.inj hv; rfl
    | 4, hv => obtain rfl := Option.some.inj hv; rfl
    | 5, hv => obtain rfl := Option.some.inj hv; rfl
    | 6, hv => obtain rfl := Option.some.inj hv; rfl
    | 7, hv => obtain rfl := Option.some.inj hv; rfl
    | 8, hv => obtain rfl := Option.some.inj hv; rfl
    | 9, hv => obtain rfl := Option.some.inj hv; rfl
    | 10, hv => obtain rfl := Option.some.inj hv; rfl
    | 11, hv => obtain rfl := Option.some.inj hv; rfl
    | 12, hv => obtain rfl := Option.some.inj hv; rfl
    | 13, hv => obtain rfl := Option.some.inj hv; rfl
    | 14, hv => obtain rfl := Option.some.inj hv; rfl
    | n + 15, hv => simp at hv
  · intro k hk q hq r hr
    rw [List.mem_singleton] at hk
    subst hk
    obtain rfl := Option.some.inj hq
    simp only [List.mem_cons, List.not_mem_nil, or_false] at hr
    rcases hr with rfl | rfl | rfl
    · show gw_rf (S_X3 S a0) (a0 + 18) 0 = a0 + 37
      unfold S_X3
      rw [gw_rf_sr_ne (by decide), hz2, gw_rf_sr_ne (by decide), hz1]
      exact gw_rf_sr_eq
    · show gw_rf (S_X3 S a0) (a0 + 18) 1 = a0 + 52
      unfold S_X3
      rw [gw_rf_sr_ne (by decide), hz2]
      exact gw_rf_sr_eq
    · show gw_rf (S_X3 S a0) (a0 + 18) 2 = a0 + 67
      unfold S_X3
      exact gw_rf_sr_eq
  · intro k hk
    rw [List.mem_singleton] at hk
    subst hk
    exact gw_k3_fil rfl
set_option maxRecDepth 20000 in
theorem ctor_X3 {l : Launch} {x : gw_C} {d a0 : Nat} {S : gw_S} {μ : gw_M} {Q : Option Value → gw_S → gw_M → Prop} (hn : gw_nn S = a0) (hk : gw_kd S a0 = 3) (hr : ∀ j, gw_rf S a0 j = 0) (hm : ∀ j, μ a0 j = 0) (hl : gw_ln S a0 = 0) (h1 : ¬ a0 = 0) (hq : Q none (S_X3 S a0) (M_X3 μ a0)) : gw_ok l x (d + 5) sgX3_init 81 1092 [.ref a0] S μ Q := by
  refine gw_ok_of stX3_init (lv0 := [.ref a0, .retAddr 0]) (Nat.le_of_ble_eq_true rfl) rfl rfl ?_
  intro K hK
  have hp := pg_start [18] [20] hn hk hr hm hl
  refine hK _ _ _ _ _ _ _ ?_
  rw [fdX3_init_0]
  simp only [bkX3_init_0, hn, gt_nil, gt_aload_n, gt_rfk, gw_nth, gw_set, gt_new, gt_newa, gt_anewa, gt_obj, gt_sp0, gt_sp1, gt_put_r, gt_put_i, gt_dup_i, gt_dup_r, gt_iconst, gt_bipush, gt_istore_n, gt_iastore, gt_get_r, gt_s2_0, gt_vret, nn_new, nn_sr, Nat.add_assoc, Nat.reduceAdd, Option.toList, List.cons_append, List.nil_append, Nat.add_zero, Nat.zero_add, (show Int32.toNatClampNeg 0 = 0 from rfl), (show Int32.toNatClampNeg 1 = 1 from rfl), (show Int32.toNatClampNeg 2 = 2 from rfl), (show Int32.toNatClampNeg 3 = 3 from rfl), (show Int32.toNatClampNeg 6 = 6 from rfl), (show Int32.toNatClampNeg 10 = 10 from rfl)]
  refine ⟨h1, ?_⟩
  refine ⟨by decide, by decide, ?_⟩
  have nf := gw_newf (μ := fun _ _ => 0) (c := 4) (a0 := a0) (m := 0) hp.1 1 rfl
  have hm1 := mk_X4 (S := (gw_new S 4 0)) (μ := (gw_row μ (a0 + 1) (fun _ => 0))) (a0 := a0 + 1) nf.1 nf.2.1 nf.2.2.1 (fun jj => by simp [gw_row]) nf.2.2.2.2
  refine ⟨by omega, rfl, 6, 78, by decide, by decide, ctor_X4 nf.1 nf.2.1 nf.2.2.1 (fun jj => by simp [gw_row]) nf.2.2.2.2 (by omega) ?_⟩
  replace hp := pg_sub2 hp 4 6 1 7 rfl rfl rfl hm1 (by decide +kernel) (by decide +kernel)
  replace hn := hp.1
  simp only [hn, gt_nil, gt_aload_n, gt_rfk, gw_nth, gw_set, gt_new, gt_newa, gt_anewa, gt_obj, gt_sp0, gt_sp1, gt_put_r, gt_put_i, gt_dup_i, gt_dup_r, gt_iconst, gt_bipush, gt_istore_n, gt_iastore, gt_get_r, gt_s2_0, gt_vret, nn_new, nn_sr, Nat.add_assoc, Nat.reduceAdd, Option.toList, List.cons_append, List.nil_append, Nat.add_zero, Nat.zero_add, (show Int32.toNatClampNeg 0 = 0 from rfl), (show Int32.toNatClampNeg 1 = 1 from rfl), (show Int32.toNatClampNeg 2 = 2 from rfl), (show Int32.toNatClampNeg 3 = 3 from rfl), (show Int32.toNatClampNeg 6 = 6 from rfl), (show Int32.toNatClampNeg 10 = 10 from rfl)]
  refine ⟨hp.2.1, by omega, ?_⟩
  replace hp := pg_ref hp 0 (a0 + 1)
  refine ⟨by decide, by decide, ?_⟩
  have nf := gw_newf (μ := fun _ _ => 0) (c := 8) (a0 := a0) (m := 7) hp.1 8 rfl
  have hm2 := mk_X8 (S := (gw_new (gw_sr (S_X4 (gw_new S 4 0) (a0 + 1)) a0 0 (a0 + 1)) 8 0)) (μ := (gw_row (M_X4 (gw_row μ (a0 + 1) (fun _ => 0)) (a0 + 1)) (a0 + 8) (fun _ => 0))) (a0 := a0 + 8) nf.1 nf.2.1 nf.2.2.1 (fun jj => by simp [gw_row]) nf.2.2.2.2
  refine ⟨by omega, rfl, 3, 48, by decide, by decide, ctor_X8 nf.1 nf.2.1 nf.2.2.1 (fun jj => by simp [gw_row]) nf.2.2.2.2 (by omega) ?_⟩
  replace hp := pg_sub2 hp 8 3 8 11 rfl rfl rfl hm2 (by decide +kernel) (by decide +kernel)
  replace hn := hp.1
  simp only [hn, gt_nil, gt_aload_n, gt_rfk, gw_nth, gw_set, gt_new, gt_newa, gt_anewa, gt_obj, gt_sp0, gt_sp1, gt_put_r, gt_put_i, gt_dup_i, gt_dup_r, gt_iconst, gt_bipush, gt_istore_n, gt_iastore, gt_get_r, gt_s2_0, gt_vret, nn_new, nn_sr, Nat.add_assoc, Nat.reduceAdd, Option.toList, List.cons_append, List.nil_append, Nat.add_zero, Nat.zero_add, (show Int32.toNatClampNeg 0 = 0 from rfl), (show Int32.toNatClampNeg 1 = 1 from rfl), (show Int32.toNatClampNeg 2 = 2 from rfl), (show Int32.toNatClampNeg 3 = 3 from rfl), (show Int32.toNatClampNeg 6 = 6 from rfl), (show Int32.toNatClampNeg 10 = 10 from rfl)]
  refine ⟨hp.2.1, by omega, ?_⟩
  replace hp := pg_ref hp 1 (a0 + 8)
  refine ⟨hp.2.1, ?_⟩
  replace hp := pg_int hp 2 6
  refine ⟨by decide, by decide, ?_⟩
  have nf := gw_newf (μ := fun _ _ => 0) (c := 0) (a0 := a0) (m := 11) hp.1 12 rfl
  have hm3 := mk_X0 (S := (gw_new (gw_sr (S_X8 (gw_new (gw_sr (S_X4 (gw_new S 4 0) (a0 + 1)) a0 0 (a0 + 1)) 8 0) (a0 + 8)) a0 1 (a0 + 8)) 0 0)) (μ := (gw_row (gw_up (M_X8 (gw_row (M_X4 (gw_row μ (a0 + 1) (fun _ => 0)) (a0 + 1)) (a0 + 8) (fun _ => 0)) (a0 + 8)) a0 2 6) (a0 + 12) (fun _ => 0))) (a0 := a0 + 12) nf.1 nf.2.1 nf.2.2.1 (fun jj => by simp [gw_row]) nf.2.2.2.2
  refine ⟨by omega, rfl, 5, 93, by decide, by decide, ctor_X0 nf.1 nf.2.1 nf.2.2.1 (fun jj => by simp [gw_row]) nf.2.2.2.2 (by omega) ?_⟩
  replace hp := pg_sub2 hp 0 5 12 17 rfl rfl rfl hm3 (by decide +kernel) (by decide +kernel)
  replace hn := hp.1
  simp only [hn, gt_nil, gt_aload_n, gt_rfk, gw_nth, gw_set, gt_new, gt_newa, gt_anewa, gt_obj, gt_sp0, gt_sp1, gt_put_r, gt_put_i, gt_dup_i, gt_dup_r, gt_iconst, gt_bipush, gt_istore_n, gt_iastore, gt_get_r, gt_s2_0, gt_vret, nn_new, nn_sr, Nat.add_assoc, Nat.reduceAdd, Option.toList, List.cons_append, List.nil_append, Nat.add_zero, Nat.zero_add, (show Int32.toNatClampNeg 0 = 0 from rfl), (show Int32.toNatClampNeg 1 = 1 from rfl), (show Int32.toNatClampNeg 2 = 2 from rfl), (show Int32.toNatClampNeg 3 = 3 from rfl), (show Int32.toNatClampNeg 6 = 6 from rfl), (show Int32.toNatClampNeg 10 = 10 from rfl)]
  refine ⟨hp.2.1, by omega, ?_⟩
  replace hp := pg_ref hp 3 (a0 + 12)
  refine ⟨⟨by decide, by decide⟩, by decide, by decide, ?_⟩
  replace hp := pg_arr2 hp 13 3 18 rfl rfl (Or.inl (by decide)) (Or.inr ⟨0, rfl⟩)
  refine ⟨hp.2.1, by omega, ?_⟩
  replace hp := pg_ref hp 4 (a0 + 18)
  refine ⟨hp.2.1, ?_⟩
  replace hp := pg_int hp 6 1
  refine ⟨⟨by decide, by decide⟩, by decide, by decide, ?_⟩
  replace hp := pg_arr2 hp 12 2 19 rfl rfl (Or.inr rfl) (Or.inr ⟨2, rfl⟩)
  refine ⟨hp.2.1, by omega, ?_⟩
  replace hp := pg_ref hp 8 (a0 + 19)
  refine ⟨⟨by decide, by decide⟩, by decide, by decide, ?_⟩
  replace hp := pg_arr2 hp 12 10 20 rfl rfl (Or.inr rfl) (Or.inl (by decide))
  refine ⟨hp.2.1, by omega, ?_⟩
  replace hp := pg_ref hp 9 (a0 + 20)
  refine ⟨hp.2.1, ?_⟩
  replace hp := pg_int hp 12 (-1)
  refine ⟨by decide, by decide, ?_⟩
  have nf := gw_newf (μ := fun _ _ => 0) (c := 9) (a0 := a0) (m := 20) hp.1 21 rfl
  have hm4 := mk_X9 (S := (gw_new (gw_sr (gw_new (gw_sr (gw_new (gw_sr (gw_new (gw_sr (S_X0 (gw_new (gw_sr (S_X8 (gw_new (gw_sr (S_X4 (gw_new S 4 0) (a0 + 1)) a0 0 (a0 + 1)) 8 0) (a0 + 8)) a0 1 (a0 + 8)) 0 0) (a0 + 12)) a0 3 (a0 + 12)) 13 3) a0 4 (a0 + 18)) 12 2) a0 8 (a0 + 19)) 12 10) a0 9 (a0 + 20)) 9 0)) (μ := (gw_row (gw_up (gw_row (gw_row (gw_up (gw_row (M_X0 (gw_row (gw_up (M_X8 (gw_row (M_X4 (gw_row μ (a0 + 1) (fun _ => 0)) (a0 + 1)) (a0 + 8) (fun _ => 0)) (a0 + 8)) a0 2 6) (a0 + 12) (fun _ => 0)) (a0 + 12)) (a0 + 18) (fun _ => 0)) a0 6 1) (a0 + 19) (fun _ => 0)) (a0 + 20) (fun _ => 0)) a0 12 (-1)) (a0 + 21) (fun _ => 0))) (a0 := a0 + 21) nf.1 nf.2.1 nf.2.2.1 (fun jj => by simp [gw_row]) nf.2.2.2.2
  refine ⟨by omega, rfl, 3, 36, by decide, by decide, ctor_X9 nf.1 nf.2.1 nf.2.2.1 (fun jj => by simp [gw_row]) nf.2.2.2.2 (by omega) ?_⟩
  replace hp := pg_sub2 hp 9 3 21 24 rfl rfl rfl hm4 (by decide +kernel) (by decide +kernel)
  replace hn := hp.1
  simp only [hn, gt_nil, gt_aload_n, gt_rfk, gw_nth, gw_set, gt_new, gt_newa, gt_anewa, gt_obj, gt_sp0, gt_sp1, gt_put_r, gt_put_i, gt_dup_i, gt_dup_r, gt_iconst, gt_bipush, gt_istore_n, gt_iastore, gt_get_r, gt_s2_0, gt_vret, nn_new, nn_sr, Nat.add_assoc, Nat.reduceAdd, Option.toList, List.cons_append, List.nil_append, Nat.add_zero, Nat.zero_add, (show Int32.toNatClampNeg 0 = 0 from rfl), (show Int32.toNatClampNeg 1 = 1 from rfl), (show Int32.toNatClampNeg 2 = 2 from rfl), (show Int32.toNatClampNeg 3 = 3 from rfl), (show Int32.toNatClampNeg 6 = 6 from rfl), (show Int32.toNatClampNeg 10 = 10 from rfl)]
  refine ⟨hp.2.1, by omega, ?_⟩
  replace hp := pg_ref hp 13 (a0 + 21)
  refine ⟨by decide, by decide, ?_⟩
  have nf := gw_newf (μ := fun _ _ => 0) (c := 2) (a0 := a0) (m := 24) hp.1 25 rfl
  have hm5 := mk_X2 (S := (gw_new (gw_sr (S_X9 (gw_new (gw_sr (gw_new (gw_sr (gw_new (gw_sr (gw_new (gw_sr (S_X0 (gw_new (gw_sr (S_X8 (gw_new (gw_sr (S_X4 (gw_new S 4 0) (a0 + 1)) a0 0 (a0 + 1)) 8 0) (a0 + 8)) a0 1 (a0 + 8)) 0 0) (a0 + 12)) a0 3 (a0 + 12)) 13 3) a0 4 (a0 + 18)) 12 2) a0 8 (a0 + 19)) 12 10) a0 9 (a0 + 20)) 9 0) (a0 + 21)) a0 13 (a0 + 21)) 2 0)) (μ := (gw_row (M_X9 (gw_row (gw_up (gw_row (gw_row (gw_up (gw_row (M_X0 (gw_row (gw_up (M_X8 (gw_row (M_X4 (gw_row μ (a0 + 1) (fun _ => 0)) (a0 + 1)) (a0 + 8) (fun _ => 0)) (a0 + 8)) a0 2 6) (a0 + 12) (fun _ => 0)) (a0 + 12)) (a0 + 18) (fun _ => 0)) a0 6 1) (a0 + 19) (fun _ => 0)) (a0 + 20) (fun _ => 0)) a0 12 (-1)) (a0 + 21) (fun _ => 0)) (a0 + 21)) (a0 + 25) (fun _ => 0))) (a0 := a0 + 25) nf.1 nf.2.1 nf.2.2.1 (fun jj => by simp [gw_row]) nf.2.2.2.2
  refine ⟨by omega, rfl, 11, 156, by decide, by decide, ctor_X2 nf.1 nf.2.1 nf.2.2.1 (fun jj => by simp [gw_row]) nf.2.2.2.2 (by omega) ?_⟩
  replace hp := pg_sub2 hp 2 11 25 36 rfl rfl rfl hm5 (by decide +kernel) (by decide +kernel)
  replace hn := hp.1
  simp only [hn, gt_nil, gt_aload_n, gt_rfk, gw_nth, gw_set, gt_new, gt_newa, gt_anewa, gt_obj, gt_sp0, gt_sp1, gt_put_r, gt_put_i, gt_dup_i, gt_dup_r, gt_iconst, gt_bipush, gt_istore_n, gt_iastore, gt_get_r, gt_s2_0, gt_vret, nn_new, nn_sr, Nat.add_assoc, Nat.reduceAdd, Option.toList, List.cons_append, List.nil_append, Nat.add_zero, Nat.zero_add, (show Int32.toNatClampNeg 0 = 0 from rfl), (show Int32.toNatClampNeg 1 = 1 from rfl), (show Int32.toNatClampNeg 2 = 2 from rfl), (show Int32.toNatClampNeg 3 = 3 from rfl), (show Int32.toNatClampNeg 6 = 6 from rfl), (show Int32.toNatClampNeg 10 = 10 from rfl)]
  refine ⟨hp.2.1, by omega, ?_⟩
  replace hp := pg_ref hp 14 (a0 + 25)
  refine hK _ _ _ _ _ _ _ ?_
  rw [fdX3_init_100]
  have hg : gw_rf _ a0 4 = a0 + 18 := hp.2.2.1 4
  simp only [bkX3_init_100, gt_nil, gt_aload_n, gt_rfk, gw_nth, gw_set, gt_new, gt_newa, gt_anewa, gt_obj, gt_sp0, gt_sp1, gt_put_r, gt_put_i, gt_dup_i, gt_dup_r, gt_iconst, gt_bipush, gt_istore_n, gt_iastore, gt_get_r, gt_s2_0, gt_vret, nn_new, nn_sr, Nat.add_assoc, Nat.reduceAdd, Option.toList, List.cons_append, List.nil_append, Nat.add_zero, Nat.zero_add, gt_icmp, gt_iload_n, gt_ink, gt_aastore, gt_iinc, gt_goto, (show Int32.toNatClampNeg 0 = 0 from rfl), (show Int32.toNatClampNeg 1 = 1 from rfl), (show Int32.toNatClampNeg 2 = 2 from rfl), (show (0 : Int32) + 1 = 1 from rfl), (show (1 : Int32) + 1 = 2 from rfl), (show (2 : Int32) + 1 = 3 from rfl)]
  refine ⟨fun c => absurd (show (3 : Int32) ≤ 0 from c) (by decide), fun _ => ?_⟩
  rw [hg]
  refine ⟨hp.2.1, ?_⟩
  refine ⟨by decide, by decide, ?_⟩
  have hnn := hp.1
  simp only [nn_sr] at hnn
  simp only [hnn, Nat.add_assoc, Nat.reduceAdd]
  have nf := gw_newf (μ := fun _ _ => 0) (c := 1) (a0 := a0) (m := 36) hp.1 37 rfl
  have hm6 := mk_X1 (S := (gw_new (gw_sr (S_X2 (gw_new (gw_sr (S_X9 (gw_new (gw_sr (gw_new (gw_sr (gw_new (gw_sr (gw_new (gw_sr (S_X0 (gw_new (gw_sr (S_X8 (gw_new (gw_sr (S_X4 (gw_new S 4 0) (a0 + 1)) a0 0 (a0 + 1)) 8 0) (a0 + 8)) a0 1 (a0 + 8)) 0 0) (a0 + 12)) a0 3 (a0 + 12)) 13 3) a0 4 (a0 + 18)) 12 2) a0 8 (a0 + 19)) 12 10) a0 9 (a0 + 20)) 9 0) (a0 + 21)) a0 13 (a0 + 21)) 2 0) (a0 + 25)) a0 14 (a0 + 25)) 1 0)) (μ := (gw_row (M_X2 (gw_row (M_X9 (gw_row (gw_up (gw_row (gw_row (gw_up (gw_row (M_X0 (gw_row (gw_up (M_X8 (gw_row (M_X4 (gw_row μ (a0 + 1) (fun _ => 0)) (a0 + 1)) (a0 + 8) (fun _ => 0)) (a0 + 8)) a0 2 6) (a0 + 12) (fun _ => 0)) (a0 + 12)) (a0 + 18) (fun _ => 0)) a0 6 1) (a0 + 19) (fun _ => 0)) (a0 + 20) (fun _ => 0)) a0 12 (-1)) (a0 + 21) (fun _ => 0)) (a0 + 21)) (a0 + 25) (fun _ => 0)) (a0 + 25)) (a0 + 37) (fun _ => 0))) (a0 := a0 + 37) nf.1 nf.2.1 nf.2.2.1 (fun jj => by simp [gw_row]) nf.2.2.2.2
  refine ⟨by omega, rfl, 14, 204, by decide, by decide, ctor_X1 nf.1 nf.2.1 nf.2.2.1 (fun jj => by simp [gw_row]) nf.2.2.2.2 (by omega) ?_⟩
  have hc0 : gw_kd _ (a0 + 37) = 1 := (hm6.2.1 0 _ rfl).1
  replace hp := pg_sub2 hp 1 14 37 51 rfl rfl rfl hm6 (by decide +kernel) (by decide +kernel)
  have hk18 : gw_kd _ (a0 + 18) = 13 ∧ gw_ln _ (a0 + 18) = 3 := pg_kd hp 18 rfl (by decide) (by decide)
  simp only [gt_nil, gt_aload_n, gt_rfk, gw_nth, gw_set, gt_new, gt_newa, gt_anewa, gt_obj, gt_sp0, gt_sp1, gt_put_r, gt_put_i, gt_dup_i, gt_dup_r, gt_iconst, gt_bipush, gt_istore_n, gt_iastore, gt_get_r, gt_s2_0, gt_vret, nn_new, nn_sr, Nat.add_assoc, Nat.reduceAdd, Option.toList, List.cons_append, List.nil_append, Nat.add_zero, Nat.zero_add, gt_icmp, gt_iload_n, gt_ink, gt_aastore, gt_iinc, gt_goto, (show Int32.toNatClampNeg 0 = 0 from rfl), (show Int32.toNatClampNeg 1 = 1 from rfl), (show Int32.toNatClampNeg 2 = 2 from rfl), (show (0 : Int32) + 1 = 1 from rfl), (show (1 : Int32) + 1 = 2 from rfl), (show (2 : Int32) + 1 = 3 from rfl)]
  refine ⟨Or.inl ⟨hk18.1, hc0⟩, by rw [hk18.2]; exact ⟨by decide, by decide⟩, ?_⟩
  replace hp := pg_exS hp 18 (by decide) (by decide) 0 (a0 + 37)
  refine hK _ _ _ _ _ _ _ ?_
  rw [fdX3_init_100]
  have hg : gw_rf _ a0 4 = a0 + 18 := hp.2.2.1 4
  simp only [bkX3_init_100, gt_nil, gt_aload_n, gt_rfk, gw_nth, gw_set, gt_new, gt_newa, gt_anewa, gt_obj, gt_sp0, gt_sp1, gt_put_r, gt_put_i, gt_dup_i, gt_dup_r, gt_iconst, gt_bipush, gt_istore_n, gt_iastore, gt_get_r, gt_s2_0, gt_vret, nn_new, nn_sr, Nat.add_assoc, Nat.reduceAdd, Option.toList, List.cons_append, List.nil_append, Nat.add_zero, Nat.zero_add, gt_icmp, gt_iload_n, gt_ink, gt_aastore, gt_iinc, gt_goto, (show Int32.toNatClampNeg 0 = 0 from rfl), (show Int32.toNatClampNeg 1 = 1 from rfl), (show Int32.toNatClampNeg 2 = 2 from rfl), (show (0 : Int32) + 1 = 1 from rfl), (show (1 : Int32) + 1 = 2 from rfl), (show (2 : Int32) + 1 = 3 from rfl)]
  refine ⟨fun c => absurd (show (3 : Int32) ≤ 1 from c) (by decide), fun _ => ?_⟩
  rw [hg]
  refine ⟨hp.2.1, ?_⟩
  refine ⟨by decide, by decide, ?_⟩
  have hnn := hp.1
  simp only [nn_sr] at hnn
  simp only [hnn, Nat.add_assoc, Nat.reduceAdd]
  have nf := gw_newf (μ := fun _ _ => 0) (c := 1) (a0 := a0) (m := 51) hp.1 52 rfl
  have hm7 := mk_X1 (S := (gw_new (gw_sr (S_X1 (gw_new (gw_sr (S_X2 (gw_new (gw_sr (S_X9 (gw_new (gw_sr (gw_new (gw_sr (gw_new (gw_sr (gw_new (gw_sr (S_X0 (gw_new (gw_sr (S_X8 (gw_new (gw_sr (S_X4 (gw_new S 4 0) (a0 + 1)) a0 0 (a0 + 1)) 8 0) (a0 + 8)) a0 1 (a0 + 8)) 0 0) (a0 + 12)) a0 3 (a0 + 12)) 13 3) a0 4 (a0 + 18)) 12 2) a0 8 (a0 + 19)) 12 10) a0 9 (a0 + 20)) 9 0) (a0 + 21)) a0 13 (a0 + 21)) 2 0) (a0 + 25)) a0 14 (a0 + 25)) 1 0) (a0 + 37)) (a0 + 18) 0 (a0 + 37)) 1 0)) (μ := (gw_row (M_X1 (gw_row (M_X2 (gw_row (M_X9 (gw_row (gw_up (gw_row (gw_row (gw_up (gw_row (M_X0 (gw_row (gw_up (M_X8 (gw_row (M_X4 (gw_row μ (a0 + 1) (fun _ => 0)) (a0 + 1)) (a0 + 8) (fun _ => 0)) (a0 + 8)) a0 2 6) (a0 + 12) (fun _ => 0)) (a0 + 12)) (a0 + 18) (fun _ => 0)) a0 6 1) (a0 + 19) (fun _ => 0)) (a0 + 20) (fun _ => 0)) a0 12 (-1)) (a0 + 21) (fun _ => 0)) (a0 + 21)) (a0 + 25) (fun _ => 0)) (a0 + 25)) (a0 + 37) (fun _ => 0)) (a0 + 37)) (a0 + 52) (fun _ => 0))) (a0 := a0 + 52) nf.1 nf.2.1 nf.2.2.1 (fun jj => by simp [gw_row]) nf.2.2.2.2
  refine ⟨by omega, rfl, 14, 204, by decide, by decide, ctor_X1 nf.1 nf.2.1 nf.2.2.1 (fun jj => by simp [gw_row]) nf.2.2.2.2 (by omega) ?_⟩
  have hc1 : gw_kd _ (a0 + 52) = 1 := (hm7.2.1 0 _ rfl).1
  replace hp := pg_sub2 hp 1 14 52 66 rfl rfl rfl hm7 (by decide +kernel) (by decide +kernel)
  have hk18 : gw_kd _ (a0 + 18) = 13 ∧ gw_ln _ (a0 + 18) = 3 := pg_kd hp 18 rfl (by decide) (by decide)
  simp only [gt_nil, gt_aload_n, gt_rfk, gw_nth, gw_set, gt_new, gt_newa, gt_anewa, gt_obj, gt_sp0, gt_sp1, gt_put_r, gt_put_i, gt_dup_i, gt_dup_r, gt_iconst, gt_bipush, gt_istore_n, gt_iastore, gt_get_r, gt_s2_0, gt_vret, nn_new, nn_sr, Nat.add_assoc, Nat.reduceAdd, Option.toList, List.cons_append, List.nil_append, Nat.add_zero, Nat.zero_add, gt_icmp, gt_iload_n, gt_ink, gt_aastore, gt_iinc, gt_goto, (show Int32.toNatClampNeg 0 = 0 from rfl), (show Int32.toNatClampNeg 1 = 1 from rfl), (show Int32.toNatClampNeg 2 = 2 from rfl), (show (0 : Int32) + 1 = 1 from rfl), (show (1 : Int32) + 1 = 2 from rfl), (show (2 : Int32) + 1 = 3 from rfl)]
  refine ⟨Or.inl ⟨hk18.1, hc1⟩, by rw [hk18.2]; exact ⟨by decide, by decide⟩, ?_⟩
  replace hp := pg_exS hp 18 (by decide) (by decide) 1 (a0 + 52)
  refine hK _ _ _ _ _ _ _ ?_
  rw [fdX3_init_100]
  have hg : gw_rf _ a0 4 = a0 + 18 := hp.2.2.1 4
  simp only [bkX3_init_100, gt_nil, gt_aload_n, gt_rfk, gw_nth, gw_set, gt_new, gt_newa, gt_anewa, gt_obj, gt_sp0, gt_sp1, gt_put_r, gt_put_i, gt_dup_i, gt_dup_r, gt_iconst, gt_bipush, gt_istore_n, gt_iastore, gt_get_r, gt_s2_0, gt_vret, nn_new, nn_sr, Nat.add_assoc, Nat.reduceAdd, Option.toList, List.cons_append, List.nil_append, Nat.add_zero, Nat.zero_add, gt_icmp, gt_iload_n, gt_ink, gt_aastore, gt_iinc, gt_goto, (show Int32.toNatClampNeg 0 = 0 from rfl), (show Int32.toNatClampNeg 1 = 1 from rfl), (show Int32.toNatClampNeg 2 = 2 from rfl), (show (0 : Int32) + 1 = 1 from rfl), (show (1 : Int32) + 1 = 2 from rfl), (show (2 : Int32) + 1 = 3 from rfl)]
  refine ⟨fun c => absurd (show (3 : Int32) ≤ 2 from c) (by decide), fun _ => ?_⟩
  rw [hg]
  refine ⟨hp.2.1, ?_⟩
  refine ⟨by decide, by decide, ?_⟩
  have hnn := hp.1
  simp only [nn_sr] at hnn
  simp only [hnn, Nat.add_assoc, Nat.reduceAdd]
  have nf := gw_newf (μ := fun _ _ => 0) (c := 1) (a0 := a0) (m := 66) hp.1 67 rfl
  have hm8 := mk_X1 (S := (gw_new (gw_sr (S_X1 (gw_new (gw_sr (S_X1 (gw_new (gw_sr (S_X2 (gw_new (gw_sr (S_X9 (gw_new (gw_sr (gw_new (gw_sr (gw_new (gw_sr (gw_new (gw_sr (S_X0 (gw_new (gw_sr (S_X8 (gw_new (gw_sr (S_X4 (gw_new S 4 0) (a0 + 1)) a0 0 (a0 + 1)) 8 0) (a0 + 8)) a0 1 (a0 + 8)) 0 0) (a0 + 12)) a0 3 (a0 + 12)) 13 3) a0 4 (a0 + 18)) 12 2) a0 8 (a0 + 19)) 12 10) a0 9 (a0 + 20)) 9 0) (a0 + 21)) a0 13 (a0 + 21)) 2 0) (a0 + 25)) a0 14 (a0 + 25)) 1 0) (a0 + 37)) (a0 + 18) 0 (a0 + 37)) 1 0) (a0 + 52)) (a0 + 18) 1 (a0 + 52)) 1 0)) (μ := (gw_row (M_X1 (gw_row (M_X1 (gw_row (M_X2 (gw_row (M_X9 (gw_row (gw_up (gw_row (gw_row (gw_up (gw_row (M_X0 (gw_row (gw_up (M_X8 (gw_row (M_X4 (gw_row μ (a0 + 1) (fun _ => 0)) (a0 + 1)) (a0 + 8) (fun _ => 0)) (a0 + 8)) a0 2 6) (a0 + 12) (fun _ => 0)) (a0 + 12)) (a0 + 18) (fun _ => 0)) a0 6 1) (a0 + 19) (fun _ => 0)) (a0 + 20) (fun _ => 0)) a0 12 (-1)) (a0 + 21) (fun _ => 0)) (a0 + 21)) (a0 + 25) (fun _ => 0)) (a0 + 25)) (a0 + 37) (fun _ => 0)) (a0 + 37)) (a0 + 52) (fun _ => 0)) (a0 + 52)) (a0 + 67) (fun _ => 0))) (a0 := a0 + 67) nf.1 nf.2.1 nf.2.2.1 (fun jj => by simp [gw_row]) nf.2.2.2.2
  refine ⟨by omega, rfl, 14, 204, by decide, by decide, ctor_X1 nf.1 nf.2.1 nf.2.2.1 (fun jj => by simp [gw_row]) nf.2.2.2.2 (by omega) ?_⟩
  have hc2 : gw_kd _ (a0 + 67) = 1 := (hm8.2.1 0 _ rfl).1
  replace hp := pg_sub2 hp 1 14 67 81 rfl rfl rfl hm8 (by decide +kernel) (by decide +kernel)
  have hk18 : gw_kd _ (a0 + 18) = 13 ∧ gw_ln _ (a0 + 18) = 3 := pg_kd hp 18 rfl (by decide) (by decide)
  simp only [gt_nil, gt_aload_n, gt_rfk, gw_nth, gw_set, gt_new, gt_newa, gt_anewa, gt_obj, gt_sp0, gt_sp1, gt_put_r, gt_put_i, gt_dup_i, gt_dup_r, gt_iconst, gt_bipush, gt_istore_n, gt_iastore, gt_get_r, gt_s2_0, gt_vret, nn_new, nn_sr, Nat.add_assoc, Nat.reduceAdd, Option.toList, List.cons_append, List.nil_append, Nat.add_zero, Nat.zero_add, gt_icmp, gt_iload_n, gt_ink, gt_aastore, gt_iinc, gt_goto, (show Int32.toNatClampNeg 0 = 0 from rfl), (show Int32.toNatClampNeg 1 = 1 from rfl), (show Int32.toNatClampNeg 2 = 2 from rfl), (show (0 : Int32) + 1 = 1 from rfl), (show (1 : Int32) + 1 = 2 from rfl), (show (2 : Int32) + 1 = 3 from rfl)]
  refine ⟨Or.inl ⟨hk18.1, hc2⟩, by rw [hk18.2]; exact ⟨by decide, by decide⟩, ?_⟩
  replace hp := pg_exS hp 18 (by decide) (by decide) 2 (a0 + 67)
  refine hK _ _ _ _ _ _ _ ?_
  rw [fdX3_init_100]
  simp only [bkX3_init_100, gt_nil, gt_aload_n, gt_rfk, gw_nth, gw_set, gt_new, gt_newa, gt_anewa, gt_obj, gt_sp0, gt_sp1, gt_put_r, gt_put_i, gt_dup_i, gt_dup_r, gt_iconst, gt_bipush, gt_istore_n, gt_iastore, gt_get_r, gt_s2_0, gt_vret, nn_new, nn_sr, Nat.add_assoc, Nat.reduceAdd, Option.toList, List.cons_append, List.nil_append, Nat.add_zero, Nat.zero_add, gt_icmp, gt_iload_n, gt_ink, gt_aastore, gt_iinc, gt_goto, (show Int32.toNatClampNeg 0 = 0 from rfl), (show Int32.toNatClampNeg 1 = 1 from rfl), (show Int32.toNatClampNeg 2 = 2 from rfl), (show (0 : Int32) + 1 = 1 from rfl), (show (1 : Int32) + 1 = 2 from rfl), (show (2 : Int32) + 1 = 3 from rfl)]
  refine ⟨fun _ => ?_, fun c => absurd (show (3 : Int32) ≤ 3 from by decide) c⟩
  refine hK _ _ _ _ _ _ _ ?_
  rw [fdX3_init_124]
  have hg : gw_rf _ a0 9 = a0 + 20 := hp.2.2.1 9
  simp only [bkX3_init_124, gt_nil, gt_aload_n, gt_rfk, gw_nth, gw_set, gt_new, gt_newa, gt_anewa, gt_obj, gt_sp0, gt_sp1, gt_put_r, gt_put_i, gt_dup_i, gt_dup_r, gt_iconst, gt_bipush, gt_istore_n, gt_iastore, gt_get_r, gt_s2_0, gt_vret, nn_new, nn_sr, Nat.add_assoc, Nat.reduceAdd, Option.toList, List.cons_append, List.nil_append, Nat.add_zero, Nat.zero_add, gt_icmp, gt_iload_n, gt_ink, gt_aastore, gt_iinc, gt_goto, (show Int32.toNatClampNeg 0 = 0 from rfl), (show Int32.toNatClampNeg 1 = 1 from rfl), (show Int32.toNatClampNeg 2 = 2 from rfl), (show (0 : Int32) + 1 = 1 from rfl), (show (1 : Int32) + 1 = 2 from rfl), (show (2 : Int32) + 1 = 3 from rfl)]
  rw [hg]
  refine ⟨hp.2.1, rfl, 0, 0, by decide, by decide, ?_⟩
  refine ok_J7_fill_53178 (N := 10) (pg_kd hp 20 rfl (by decide) (by decide)).1 (pg_kd hp 20 rfl (by decide) (by decide)).2 (by decide) ?_
  simp only [gt_nil, gt_aload_n, gt_rfk, gw_nth, gw_set, gt_new, gt_newa, gt_anewa, gt_obj, gt_sp0, gt_sp1, gt_put_r, gt_put_i, gt_dup_i, gt_dup_r, gt_iconst, gt_bipush, gt_istore_n, gt_iastore, gt_get_r, gt_s2_0, gt_vret, nn_new, nn_sr, Nat.add_assoc, Nat.reduceAdd, Option.toList, List.cons_append, List.nil_append, Nat.add_zero, Nat.zero_add, gt_icmp, gt_iload_n, gt_ink, gt_aastore, gt_iinc, gt_goto, (show Int32.toNatClampNeg 0 = 0 from rfl), (show Int32.toNatClampNeg 1 = 1 from rfl), (show Int32.toNatClampNeg 2 = 2 from rfl), (show (0 : Int32) + 1 = 1 from rfl), (show (1 : Int32) + 1 = 2 from rfl), (show (2 : Int32) + 1 = 3 from rfl)]
  exact ⟨by decide, by decide, hq⟩
def S_X5 (S : gw_S) (a0 : Nat) : gw_S := (gw_sr (gw_new S 14 20) a0 0 (a0 + 1))
def M_X5 (μ : gw_M) (a0 : Nat) : gw_M := (gw_row μ (a0 + 1) (fun _ => 0))
theorem mk_X5 {a0 : Nat} {S : gw_S} {μ : gw_M} (hn : gw_nn S = a0) (hk : gw_kd S a0 = 5) (hr : ∀ j, gw_rf S a0 j = 0) (hm : ∀ j, μ a0 j = 0) (hl : gw_ln S a0 = 0) : gw_made S μ (S_X5 S a0) (M_X5 μ a0) 5 a0 := by
  have hp := pg_start [] [] hn hk hr hm hl
  replace hp := pg_arr2 hp 14 20 1 rfl rfl (Or.inr rfl) (Or.inr ⟨0, rfl⟩)
  replace hp := pg_ref hp 0 (a0 + 1)
  refine pg_end hp rfl rfl rfl rfl ?_ ?_ ?_ ?_
  · intro r hr
    simp only [List.mem_cons, List.not_mem_nil, or_false] at hr
    rcases hr with rfl <;> rfl
  · intro j v hv
    match j, hv with
    | 0, hv => obtain rfl := Option.some.inj hv; rfl
    | 1, hv => obtain rfl := Option.some.inj hv; rfl
    | 2, hv => obtain rfl := Option.some.inj hv; rfl
    | n + 3, hv => simp at hv
  · exact fun k hk => by cases hk
  · exact fun k hk => by cases hk
set_option maxRecDepth 20000 in
theorem ctor_X5 {l : Launch} {x : gw_C} {d a0 : Nat} {S : gw_S} {μ : gw_M} {Q : Option Value → gw_S → gw_M → Prop} (hn : gw_nn S = a0) (hk : gw_kd S a0 = 5) (hr : ∀ j, gw_rf S a0 j = 0) (hm : ∀ j, μ a0 j = 0) (hl : gw_ln S a0 = 0) (h1 : ¬ a0 = 0) (hq : Q none (S_X5 S a0) (M_X5 μ a0)) : gw_ok l x (d + 2) sgX5_init 1 20 [.ref a0] S μ Q := by
  refine gw_ok_of stX5_init (lv0 := [.ref a0]) (Nat.le_of_ble_eq_true rfl) rfl rfl ?_
  intro K hK
  have hp := pg_start [] [] hn hk hr hm hl
  refine hK _ _ _ _ _ _ _ ?_
  rw [fdX5_init_0]
  simp only [bkX5_init_0, hn, gt_nil, gt_aload_n, gt_rfk, gw_nth, gw_set, gt_new, gt_newa, gt_anewa, gt_obj, gt_sp0, gt_sp1, gt_put_r, gt_put_i, gt_dup_i, gt_dup_r, gt_iconst, gt_bipush, gt_istore_n, gt_iastore, gt_get_r, gt_s2_0, gt_vret, nn_new, nn_sr, Nat.add_assoc, Nat.reduceAdd, Option.toList, List.cons_append, List.nil_append, Nat.add_zero, Nat.zero_add, (show Int32.toNatClampNeg 0 = 0 from rfl), (show Int32.toNatClampNeg 1 = 1 from rfl), (show Int32.toNatClampNeg 20 = 20 from rfl)]
  refine ⟨h1, ?_⟩
  refine ⟨⟨by decide, by decide⟩, by decide, by decide, ?_⟩
  replace hp := pg_arr2 hp 14 20 1 rfl rfl (Or.inr rfl) (Or.inr ⟨0, rfl⟩)
  refine ⟨hp.2.1, by omega, ?_⟩
  replace hp := pg_ref hp 0 (a0 + 1)
  exact ⟨by decide, by decide, hq⟩
def S_X6 (S : gw_S) (a0 : Nat) : gw_S := (gw_sr (gw_new (gw_sr (S_X1 (gw_new S 1 0) (a0 + 1)) a0 0 (a0 + 1)) 12 16) a0 1 (a0 + 16))
def M_X6 (μ : gw_M) (a0 : Nat) : gw_M := (gw_row (M_X1 (gw_row μ (a0 + 1) (fun _ => 0)) (a0 + 1)) (a0 + 16) (fun _ => 0))
theorem mk_X6 {a0 : Nat} {S : gw_S} {μ : gw_M} (hn : gw_nn S = a0) (hk : gw_kd S a0 = 6) (hr : ∀ j, gw_rf S a0 j = 0) (hm : ∀ j, μ a0 j = 0) (hl : gw_ln S a0 = 0) : gw_made S μ (S_X6 S a0) (M_X6 μ a0) 6 a0 := by
  have hp := pg_start [] [] hn hk hr hm hl
  have nf := gw_newf (μ := fun _ _ => 0) (c := 1) (a0 := a0) (m := 0) hp.1 1 rfl
  have hm1 := mk_X1 (S := (gw_new S 1 0)) (μ := (gw_row μ (a0 + 1) (fun _ => 0))) (a0 := a0 + 1) nf.1 nf.2.1 nf.2.2.1 (fun jj => by simp [gw_row]) nf.2.2.2.2
  replace hp := pg_sub2 hp 1 14 1 15 rfl rfl rfl hm1 (by decide +kernel) (by decide +kernel)
  replace hp := pg_ref hp 0 (a0 + 1)
  replace hp := pg_arr2 hp 12 16 16 rfl rfl (Or.inr rfl) (Or.inr ⟨16, rfl⟩)
  replace hp := pg_ref hp 1 (a0 + 16)
  refine pg_end hp rfl rfl rfl rfl ?_ ?_ ?_ ?_
  · intro r hr
    simp only [List.mem_cons, List.not_mem_nil, or_false] at hr
    rcases hr with rfl | rfl <;> rfl
  · intro j v hv
    match j, hv with
    | 0, hv => obtain rfl := Option.some.inj hv; rfl
    | 1, hv => obtain rfl := Option.some.inj hv; rfl
    | 2, hv => obtain rfl := Option.some.inj hv; rfl
    | 3, hv => obtain rfl := Option.some.inj hv; rfl
    | n + 4, hv => simp at hv
  · exact fun k hk => by cases hk
  · exact fun k hk => by cases hk
set_option maxRecDepth 20000 in
theorem ctor_X6 {l : Launch} {x : gw_C} {d a0 : Nat} {S : gw_S} {μ : gw_M} {Q : Option Value → gw_S → gw_M → Prop} (hn : gw_nn S = a0) (hk : gw_kd S a0 = 6) (hr : ∀ j, gw_rf S a0 j = 0) (hm : ∀ j, μ a0 j = 0) (hl : gw_ln S a0 = 0) (h1 : ¬ a0 = 0) (hq : Q none (S_X6 S a0) (M_X6 μ a0)) : gw_ok l x (d + 5) sgX6_init 16 226 [.ref a0] S μ Q := by
  refine gw_ok_of stX6_init (lv0 := [.ref a0]) (Nat.le_of_ble_eq_true rfl) rfl rfl ?_
  intro K hK
  have hp := pg_start [] [] hn hk hr hm hl
  refine hK _ _ _ _ _ _ _ ?_
  rw [fdX6_init_0]
  simp only [bkX6_init_0, hn, gt_nil, gt_aload_n, gt_rfk, gw_nth, gw_set, gt_new, gt_newa, gt_anewa, gt_obj, gt_sp0, gt_sp1, gt_put_r, gt_put_i, gt_dup_i, gt_dup_r, gt_iconst, gt_bipush, gt_istore_n, gt_iastore, gt_get_r, gt_s2_0, gt_vret, nn_new, nn_sr, Nat.add_assoc, Nat.reduceAdd, Option.toList, List.cons_append, List.nil_append, Nat.add_zero, Nat.zero_add, (show Int32.toNatClampNeg 0 = 0 from rfl), (show Int32.toNatClampNeg 1 = 1 from rfl), (show Int32.toNatClampNeg 16 = 16 from rfl)]
  refine ⟨h1, ?_⟩
  refine ⟨by decide, by decide, ?_⟩
  have nf := gw_newf (μ := fun _ _ => 0) (c := 1) (a0 := a0) (m := 0) hp.1 1 rfl
  have hm1 := mk_X1 (S := (gw_new S 1 0)) (μ := (gw_row μ (a0 + 1) (fun _ => 0))) (a0 := a0 + 1) nf.1 nf.2.1 nf.2.2.1 (fun jj => by simp [gw_row]) nf.2.2.2.2
  refine ⟨by omega, rfl, 14, 204, by decide, by decide, ctor_X1 nf.1 nf.2.1 nf.2.2.1 (fun jj => by simp [gw_row]) nf.2.2.2.2 (by omega) ?_⟩
  replace hp := pg_sub2 hp 1 14 1 15 rfl rfl rfl hm1 (by decide +kernel) (by decide +kernel)
  replace hn := hp.1
  simp only [hn, gt_nil, gt_aload_n, gt_rfk, gw_nth, gw_set, gt_new, gt_newa, gt_anewa, gt_obj, gt_sp0, gt_sp1, gt_put_r, gt_put_i, gt_dup_i, gt_dup_r, gt_iconst, gt_bipush, gt_istore_n, gt_iastore, gt_get_r, gt_s2_0, gt_vret, nn_new, nn_sr, Nat.add_assoc, Nat.reduceAdd, Option.toList, List.cons_append, List.nil_append, Nat.add_zero, Nat.zero_add, (show Int32.toNatClampNeg 0 = 0 from rfl), (show Int32.toNatClampNeg 1 = 1 from rfl), (show Int32.toNatClampNeg 16 = 16 from rfl)]
  refine ⟨hp.2.1, by omega, ?_⟩
  replace hp := pg_ref hp 0 (a0 + 1)
  refine ⟨⟨by decide, by decide⟩, by decide, by decide, ?_⟩
  replace hp := pg_arr2 hp 12 16 16 rfl rfl (Or.inr rfl) (Or.inr ⟨16, rfl⟩)
  refine ⟨hp.2.1, by omega, ?_⟩
  replace hp := pg_ref hp 1 (a0 + 16)
  exact ⟨by decide, by decide, hq⟩
theorem ctorN_X3 {l : Launch} {x : gw_C} {d a0 : Nat} {S : gw_S} {μ : gw_M} {Q : Option Value → gw_S → gw_M → Prop} (hn : gw_nn S = a0) (hk : gw_kd S a0 = 3) (hr : ∀ j, gw_rf S a0 j = 0) (hm : ∀ j, μ a0 j = 0) (hl : gw_ln S a0 = 0) (h1 : ¬ a0 = 0) (hq : ∀ S' μ', gw_made S μ S' μ' 3 a0 → Q none S' μ') : gw_ok l x (d + 5) sgX3_init 81 1092 [.ref a0] S μ Q := ctor_X3 hn hk hr hm hl h1 (hq _ _ (mk_X3 hn hk hr hm hl))
theorem ctorN_X5 {l : Launch} {x : gw_C} {d a0 : Nat} {S : gw_S} {μ : gw_M} {Q : Option Value → gw_S → gw_M → Prop} (hn : gw_nn S = a0) (hk : gw_kd S a0 = 5) (hr : ∀ j, gw_rf S a0 j = 0) (hm : ∀ j, μ a0 j = 0) (hl : gw_ln S a0 = 0) (h1 : ¬ a0 = 0) (hq : ∀ S' μ', gw_made S μ S' μ' 5 a0 → Q none S' μ') : gw_ok l x (d + 2) sgX5_init 1 20 [.ref a0] S μ Q := ctor_X5 hn hk hr hm hl h1 (hq _ _ (mk_X5 hn hk hr hm hl))
theorem ctorN_X6 {l : Launch} {x : gw_C} {d a0 : Nat} {S : gw_S} {μ : gw_M} {Q : Option Value → gw_S → gw_M → Prop} (hn : gw_nn S = a0) (hk : gw_kd S a0 = 6) (hr : ∀ j, gw_rf S a0 j = 0) (hm : ∀ j, μ a0 j = 0) (hl : gw_ln S a0 = 0) (h1 : ¬ a0 = 0) (hq : ∀ S' μ', gw_made S μ S' μ' 6 a0 → Q none S' μ') : gw_ok l x (d + 5) sgX6_init 16 226 [.ref a0] S μ Q := ctor_X6 hn hk hr hm hl h1 (hq _ _ (mk_X6 hn hk hr hm hl))
set_option maxRecDepth 20000 in
theorem ctorN_X10 {l : Launch} {x : gw_C} {d a0 : Nat} {S : gw_S} {μ : gw_M} {Q : Option Value → gw_S → gw_M → Prop} (hn : gw_nn S = a0) (hk : gw_kd S a0 = 10) (hr : ∀ j, gw_rf S a0 j = 0) (hm : ∀ j, μ a0 j = 0) (hl : gw_ln S a0 = 0) (h1 : ¬ a0 = 0) (hq : ∀ S' μ', gw_made S μ S' μ' 10 a0 → Q none S' μ') : gw_ok l x (d + 6) sgX10_init 267 3597 [.ref a0] S μ Q := by
  refine gw_ok_of stX10_init (lv0 := [.ref a0]) (Nat.le_of_ble_eq_true rfl) rfl rfl ?_
  intro K hK
  have hp := pg_start [] [] hn hk hr hm hl
  refine hK _ _ _ _ _ _ _ ?_
  rw [fdX10_init_0]
  simp only [bkX10_init_0, hn, gt_nil, gt_aload_n, gt_rfk, gw_nth, gw_set, gt_new, gt_newa, gt_anewa, gt_obj, gt_sp0, gt_sp1, gt_put_r, gt_put_i, gt_dup_i, gt_dup_r, gt_iconst, gt_bipush, gt_istore_n, gt_iastore, gt_get_r, gt_s2_0, gt_vret, nn_new, nn_sr, Nat.add_assoc, Nat.reduceAdd, Option.toList, List.cons_append, List.nil_append, Nat.add_zero, Nat.zero_add, (show Int32.toNatClampNeg 0 = 0 from rfl), (show Int32.toNatClampNeg 1 = 1 from rfl)]
  refine ⟨h1, ?_⟩
  refine ⟨by decide, by decide, ?_⟩
  have nf := gw_newf (μ := fun _ _ => 0) (c := 3) (a0 := a0) (m := 0) hp.1 1 rfl
  refine ⟨by omega, rfl, 81, 1092, by decide, by decide, ctorN_X3 nf.1 nf.2.1 nf.2.2.1 (fun jj => by simp [gw_row]) nf.2.2.2.2 (by omega) (fun S1 μ1 hm1 => ?_)⟩
  replace hp := pg_sub2 hp 3 81 1 82 rfl rfl rfl hm1 (by decide +kernel) (by decide +kernel)
  replace hn := hp.1
  simp only [hn, gt_nil, gt_aload_n, gt_rfk, gw_nth, gw_set, gt_new, gt_newa, gt_anewa, gt_obj, gt_sp0, gt_sp1, gt_put_r, gt_put_i, gt_dup_i, gt_dup_r, gt_iconst, gt_bipush, gt_istore_n, gt_iastore, gt_get_r, gt_s2_0, gt_vret, nn_new, nn_sr, Nat.add_assoc, Nat.reduceAdd, Option.toList, List.cons_append, List.nil_append, Nat.add_zero, Nat.zero_add, (show Int32.toNatClampNeg 0 = 0 from rfl), (show Int32.toNatClampNeg 1 = 1 from rfl)]
  refine ⟨hp.2.1, by omega, ?_⟩
  replace hp := pg_ref hp 0 (a0 + 1)
  refine ⟨by decide, by decide, ?_⟩
  have nf := gw_newf (μ := fun _ _ => 0) (c := 5) (a0 := a0) (m := 82) hp.1 83 rfl
  refine ⟨by omega, rfl, 1, 20, by decide, by decide, ctorN_X5 nf.1 nf.2.1 nf.2.2.1 (fun jj => by simp [gw_row]) nf.2.2.2.2 (by omega) (fun S2 μ2 hm2 => ?_)⟩
  replace hp := pg_sub2 hp 5 1 83 84 rfl rfl rfl hm2 (by decide +kernel) (by decide +kernel)
  replace hn := hp.1
  simp only [hn, gt_nil, gt_aload_n, gt_rfk, gw_nth, gw_set, gt_new, gt_newa, gt_anewa, gt_obj, gt_sp0, gt_sp1, gt_put_r, gt_put_i, gt_dup_i, gt_dup_r, gt_iconst, gt_bipush, gt_istore_n, gt_iastore, gt_get_r, gt_s2_0, gt_vret, nn_new, nn_sr, Nat.add_assoc, Nat.reduceAdd, Option.toList, List.cons_append, List.nil_append, Nat.add_zero, Nat.zero_add, (show Int32.toNatClampNeg 0 = 0 from rfl), (show Int32.toNatClampNeg 1 = 1 from rfl)]
  refine ⟨hp.2.1, by omega, ?_⟩
  replace hp := pg_ref hp 1 (a0 + 83)
  refine ⟨by decide, by decide, ?_⟩
  have nf := gw_newf (μ := fun _ _ => 0) (c := 3) (a0 := a0) (m := 84) hp.1 85 rfl
  refine ⟨by omega, rfl, 81, 1092, by decide, by decide, ctorN_X3 nf.1 nf.2.1 nf.2.2.1 (fun jj => by simp [gw_row]) nf.2.2.2.2 (by omega) (fun S3 μ3 hm3 => ?_)⟩
  replace hp := pg_sub2 hp 3 81 85 166 rfl rfl rfl hm3 (by decide +kernel) (by decide +kernel)
  replace hn := hp.1
  simp only [hn, gt_nil, gt_aload_n, gt_rfk, gw_nth, gw_set, gt_new, gt_newa, gt_anewa, gt_obj, gt_sp0, gt_sp1, gt_put_r, gt_put_i, gt_dup_i, gt_dup_r, gt_iconst, gt_bipush, gt_istore_n, gt_iastore, gt_get_r, gt_s2_0, gt_vret, nn_new, nn_sr, Nat.add_assoc, Nat.reduceAdd, Option.toList, List.cons_append, List.nil_append, Nat.add_zero, Nat.zero_add, (show Int32.toNatClampNeg 0 = 0 from rfl), (show Int32.toNatClampNeg 1 = 1 from rfl)]
  refine ⟨hp.2.1, by omega, ?_⟩
  replace hp := pg_ref hp 2 (a0 + 85)
  refine ⟨by decide, by decide, ?_⟩
  have nf := gw_newf (μ := fun _ _ => 0) (c := 5) (a0 := a0) (m := 166) hp.1 167 rfl
  refine ⟨by omega, rfl, 1, 20, by decide, by decide, ctorN_X5 nf.1 nf.2.1 nf.2.2.1 (fun jj => by simp [gw_row]) nf.2.2.2.2 (by omega) (fun S4 μ4 hm4 => ?_)⟩
  replace hp := pg_sub2 hp 5 1 167 168 rfl rfl rfl hm4 (by decide +kernel) (by decide +kernel)
  replace hn := hp.1
  simp only [hn, gt_nil, gt_aload_n, gt_rfk, gw_nth, gw_set, gt_new, gt_newa, gt_anewa, gt_obj, gt_sp0, gt_sp1, gt_put_r, gt_put_i, gt_dup_i, gt_dup_r, gt_iconst, gt_bipush, gt_istore_n, gt_iastore, gt_get_r, gt_s2_0, gt_vret, nn_new, nn_sr, Nat.add_assoc, Nat.reduceAdd, Option.toList, List.cons_append, List.nil_append, Nat.add_zero, Nat.zero_add, (show Int32.toNatClampNeg 0 = 0 from rfl), (show Int32.toNatClampNeg 1 = 1 from rfl)]
  refine ⟨hp.2.1, by omega, ?_⟩
  replace hp := pg_ref hp 3 (a0 + 167)
  refine ⟨by decide, by decide, ?_⟩
  have nf := gw_newf (μ := fun _ _ => 0) (c := 3) (a0 := a0) (m := 168) hp.1 169 rfl
  refine ⟨by omega, rfl, 81, 1092, by decide, by decide, ctorN_X3 nf.1 nf.2.1 nf.2.2.1 (fun jj => by simp [gw_row]) nf.2.2.2.2 (by omega) (fun S5 μ5 hm5 => ?_)⟩
  replace hp := pg_sub2 hp 3 81 169 250 rfl rfl rfl hm5 (by decide +kernel) (by decide +kernel)
  replace hn := hp.1
  simp only [hn, gt_nil, gt_aload_n, gt_rfk, gw_nth, gw_set, gt_new, gt_newa, gt_anewa, gt_obj, gt_sp0, gt_sp1, gt_put_r, gt_put_i, gt_dup_i, gt_dup_r, gt_iconst, gt_bipush, gt_istore_n, gt_iastore, gt_get_r, gt_s2_0, gt_vret, nn_new, nn_sr, Nat.add_assoc, Nat.reduceAdd, Option.toList, List.cons_append, List.nil_append, Nat.add_zero, Nat.zero_add, (show Int32.toNatClampNeg 0 = 0 from rfl), (show Int32.toNatClampNeg 1 = 1 from rfl)]
  refine ⟨hp.2.1, by omega, ?_⟩
  replace hp := pg_ref hp 4 (a0 + 169)
  refine ⟨by decide, by decide, ?_⟩
  have nf := gw_newf (μ := fun _ _ => 0) (c := 6) (a0 := a0) (m := 250) hp.1 251 rfl
  refine ⟨by omega, rfl, 16, 226, by decide, by decide, ctorN_X6 nf.1 nf.2.1 nf.2.2.1 (fun jj => by simp [gw_row]) nf.2.2.2.2 (by omega) (fun S6 μ6 hm6 => ?_)⟩
  replace hp := pg_sub2 hp 6 16 251 267 rfl rfl rfl hm6 (by decide +kernel) (by decide +kernel)
  replace hn := hp.1
  simp only [hn, gt_nil, gt_aload_n, gt_rfk, gw_nth, gw_set, gt_new, gt_newa, gt_anewa, gt_obj, gt_sp0, gt_sp1, gt_put_r, gt_put_i, gt_dup_i, gt_dup_r, gt_iconst, gt_bipush, gt_istore_n, gt_iastore, gt_get_r, gt_s2_0, gt_vret, nn_new, nn_sr, Nat.add_assoc, Nat.reduceAdd, Option.toList, List.cons_append, List.nil_append, Nat.add_zero, Nat.zero_add, (show Int32.toNatClampNeg 0 = 0 from rfl), (show Int32.toNatClampNeg 1 = 1 from rfl)]
  refine ⟨hp.2.1, by omega, ?_⟩
  replace hp := pg_ref hp 5 (a0 + 251)
  refine ⟨by decide, by decide, hq _ _ (pg_end hp rfl rfl rfl rfl ?_ ?_ ?_ ?_)⟩
  · intro r hr
    simp only [List.mem_cons, List.not_mem_nil, or_false] at hr
    rcases hr with rfl | rfl | rfl | rfl | rfl | rfl <;> rfl
  · intro j v hv
    match j, hv with
    | 0, hv => obtain rfl := Option.some.inj hv; rfl
    | 1, hv => obtain rfl := Option.some.inj hv; rfl
    | 2, hv => obtain rfl := Option.some.inj hv; rfl
    | 3, hv => obtain rfl := Option.some.inj hv; rfl
    | 4, hv => obtain rfl := Option.some.inj hv; rfl
    | 5, hv => obtain rfl := Option.some.inj hv; rfl
    | n + 6, hv => simp at hv
  · exact fun k hk => by cases hk
  · exact fun k hk => by cases hk
