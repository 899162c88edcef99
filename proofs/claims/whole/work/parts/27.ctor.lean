/-! ===== constructors: rewriting rows ===== -/
section STEPS4
variable {ok : gw_Ok} {x : gw_C} {mc ms : Nat} {Q : Option Value → gw_S → gw_M → Prop} {K : Nat → gw_Kt} {pc pc' n : Nat} {iv : List Int32} {es : List gw_E} {ls t : List Value} {S : gw_S} {μ : gw_M} {cc ss : Nat} {ci j r k1 k2 k3 k4 kd : Nat} {g : gw_Sig} {w : Int32} {sg : List gw_Sig} {an : List Nat} {aty : ArrayType}
theorem gt_new : gw_blk ok x mc ms Q K ((pc, n, .new j, [ci, k1, k2, k3], iv, sg) :: es) pc' ls t S μ cc ss = (cc + 1 ≤ mc ∧ ss + gw_nf ci ≤ ms ∧ gw_blk ok x mc ms Q K es (pc + n) ls (.ref (gw_nn S + 1) :: t) (gw_new S ci 0) (gw_row μ (gw_nn S + 1) (fun _ => 0)) (cc + 1) (ss + gw_nf ci)) := rfl
theorem gt_newa : gw_blk ok x mc ms Q K ((pc, n, .newarray aty, an, iv, sg) :: es) pc' ls (.int w :: t) S μ cc ss = (gw_in w 100000 ∧ cc + 1 ≤ mc ∧ ss + w.toNatClampNeg ≤ ms ∧ gw_blk ok x mc ms Q K es (pc + n) ls (.ref (gw_nn S + 1) :: t) (gw_new S 12 w.toNatClampNeg) (gw_row μ (gw_nn S + 1) (fun _ => 0)) (cc + 1) (ss + w.toNatClampNeg)) := rfl
theorem gt_anewa : gw_blk ok x mc ms Q K ((pc, n, .anewarray j, [kd, k1, k2], iv, sg) :: es) pc' ls (.int w :: t) S μ cc ss = (gw_in w 100000 ∧ cc + 1 ≤ mc ∧ ss + w.toNatClampNeg ≤ ms ∧ gw_blk ok x mc ms Q K es (pc + n) ls (.ref (gw_nn S + 1) :: t) (gw_new S kd w.toNatClampNeg) (gw_row μ (gw_nn S + 1) (fun _ => 0)) (cc + 1) (ss + w.toNatClampNeg)) := rfl
theorem gt_obj : gw_blk ok x mc ms Q K ((pc, n, .invokespecial j, [0, 2, k1, k2, k3, k4], iv, []) :: es) pc' ls [.ref r] S μ cc ss = (¬ r = 0 ∧ gw_blk ok x mc ms Q K es (pc + n) ls [] S μ cc ss) := rfl
theorem gt_sp0 : gw_blk ok x mc ms Q K ((pc, n, .invokespecial j, [0, 0, k1, k2, k3, k4], iv, [g]) :: es) pc' ls (.ref r :: t) S μ cc ss = (¬ r = 0 ∧ gw_r8 t 8 = true ∧ ∃ mc' ms', cc + mc' ≤ mc ∧ ss + ms' ≤ ms ∧ ok g mc' ms' [.ref r] S μ (fun r S' μ' => gw_blk ok x mc ms Q K es (pc + n) ls (r.toList ++ t) S' μ' (cc + mc') (ss + ms'))) := rfl
theorem gt_sp1 : gw_blk ok x mc ms Q K ((pc, n, .invokespecial j, [0, 1, k1, k2, k3, k4], iv, [g]) :: es) pc' ls (.ref r :: t) S μ cc ss = (¬ r = 0 ∧ gw_r8 t 8 = true ∧ ∃ mc' ms', cc + mc' ≤ mc ∧ ss + ms' ≤ ms ∧ ok g mc' ms' [.ref r] S μ (fun r S' μ' => gw_blk ok x mc ms Q K es (pc + n) ls (r.toList ++ t) S' μ' (cc + mc') (ss + ms'))) := rfl
end STEPS4
theorem nn_new (S : gw_S) (kd ln : Nat) : gw_nn (gw_new S kd ln) = gw_nn S + 1 := rfl
theorem nn_sr (S : gw_S) (a k r : Nat) : gw_nn (gw_sr S a k r) = gw_nn S := rfl
theorem kd_sr (S : gw_S) (a k r b : Nat) : gw_kd (gw_sr S a k r) b = gw_kd S b := rfl
theorem ln_sr (S : gw_S) (a k r b : Nat) : gw_ln (gw_sr S a k r) b = gw_ln S b := rfl
theorem kd_new (S : gw_S) (kd ln b : Nat) : gw_kd (gw_new S kd ln) b = if b = gw_nn S + 1 then kd else gw_kd S b := rfl
theorem ln_new (S : gw_S) (kd ln b : Nat) : gw_ln (gw_new S kd ln) b = if b = gw_nn S + 1 then ln else gw_ln S b := rfl
theorem rf_new (S : gw_S) (kd ln b j : Nat) : gw_rf (gw_new S kd ln) b j = if b = gw_nn S + 1 then 0 else gw_rf S b j := rfl
theorem rf_sr (S : gw_S) (a k r b j : Nat) : gw_rf (gw_sr S a k r) b j = if b = a ∧ j = k then r else gw_rf S b j := rfl
def gw_inl (c : Nat) : List (List Int32) := match c with
  | 0 => [[0, 0, 0, 0, 0, 16, 0], List.replicate 5 0, List.replicate 24 0, List.replicate 24 0, List.replicate 24 0, List.replicate 16 0]
  | 1 => [[0, 0, 0, -1, -1, -1], [0, 0, 0, 0, 0, 16, 0], List.replicate 5 0, List.replicate 24 0, List.replicate 24 0, List.replicate 24 0, List.replicate 16 0, List.replicate 4 0, List.replicate 16 (-1), List.replicate 16 0, List.replicate 16 0, List.replicate 4 0, List.replicate 16 (-1), List.replicate 16 0, List.replicate 16 0]
  | 2 => [[0, 0, 0, 0, 0, -1, -1, 0, 0, 0, 0, 0, 0, 0, 0], List.replicate 24 0, List.replicate 24 0, List.replicate 24 0, List.replicate 24 0, [0, 0], List.replicate 24 0, List.replicate 24 0, List.replicate 4 0, [0, 0], [-1, -1], [-1, -1]]
  | 3 => [[0, 0, 6, 0, 0, 0, 1, 0, 0, 0, 0, 0, -1, 0, 0], List.replicate 6 0, List.replicate 4 0, List.replicate 16 (-1), List.replicate 16 0, List.replicate 16 0, [0, 11, 22, 33, 44, 55, 66, 77, 88, 99], List.replicate 16 (-1), List.replicate 4 0, List.replicate 16 (-1), List.replicate 16 0, List.replicate 16 0, [0, 0, 0, 0, 0, 16, 0], List.replicate 5 0, List.replicate 24 0, List.replicate 24 0, List.replicate 24 0, List.replicate 16 0, [], [0, 0], List.replicate 10 (-1), List.replicate 4 0, List.replicate 12 0, List.replicate 12 0, List.replicate 12 0, [0, 0, 0, 0, 0, -1, -1, 0, 0, 0, 0, 0, 0, 0, 0], List.replicate 24 0, List.replicate 24 0, List.replicate 24 0, List.replicate 24 0, [0, 0], List.replicate 24 0, List.replicate 24 0, List.replicate 4 0, [0, 0], [-1, -1], [-1, -1], [0, 0, 0, -1, -1, -1], [0, 0, 0, 0, 0, 16, 0], List.replicate 5 0, List.replicate 24 0, List.replicate 24 0, List.replicate 24 0, List.replicate 16 0, List.replicate 4 0, List.replicate 16 (-1), List.replicate 16 0, List.replicate 16 0, List.replicate 4 0, List.replicate 16 (-1), List.replicate 16 0, List.replicate 16 0, [0, 0, 0, -1, -1, -1], [0, 0, 0, 0, 0, 16, 0], List.replicate 5 0, List.replicate 24 0, List.replicate 24 0, List.replicate 24 0, List.replicate 16 0, List.replicate 4 0, List.replicate 16 (-1), List.replicate 16 0, List.replicate 16 0, List.replicate 4 0, List.replicate 16 (-1), List.replicate 16 0, List.replicate 16 0, [0, 0, 0, -1, -1, -1], [0, 0, 0, 0, 0, 16, 0], List.replicate 5 0, List.replicate 24 0, List.replicate 24 0, List.replicate 24 0, List.replicate 16 0, List.replicate 4 0, List.replicate 16 (-1), List.replicate 16 0, List.replicate 16 0, List.replicate 4 0, List.replicate 16 (-1), List.replicate 16 0, List.replicate 16 0]
  | 4 => [List.replicate 6 0, List.replicate 4 0, List.replicate 16 (-1), List.replicate 16 0, List.replicate 16 0, [0, 11, 22, 33, 44, 55, 66, 77, 88, 99], List.replicate 16 (-1)]
  | 5 => [List.replicate 3 0, []]
  | 6 => [List.replicate 4 0, [0, 0, 0, -1, -1, -1], [0, 0, 0, 0, 0, 16, 0], List.replicate 5 0, List.replicate 24 0, List.replicate 24 0, List.replicate 24 0, List.replicate 16 0, List.replicate 4 0, List.replicate 16 (-1), List.replicate 16 0, List.replicate 16 0, List.replicate 4 0, List.replicate 16 (-1), List.replicate 16 0, List.replicate 16 0, List.replicate 16 0]
  | 7 => [List.replicate 5 0, List.replicate 24 0, List.replicate 24 0, List.replicate 24 0]
  | 8 => [List.replicate 4 0, List.replicate 16 (-1), List.replicate 16 0, List.replicate 16 0]
  | 9 => [List.replicate 4 0, List.replicate 12 0, List.replicate 12 0, List.replicate 12 0]
  | 10 => [List.replicate 6 0, [0, 0, 6, 0, 0, 0, 1, 0, 0, 0, 0, 0, -1, 0, 0], List.replicate 6 0, List.replicate 4 0, List.replicate 16 (-1), List.replicate 16 0, List.replicate 16 0, [0, 11, 22, 33, 44, 55, 66, 77, 88, 99], List.replicate 16 (-1), List.replicate 4 0, List.replicate 16 (-1), List.replicate 16 0, List.replicate 16 0, [0, 0, 0, 0, 0, 16, 0], List.replicate 5 0, List.replicate 24 0, List.replicate 24 0, List.replicate 24 0, List.replicate 16 0, [], [0, 0], List.replicate 10 (-1), List.replicate 4 0, List.replicate 12 0, List.replicate 12 0, List.replicate 12 0, [0, 0, 0, 0, 0, -1, -1, 0, 0, 0, 0, 0, 0, 0, 0], List.replicate 24 0, List.replicate 24 0, List.replicate 24 0, List.replicate 24 0, [0, 0], List.replicate 24 0, List.replicate 24 0, List.replicate 4 0, [0, 0], [-1, -1], [-1, -1], [0, 0, 0, -1, -1, -1], [0, 0, 0, 0, 0, 16, 0], List.replicate 5 0, List.replicate 24 0, List.replicate 24 0, List.replicate 24 0, List.replicate 16 0, List.replicate 4 0, List.replicate 16 (-1), List.replicate 16 0, List.replicate 16 0, List.replicate 4 0, List.replicate 16 (-1), List.replicate 16 0, List.replicate 16 0, [0, 0, 0, -1, -1, -1], [0, 0, 0, 0, 0, 16, 0], List.replicate 5 0, List.replicate 24 0, List.replicate 24 0, List.replicate 24 0, List.replicate 16 0, List.replicate 4 0, List.replicate 16 (-1), List.replicate 16 0, List.replicate 16 0, List.replicate 4 0, List.replicate 16 (-1), List.replicate 16 0, List.replicate 16 0, [0, 0, 0, -1, -1, -1], [0, 0, 0, 0, 0, 16, 0], List.replicate 5 0, List.replicate 24 0, List.replicate 24 0, List.replicate 24 0, List.replicate 16 0, List.replicate 4 0, List.replicate 16 (-1), List.replicate 16 0, List.replicate 16 0, List.replicate 4 0, List.replicate 16 (-1), List.replicate 16 0, List.replicate 16 0, List.replicate 3 0, [], [0, 0, 6, 0, 0, 0, 1, 0, 0, 0, 0, 0, -1, 0, 0], List.replicate 6 0, List.replicate 4 0, List.replicate 16 (-1), List.replicate 16 0, List.replicate 16 0, [0, 11, 22, 33, 44, 55, 66, 77, 88, 99], List.replicate 16 (-1), List.replicate 4 0, List.replicate 16 (-1), List.replicate 16 0, List.replicate 16 0, [0, 0, 0, 0, 0, 16, 0], List.replicate 5 0, List.replicate 24 0, List.replicate 24 0, List.replicate 24 0, List.replicate 16 0, [], [0, 0], List.replicate 10 (-1), List.replicate 4 0, List.replicate 12 0, List.replicate 12 0, List.replicate 12 0, [0, 0, 0, 0, 0, -1, -1, 0, 0, 0, 0, 0, 0, 0, 0], List.replicate 24 0, List.replicate 24 0, List.replicate 24 0, List.replicate 24 0, [0, 0], List.replicate 24 0, List.replicate 24 0, List.replicate 4 0, [0, 0], [-1, -1], [-1, -1], [0, 0, 0, -1, -1, -1], [0, 0, 0, 0, 0, 16, 0], List.replicate 5 0, List.replicate 24 0, List.replicate 24 0, List.replicate 24 0, List.replicate 16 0, List.replicate 4 0, List.replicate 16 (-1), List.replicate 16 0, List.replicate 16 0, List.replicate 4 0, List.replicate 16 (-1), List.replicate 16 0, List.replicate 16 0, [0, 0, 0, -1, -1, -1], [0, 0, 0, 0, 0, 16, 0], List.replicate 5 0, List.replicate 24 0, List.replicate 24 0, List.replicate 24 0, List.replicate 16 0, List.replicate 4 0, List.replicate 16 (-1), List.replicate 16 0, List.replicate 16 0, List.replicate 4 0, List.replicate 16 (-1), List.replicate 16 0, List.replicate 16 0, [0, 0, 0, -1, -1, -1], [0, 0, 0, 0, 0, 16, 0], List.replicate 5 0, List.replicate 24 0, List.replicate 24 0, List.replicate 24 0, List.replicate 16 0, List.replicate 4 0, List.replicate 16 (-1), List.replicate 16 0, List.replicate 16 0, List.replicate 4 0, List.replicate 16 (-1), List.replicate 16 0, List.replicate 16 0, List.replicate 3 0, [], [0, 0, 6, 0, 0, 0, 1, 0, 0, 0, 0, 0, -1, 0, 0], List.replicate 6 0, List.replicate 4 0, List.replicate 16 (-1), List.replicate 16 0, List.replicate 16 0, [0, 11, 22, 33, 44, 55, 66, 77, 88, 99], List.replicate 16 (-1), List.replicate 4 0, List.replicate 16 (-1), List.replicate 16 0, List.replicate 16 0, [0, 0, 0, 0, 0, 16, 0], List.replicate 5 0, List.replicate 24 0, List.replicate 24 0, List.replicate 24 0, List.replicate 16 0, [], [0, 0], List.replicate 10 (-1), List.replicate 4 0, List.replicate 12 0, List.replicate 12 0, List.replicate 12 0, [0, 0, 0, 0, 0, -1, -1, 0, 0, 0, 0, 0, 0, 0, 0], List.replicate 24 0, List.replicate 24 0, List.replicate 24 0, List.replicate 24 0, [0, 0], List.replicate 24 0, List.replicate 24 0, List.replicate 4 0, [0, 0], [-1, -1], [-1, -1], [0, 0, 0, -1, -1, -1], [0, 0, 0, 0, 0, 16, 0], List.replicate 5 0, List.replicate 24 0, List.replicate 24 0, List.replicate 24 0, List.replicate 16 0, List.replicate 4 0, List.replicate 16 (-1), List.replicate 16 0, List.replicate 16 0, List.replicate 4 0, List.replicate 16 (-1), List.replicate 16 0, List.replicate 16 0, [0, 0, 0, -1, -1, -1], [0, 0, 0, 0, 0, 16, 0], List.replicate 5 0, List.replicate 24 0, List.replicate 24 0, List.replicate 24 0, List.replicate 16 0, List.replicate 4 0, List.replicate 16 (-1), List.replicate 16 0, List.replicate 16 0, List.replicate 4 0, List.replicate 16 (-1), List.replicate 16 0, List.replicate 16 0, [0, 0, 0, -1, -1, -1], [0, 0, 0, 0, 0, 16, 0], List.replicate 5 0, List.replicate 24 0, List.replicate 24 0, List.replicate 24 0, List.replicate 16 0, List.replicate 4 0, List.replicate 16 (-1), List.replicate 16 0, List.replicate 16 0, List.replicate 4 0, List.replicate 16 (-1), List.replicate 16 0, List.replicate 16 0, List.replicate 4 0, [0, 0, 0, -1, -1, -1], [0, 0, 0, 0, 0, 16, 0], List.replicate 5 0, List.replicate 24 0, List.replicate 24 0, List.replicate 24 0, List.replicate 16 0, List.replicate 4 0, List.replicate 16 (-1), List.replicate 16 0, List.replicate 16 0, List.replicate 4 0, List.replicate 16 (-1), List.replicate 16 0, List.replicate 16 0, List.replicate 16 0]
  | _ => []
/-- what the cells hold at first -/
def gw_c0 (μ : gw_M) (c e : Nat) : Prop := ∀ (k : Nat) (row : List Int32), (gw_inl c)[k]? = some row → ∀ (j : Nat) (v : Int32), row[j]? = some v → μ (e + k) j = v
def gw_kept (S : gw_S) (μ : gw_M) (S' : gw_S) (μ' : gw_M) (a0 : Nat) : Prop := ∀ b, b < a0 → gw_kd S' b = gw_kd S b ∧ gw_ln S' b = gw_ln S b ∧ (∀ j, gw_rf S' b j = gw_rf S b j) ∧ ∀ j, μ' b j = μ b j
/-- an object of class c was made at a0, with all that is inside it -/
def gw_made (S : gw_S) (μ : gw_M) (S' : gw_S) (μ' : gw_M) (c a0 : Nat) : Prop := gw_nn S' = a0 + ((gw_lay c).length - 1) ∧ gw_sh S' c a0 ∧ gw_c0 μ' c a0 ∧ gw_kept S μ S' μ' a0
def gw_k1 (S : gw_S) (c a0 k : Nat) : Prop := ∀ q, (gw_lay c)[k]? = some q → gw_kd S (a0 + k) = q.1 ∧ gw_ln S (a0 + k) = q.2.1
def gw_k2 (S : gw_S) (c a0 k : Nat) : Prop := ∀ q, (gw_lay c)[k]? = some q → ∀ r ∈ q.2.2, gw_rf S (a0 + k) r.1 = a0 + r.2
def gw_k3 (μ : gw_M) (c a0 k : Nat) : Prop := ∀ row, (gw_inl c)[k]? = some row → ∀ (j : Nat) (v : Int32), row[j]? = some v → μ (a0 + k) j = v
/-- being made: the cells 1 .. m stand (but the refs of those in ex, the contents of those in em), the own cell holds R and I -/
def gw_pg (S0 : gw_S) (μ0 : gw_M) (c a0 m : Nat) (ex em : List Nat) (R : Nat → Nat) (I : Nat → Int32) (S : gw_S) (μ : gw_M) : Prop :=
  gw_nn S = a0 + m ∧ gw_kd S a0 = c ∧ (∀ j, gw_rf S a0 j = R j) ∧ (∀ j, μ a0 j = I j) ∧ (∀ k, 1 ≤ k → k ≤ m → gw_k1 S c a0 k ∧ (k ∉ ex → gw_k2 S c a0 k) ∧ (k ∉ em → gw_k3 μ c a0 k)) ∧ gw_kept S0 μ0 S μ a0 ∧ gw_ln S a0 = 0
def gw_upn (R : Nat → Nat) (k r : Nat) : Nat → Nat := fun j => if j = k then r else R j
def gw_upi (I : Nat → Int32) (k : Nat) (v : Int32) : Nat → Int32 := fun j => if j = k then v else I j
theorem gw_k_kept {S S' : gw_S} {μ μ' : gw_M} {c a0 k : Nat} {P R : Prop} (h : gw_k1 S c a0 k ∧ (P → gw_k2 S c a0 k) ∧ (R → gw_k3 μ c a0 k)) (h1 : gw_kd S' (a0 + k) = gw_kd S (a0 + k)) (h2 : gw_ln S' (a0 + k) = gw_ln S (a0 + k)) (h3 : P → ∀ j, gw_rf S' (a0 + k) j = gw_rf S (a0 + k) j) (h4 : R → ∀ j, μ' (a0 + k) j = μ (a0 + k) j) : gw_k1 S' c a0 k ∧ (P → gw_k2 S' c a0 k) ∧ (R → gw_k3 μ' c a0 k) := by
  refine ⟨fun q hq => ?_, fun hp q hq r hr => ?_, fun hp row hr j v hv => ?_⟩
  · obtain ⟨a, b⟩ := h.1 q hq
    exact ⟨h1.trans a, h2.trans b⟩
  · rw [h3 hp]; exact h.2.1 hp q hq r hr
  · rw [h4 hp]; exact h.2.2 hp row hr j v hv
theorem pg_start {S : gw_S} {μ : gw_M} {c a0 : Nat} (ex em : List Nat) (hn : gw_nn S = a0) (hk : gw_kd S a0 = c) (hr : ∀ j, gw_rf S a0 j = 0) (hm : ∀ j, μ a0 j = 0) (hl : gw_ln S a0 = 0) : gw_pg S μ c a0 0 ex em (fun _ => 0) (fun _ => 0) S μ :=
  ⟨hn, hk, hr, hm, fun k h1 h2 => by omega, fun b _ => ⟨rfl, rfl, fun _ => rfl, fun _ => rfl⟩, hl⟩
theorem pg_ref {S0 S : gw_S} {μ0 μ : gw_M} {c a0 m : Nat} {ex em : List Nat} {R : Nat → Nat} {I : Nat → Int32} (h : gw_pg S0 μ0 c a0 m ex em R I S μ) (k r : Nat) : gw_pg S0 μ0 c a0 m ex em (gw_upn R k r) I (gw_sr S a0 k r) μ := by
  obtain ⟨h1, h2, h3, h4, h5, h6, h7⟩ := h
  refine ⟨h1, h2, fun j => ?_, h4, fun k' q1 q2 => ?_, fun b hb => ?_, h7⟩
  · rw [rf_sr]
    by_cases hj : j = k
    · simp [gw_upn, hj]
    · simp [gw_upn, hj, h3]
  · refine gw_k_kept (h5 k' q1 q2) rfl rfl (fun _ j => ?_) (fun _ _ => rfl)
    rw [rf_sr, if_neg (by omega)]
  · obtain ⟨a1, a2, a3, a4⟩ := h6 b hb
    refine ⟨a1, a2, fun j => ?_, a4⟩
    rw [rf_sr, if_neg (by omega)]
    exact a3 j
theorem pg_int {S0 S : gw_S} {μ0 μ : gw_M} {c a0 m : Nat} {ex em : List Nat} {R : Nat → Nat} {I : Nat → Int32} (h : gw_pg S0 μ0 c a0 m ex em R I S μ) (k : Nat) (v : Int32) : gw_pg S0 μ0 c a0 m ex em R (gw_upi I k v) S (gw_up μ a0 k v) := by
  obtain ⟨h1, h2, h3, h4, h5, h6, h7⟩ := h
  refine ⟨h1, h2, h3, fun j => ?_, fun k' q1 q2 => ?_, fun b hb => ?_, h7⟩
  · by_cases hj : j = k
    · simp [gw_upi, gw_up, hj]
    · simp [gw_upi, gw_up, hj, h4]
  · refine gw_k_kept (h5 k' q1 q2) rfl rfl (fun _ _ => rfl) (fun _ j => ?_)
    simp only [gw_up]
    rw [if_neg (by omega)]
  · obtain ⟨a1, a2, a3, a4⟩ := h6 b hb
    refine ⟨a1, a2, a3, fun j => ?_⟩
    simp only [gw_up]
    rw [if_neg (by omega)]
    exact a4 j
/-- a write into a cell that is excepted -/
theorem pg_ex {S0 S : gw_S} {μ0 μ μ' : gw_M} {c a0 m : Nat} {ex em : List Nat} {R : Nat → Nat} {I : Nat → Int32} (h : gw_pg S0 μ0 c a0 m ex em R I S μ) (k : Nat) (hk : k ∈ em) (h1 : 1 ≤ k) (hm : ∀ b, b ≠ a0 + k → ∀ j, μ' b j = μ b j) : gw_pg S0 μ0 c a0 m ex em R I S μ' := by
  obtain ⟨g1, g2, g3, g4, g5, g6, g7⟩ := h
  refine ⟨g1, g2, g3, fun j => by rw [hm a0 (by omega)]; exact g4 j, fun k' q1 q2 => ?_, fun b hb => ?_, g7⟩
  · refine gw_k_kept (g5 k' q1 q2) rfl rfl (fun _ _ => rfl) (fun q3 j => hm _ ?_ j)
    intro e
    have : k' = k := by omega
    exact q3 (this ▸ hk)
  · obtain ⟨a1, a2, a3, a4⟩ := g6 b hb
    exact ⟨a1, a2, a3, fun j => by rw [hm b (by omega)]; exact a4 j⟩
theorem pg_exS {S0 S : gw_S} {μ0 μ : gw_M} {c a0 m : Nat} {ex em : List Nat} {R : Nat → Nat} {I : Nat → Int32} (h : gw_pg S0 μ0 c a0 m ex em R I S μ) (k : Nat) (hk : k ∈ ex) (h1 : 1 ≤ k) (i r : Nat) : gw_pg S0 μ0 c a0 m ex em R I (gw_sr S (a0 + k) i r) μ := by
  obtain ⟨g1, g2, g3, g4, g5, g6, g7⟩ := h
  refine ⟨g1, g2, fun j => by rw [rf_sr, if_neg (by omega)]; exact g3 j, g4, fun k' q1 q2 => ?_, fun b hb => ?_, g7⟩
  · refine gw_k_kept (g5 k' q1 q2) rfl rfl (fun q3 j => ?_) (fun _ _ => rfl)
    rw [rf_sr, if_neg]
    rintro ⟨e, -⟩
    have : k' = k := by omega
    exact q3 (this ▸ hk)
  · obtain ⟨a1, a2, a3, a4⟩ := g6 b hb
    exact ⟨a1, a2, fun j => by rw [rf_sr, if_neg (by omega)]; exact a3 j, a4⟩
theorem pg_arr {S0 S : gw_S} {μ0 μ : gw_M} {c a0 m : Nat} {ex em : List Nat} {R : Nat → Nat} {I : Nat → Int32} (h : gw_pg S0 μ0 c a0 m ex em R I S μ) (kd n : Nat) {rl : List (Nat × Nat)} (hl : (gw_lay c)[m + 1]? = some (kd, n, rl)) (hr : m + 1 ∈ ex ∨ rl = []) (hc : m + 1 ∈ em ∨ ∃ z, (gw_inl c)[m + 1]? = some (List.replicate z 0)) : gw_pg S0 μ0 c a0 (m + 1) ex em R I (gw_new S kd n) (gw_row μ (gw_nn S + 1) (fun _ => 0)) := by
  obtain ⟨g1, g2, g3, g4, g5, g6, g7⟩ := h
  refine ⟨by rw [nn_new, g1]; omega, by rw [kd_new, if_neg (by omega)]; exact g2, fun j => by rw [rf_new, if_neg (by omega)]; exact g3 j, fun j => by simp only [gw_row]; rw [if_neg (by omega)]; exact g4 j, fun k q1 q2 => ?_, fun b hb => ?_, by rw [ln_new, if_neg (by omega)]; exact g7⟩
  · by_cases hk : k = m + 1
    · subst hk
      have e : a0 + (m + 1) = gw_nn S + 1 := by omega
      refine ⟨fun q hq => ?_, fun hx q hq r hr' => ?_, fun hx row hrow j v hv => ?_⟩
      · rw [hl] at hq
        cases hq
        rw [e, kd_new, ln_new, if_pos rfl, if_pos rfl]
        exact ⟨rfl, rfl⟩
      · rw [hl] at hq
        cases hq
        rcases hr with hr | hr
        · exact absurd hr hx
        · subst hr; cases hr'
      · rcases hc with hc | ⟨z, hz⟩
        · exact absurd hc hx
        · rw [hz] at hrow
          cases hrow
          rw [e]
          have := List.mem_of_getElem? hv
          rw [List.mem_replicate] at this
          simp [gw_row, this.2]
    · refine gw_k_kept (g5 k q1 (by omega)) ?_ ?_ (fun _ j => ?_) (fun _ j => ?_)
      · rw [kd_new, if_neg (by omega)]
      · rw [ln_new, if_neg (by omega)]
      · rw [rf_new, if_neg (by omega)]
      · simp only [gw_row]; rw [if_neg (by omega)]
  · obtain ⟨a1, a2, a3, a4⟩ := g6 b hb
    refine ⟨by rw [kd_new, if_neg (by omega)]; exact a1, by rw [ln_new, if_neg (by omega)]; exact a2, fun j => by rw [rf_new, if_neg (by omega)]; exact a3 j, fun j => ?_⟩
    simp only [gw_row]; rw [if_neg (by omega)]
    exact a4 j
theorem pg_arr2 {S0 S : gw_S} {μ0 μ : gw_M} {c a0 m : Nat} {ex em : List Nat} {R : Nat → Nat} {I : Nat → Int32} (h : gw_pg S0 μ0 c a0 m ex em R I S μ) (kd n i : Nat) {rl : List (Nat × Nat)} (hi : i = m + 1) (hl : (gw_lay c)[m + 1]? = some (kd, n, rl)) (hr : m + 1 ∈ ex ∨ rl = []) (hc : m + 1 ∈ em ∨ ∃ z, (gw_inl c)[m + 1]? = some (List.replicate z 0)) : gw_pg S0 μ0 c a0 i ex em R I (gw_new S kd n) (gw_row μ (a0 + i) (fun _ => 0)) := by
  subst hi
  have e : a0 + (m + 1) = gw_nn S + 1 := by have := h.1; omega
  rw [e]
  exact pg_arr h kd n hl hr hc
theorem gw_newf {S : gw_S} {μ : gw_M} {c a0 m : Nat} (h : gw_nn S = a0 + m) (i : Nat) (hi : i = m + 1) : gw_nn (gw_new S c 0) = a0 + i ∧ gw_kd (gw_new S c 0) (a0 + i) = c ∧ (∀ j, gw_rf (gw_new S c 0) (a0 + i) j = 0) ∧ (∀ j, gw_row μ (a0 + i) (fun _ => 0) (a0 + i) j = 0) ∧ gw_ln (gw_new S c 0) (a0 + i) = 0 := by
  subst hi
  have e : a0 + (m + 1) = gw_nn S + 1 := by omega
  rw [e]
  refine ⟨nn_new _ _ _, by rw [kd_new, if_pos rfl], fun j => by rw [rf_new, if_pos rfl], fun j => by simp [gw_row], by rw [ln_new, if_pos rfl]⟩
def gw_isini (c c' off : Nat) : Bool := (List.range (gw_lay c').length).all (fun k => decide ((gw_inl c)[off + k]? = (gw_inl c')[k]?))
theorem pg_sub {S0 S S' : gw_S} {μ0 μ μ' : gw_M} {c a0 m : Nat} {ex em : List Nat} {R : Nat → Nat} {I : Nat → Int32} (h : gw_pg S0 μ0 c a0 m ex em R I S μ) (c' n : Nat) (hn : (gw_lay c').length = n + 1) (hm : gw_made (gw_new S c' 0) (gw_row μ (gw_nn S + 1) (fun _ => 0)) S' μ' c' (gw_nn S + 1)) (hs : gw_issub c c' (m + 1) = true) (hi : gw_isini c c' (m + 1) = true) : gw_pg S0 μ0 c a0 (m + 1 + n) ex em R I S' μ' := by
  obtain ⟨g1, g2, g3, g4, g5, g6, g7⟩ := h
  obtain ⟨m1, m2, m3, m4⟩ := hm
  have e : gw_nn S + 1 = a0 + (m + 1) := by omega
  rw [e] at m1 m2 m3 m4
  have old : ∀ b, b < a0 + (m + 1) → gw_kd S' b = gw_kd S b ∧ gw_ln S' b = gw_ln S b ∧ (∀ j, gw_rf S' b j = gw_rf S b j) ∧ ∀ j, μ' b j = μ b j := by
    intro b hb
    obtain ⟨a1, a2, a3, a4⟩ := m4 b hb
    refine ⟨?_, ?_, fun j => ?_, fun j => ?_⟩
    · rw [a1, kd_new, if_neg (by omega)]
    · rw [a2, ln_new, if_neg (by omega)]
    · rw [a3, rf_new, if_neg (by omega)]
    · rw [a4]; simp only [gw_row]; rw [if_neg (by omega)]
  obtain ⟨o1, o2, o3, o4⟩ := old a0 (by omega)
  refine ⟨by rw [m1]; omega, o1.trans g2, fun j => (o3 j).trans (g3 j), fun j => (o4 j).trans (g4 j), fun k q1 q2 => ?_, fun b hb => ?_, o2.trans g7⟩
  · by_cases hk : k ≤ m
    · obtain ⟨p1, p2, p3, p4⟩ := old (a0 + k) (by omega)
      exact gw_k_kept (g5 k q1 hk) p1 p2 (fun _ => p3) (fun _ => p4)
    · have hkk : k = m + 1 + (k - (m + 1)) := by omega
      generalize k - (m + 1) = k2 at hkk
      subst hkk
      have hlen : k2 < (gw_lay c').length := by omega
      have s1 := List.all_eq_true.mp hs k2 (List.mem_range.mpr hlen)
      have i1 := List.all_eq_true.mp hi k2 (List.mem_range.mpr hlen)
      simp only [decide_eq_true_eq] at s1 i1
      have hq2 : (gw_lay c')[k2]? = some ((gw_lay c')[k2]) := List.getElem?_eq_getElem hlen
      rw [hq2] at s1
      obtain ⟨f1, f2, f3⟩ := m2 k2 _ hq2
      rw [Nat.add_assoc] at f1 f2 f3
      refine ⟨fun q hq => ?_, fun _ q hq r hr => ?_, fun _ row hr j v hv => ?_⟩
      · rw [s1] at hq
        cases hq
        exact ⟨f1, f2⟩
      · rw [s1] at hq
        cases hq
        obtain ⟨r', hr', rfl⟩ := List.mem_map.mp hr
        show gw_rf S' (a0 + (m + 1 + k2)) r'.1 = a0 + (m + 1 + r'.2)
        rw [f3 r' hr']
        omega
      · rw [i1] at hr
        have := m3 k2 row hr j v hv
        rw [Nat.add_assoc] at this
        exact this
  · obtain ⟨a1, a2, a3, a4⟩ := g6 b hb
    obtain ⟨p1, p2, p3, p4⟩ := old b (by omega)
    exact ⟨p1.trans a1, p2.trans a2, fun j => (p3 j).trans (a3 j), fun j => (p4 j).trans (a4 j)⟩
theorem pg_sub2 {S0 S S' : gw_S} {μ0 μ μ' : gw_M} {c a0 m : Nat} {ex em : List Nat} {R : Nat → Nat} {I : Nat → Int32} (h : gw_pg S0 μ0 c a0 m ex em R I S μ) (c' n i z : Nat) (hi : i = m + 1) (hz : z = m + 1 + n) (hn : (gw_lay c').length = n + 1) (hm : gw_made (gw_new S c' 0) (gw_row μ (a0 + i) (fun _ => 0)) S' μ' c' (a0 + i)) (hs : gw_issub c c' i = true) (hi2 : gw_isini c c' i = true) : gw_pg S0 μ0 c a0 z ex em R I S' μ' := by
  subst hi
  subst hz
  have e : a0 + (m + 1) = gw_nn S + 1 := by have := h.1; omega
  rw [e] at hm
  exact pg_sub h c' n hn hm hs hi2
theorem pg_end {S0 S : gw_S} {μ0 μ : gw_M} {c a0 m : Nat} {ex em : List Nat} {R : Nat → Nat} {I : Nat → Int32} (h : gw_pg S0 μ0 c a0 m ex em R I S μ) {refs : List (Nat × Nat)} {row : List Int32} (hm : (gw_lay c).length = m + 1) (h0 : (gw_lay c)[0]? = some (c, 0, refs)) (hi0 : (gw_inl c)[0]? = some row) (hil : (gw_inl c).length = m + 1) (hR : ∀ r ∈ refs, R r.1 = a0 + r.2) (hI : ∀ (j : Nat) (v : Int32), row[j]? = some v → I j = v) (hex : ∀ k ∈ ex, gw_k2 S c a0 k) (hem : ∀ k ∈ em, gw_k3 μ c a0 k) : gw_made S0 μ0 S μ c a0 := by
  obtain ⟨g1, g2, g3, g4, g5, g6, g7⟩ := h
  refine ⟨by rw [g1, hm]; rfl, fun k q hq => ?_, fun k r hr j v hv => ?_, g6⟩
  · have hk : k < m + 1 := by rw [← hm]; exact (List.getElem?_eq_some_iff.mp hq).1
    by_cases hk0 : k = 0
    · subst hk0
      rw [h0] at hq
      cases hq
      exact ⟨g2, g7, fun r hr => (g3 _).trans (hR r hr)⟩
    · obtain ⟨z1, z2, z3⟩ := g5 k (by omega) (by omega)
      refine ⟨(z1 q hq).1, (z1 q hq).2, ?_⟩
      by_cases hx : k ∈ ex
      · exact hex k hx q hq
      · exact z2 hx q hq
  · have hk : k < m + 1 := by rw [← hil]; exact (List.getElem?_eq_some_iff.mp hr).1
    by_cases hk0 : k = 0
    · subst hk0
      rw [hi0] at hr
      cases hr
      exact (g4 j).trans (hI j v hv)
    · obtain ⟨z1, z2, z3⟩ := g5 k (by omega) (by omega)
      by_cases hx : k ∈ em
      · exact hem k hx r hr j v hv
      · exact z3 hx r hr j v hv
/-- of a cell that stands: its kind, its length -/
theorem pg_kd {S0 S : gw_S} {μ0 μ : gw_M} {c a0 m : Nat} {ex em : List Nat} {R : Nat → Nat} {I : Nat → Int32} (h : gw_pg S0 μ0 c a0 m ex em R I S μ) (k : Nat) {q : Nat × Nat × List (Nat × Nat)} (hq : (gw_lay c)[k]? = some q) (h1 : 1 ≤ k) (h2 : k ≤ m) : gw_kd S (a0 + k) = q.1 ∧ gw_ln S (a0 + k) = q.2.1 := (h.2.2.2.2.1 k h1 h2).1 q hq
