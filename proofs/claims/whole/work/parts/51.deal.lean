/-! ===== vectors ===== -/
theorem gg_in : ∀ g < 4, ∀ g' < 4, gg_c g = gg_c g' → g = g' := by decide
theorem gg_rg : ∀ g < 4, gg_c g = 12 ∨ gg_c g = 38 ∨ gg_c g = 53 ∨ gg_c g = 68 := by decide
theorem S_na : ∀ g < 4, ∀ k < 9, k ≠ 2 → na k (58 + 162 * g) = false := by decide +kernel
theorem S_nb : ∀ g < 4, ∀ v < 16, ∀ k < 9, k ≠ 2 → nb k (gg_c g + 5) v = false := by decide +kernel
theorem S_nb2 : ∀ g < 4, ∀ v < 16, nb 2 (gg_c g + 5) v = true := by decide +kernel
def S_sP (z : Nat) : Bool := decide (gd (204 + 162 * (z / 16) + z % 16) = none) && (List.range 9).all (fun k => decide (k = 2) || !na k (204 + 162 * (z / 16) + z % 16))
theorem S_s0 : ∀ z < 64, S_sP z = true := by decide +kernel
theorem S_s {g v : Nat} (hg : g < 4) (hv : v < 16) : gd (204 + 162 * g + v) = none ∧ ∀ k, k < 9 → k ≠ 2 → na k (204 + 162 * g + v) = false := by
  have h1 := S_s0 (16 * g + v) (by omega)
  unfold S_sP at h1
  rw [show (16 * g + v) / 16 = g by omega, show (16 * g + v) % 16 = v by omega] at h1
  simp only [Bool.and_eq_true, decide_eq_true_eq, List.all_eq_true, List.mem_range, Bool.or_eq_true, Bool.not_eq_true'] at h1
  refine ⟨h1.1, fun k hk hk2 => ?_⟩
  rcases h1.2 k hk with c | c
  · exact absurd c hk2
  · exact c
theorem g_any : ∀ g < 4, gd_any (58 + 162 * g) = true ∧ gd_any (59 + 162 * g) = true := by decide +kernel
theorem g_na : ∀ g < 4, ∀ k < 9, na k (59 + 162 * g) = false ∧ na k (60 + 162 * g) = false ∧ na k (61 + 162 * g) = false ∧ na k (62 + 162 * g) = false := by decide +kernel
theorem k_any : ∀ k < 2, gd_any (19 + k) = true ∧ gd_any (56 + k) = true ∧ gd_any (17 + k) = true ∧ gd_q (9 + k) = (0, 0, 1) := by decide +kernel
theorem k_na : ∀ k < 2, ∀ c < 9, na c (19 + k) = false ∧ na c (56 + k) = false ∧ na c (17 + k) = false ∧ na c (9 + k) = false := by decide +kernel
section DEAL
variable {b e m n h : Nat} {K N : gw_M} {L3 L2 L : List Nat} {μ s : gw_M}
theorem gg_lt {gu : Int32} {g : Nat} (hg : gg_is s m gu g) : g < 4 := by
  rcases hg with ⟨-, rfl⟩ | ⟨-, h, hh, -, rfl⟩
  · decide
  · omega
/-- pending, and since when, changed together -/
theorem G_S (hG : G b e m K N L3 L2 μ s) {g v : Nat} (hg : g < 4) (hv : v < 16) {X t : Int32} (hX : ∀ i, i < 16 → i ≠ v → bt X i = bt (s (m + 1) (58 + 162 * g)) i) {t' : Int32} (ht : bt X v = true → t = t') : G b e m K N L3 L2 (gw_up (gw_up μ (e + gg_c g) 2 X) (e + (gg_c g + 5)) v t') (gw_up (gw_up s (m + 1) (58 + 162 * g) X) (m + 1) (204 + 162 * g + v) t) := by
  have X1 := GX_c (GX_up (GX_of hG) (gd_g g hg).1 (v := X) (gq_any (g_any g hg).1)) (c := gg_c g + 5) (j := v) (by have := gg_rg g hg; omega) (gd_nbc (k := 2) (by decide) (S_nb2 g hg v hv)) t'
  obtain ⟨w1, w2⟩ := S_s hg hv
  have X2 := GX_m (E' := fun k => decide (k = 2)) X1 (s' := gw_up (gw_up s (m + 1) (58 + 162 * g) X) (m + 1) (204 + 162 * g + v) t) (fun j => decide (j = 204 + 162 * g + v)) (fun a j hj => by
    rw [up_ne]
    rintro ⟨c1, c2⟩
    exact hj ⟨c1, by simpa using c2⟩) (fun j hj => by
    have hj : j = 204 + 162 * g + v := by simpa using hj
    subst hj
    exact ⟨by omega, by omega, w1⟩) (fun k hk hE => by
    have hk2 : k ≠ 2 := by simpa using hE
    refine ⟨?_, fun i hi => ?_⟩
    · simp only [S_na g hg k hk hk2, S_nb g hg v hv k hk hk2, Bool.or_false]
    · have hi : i = 204 + 162 * g + v := by simpa using hi
      subst hi
      exact w2 k hk hk2)
  refine GX_end X2 (fun _ => rfl) (fun _ => rfl) (fun k hk hE => ?_)
  have hk2 : k = 2 := by simpa using hE
  subst hk2
  intro g' v' hg' hv' hb'
  have old := G_q hG 2 (by decide) g' v' hg' hv'
  rw [up_ne (by omega)] at hb'
  by_cases hgg : g' = g
  · subst hgg
    rw [up_eq ⟨rfl, rfl⟩] at hb'
    by_cases hvv : v' = v
    · subst hvv
      rw [up_eq ⟨rfl, rfl⟩, up_eq ⟨rfl, rfl⟩]
      exact ht hb'
    · rw [up_ne (by omega), up_ne (by omega), up_ne (by omega), up_ne (by omega)]
      refine old ?_
      have h1 : bt X v' = true := hb'
      rw [hX v' hv' hvv] at h1
      exact h1
  · have hcc : gg_c g' ≠ gg_c g := fun c => hgg (gg_in g' hg' g hg c)
    rw [up_ne (by omega)] at hb'
    rw [up_ne (by omega), up_ne (by omega), up_ne (by omega), up_ne (by have := gg_rg g hg; have := gg_rg g' hg'; omega)]
    exact old hb'
def cpd (e g v : Nat) (t : Int32) (μ : gw_M) : gw_M := if bt (μ (e + gg_c g) 2) v then μ else gw_up (gw_up μ (e + gg_c g) 2 (μ (e + gg_c g) 2 ||| ((1 : Int32) <<< (nI v &&& 31)))) (e + (gg_c g + 5)) v t
theorem cpd_ne {g v a j : Nat} {t : Int32} (h1 : ¬ (a = e + gg_c g ∧ j = 2)) (h2 : ¬ (a = e + (gg_c g + 5) ∧ j = v)) : cpd e g v t μ a j = μ a j := by
  unfold cpd
  split
  · rfl
  · rw [up_ne h2, up_ne h1]
theorem sim_pend (hG : G b e m K N L3 L2 μ s) {gu : Int32} {g v : Nat} (hg : gg_is s m gu g) (hv : v < 16) : F_X0_await n (e + gg_c g) (nI v) (μ e 7) μ = some (cpd e g v (μ e 7) μ) ∧ ∃ s', F_X11_pend n m gu (nI v) s = some s' ∧ G b e m K N L3 L2 (cpd e g v (μ e 7) μ) s' := by
  have hg4 := gg_lt hg
  have hr := G_rd hG (gd_g g hg4).1
  have h7 : s (m + 1) 3 = μ e 7 := G_rd hG (i := 3) (c := 0) (j := 7) (by decide +kernel)
  have hc : 0 ≤ nI v ∧ v < 16 := ⟨nI_pos' (by omega), hv⟩
  have hcg : 0 ≤ nI (58 + 162 * g) ∧ 58 + 162 * g < 20813 := ⟨nI_pos' (by omega), by omega⟩
  have hcs : 0 ≤ nI (58 + 162 * g + 146 + v) ∧ 58 + 162 * g + 146 + v < 20813 := ⟨nI_pos' (by omega), by omega⟩
  simp only [F_X0_await, F_X0_awaits, c_has n _ (show v < 32 by omega), Option.bind_some, gw_let, nI_clamp (show v < 2 ^ 31 by omega), if_pos hc, F_X11_pend, (m_guestAt (n := n) hg).1, nI_add0, show (146 : Int32) = nI 146 from rfl, nI_add, nI_clamp (show 58 + 162 * g < 2 ^ 31 by omega), nI_clamp (show 58 + 162 * g + 146 + v < 2 ^ 31 by omega), if_pos hcg, if_pos hcs, m_has n _ (show v < 32 by omega), hr, cpd]
  cases hbt : bt (μ (e + gg_c g) 2) v
  · refine ⟨rfl, _, rfl, ?_⟩
    rw [up_ne (j := 58 + 162 * g) (j' := 3) (by omega), h7, show 58 + 162 * g + 146 + v = 204 + 162 * g + v by omega]
    exact G_S hG hg4 hv (fun i hi hne => by rw [b_set _ (by omega) (by omega), hr]; simp [hne]) (fun _ => rfl)
  · exact ⟨rfl, s, rfl, hG⟩
def nxt (o x y : Int32) : Int32 := if o = 0 then -1 else if gtop x 16 ≤ gtop y 16 then -1 else gtop x 16
theorem nxt_rg {o x y : Int32} : nxt o x y = -1 ∨ ∃ v, v < 16 ∧ nxt o x y = nI v ∧ bt x v = true := by
  unfold nxt
  split
  · exact Or.inl rfl
  · split
    · exact Or.inl rfl
    · exact gtop_rg x 16
theorem c_ready (hn : 1000 ≤ n) {a : Nat} : F_X0_ready n a μ = some (nxt (μ a 4) (μ a 2) (μ a 3)) := by
  simp only [F_X0_ready, c_greatest hn, Option.bind_some, nxt]
  by_cases h0 : μ a 4 = 0
  · rw [if_pos h0, if_pos h0]
  · rw [if_neg h0, if_neg h0]
    by_cases h2 : μ a 2 = 0
    · rw [if_neg (not_not_intro h2), h2, show gtop 0 16 = -1 by decide +kernel, ite_self]
    · rw [if_pos h2]
      split <;> rfl
theorem m_nextOf (hn : 1000 ≤ n) (hG : G b e m K N L3 L2 μ s) {gu : Int32} {g : Nat} (hg : gg_is s m gu g) : F_X11_nextOf n m gu s = some (nxt (μ (e + gg_c g) 4) (μ (e + gg_c g) 2) (μ (e + gg_c g) 3)) := by
  have hg4 := gg_lt hg
  obtain ⟨r1, r2, r3, -⟩ := gd_g g hg4
  obtain ⟨o, ho, o1, o2⟩ := G_n hG r3 (n := 1) (gd_gq g hg4).1
  have hc : ∀ k, k < 3 → (0 ≤ nI (58 + 162 * g + k) ∧ 58 + 162 * g + k < 20813) := fun k hk => ⟨nI_pos' (by omega), by omega⟩
  simp only [F_X11_nextOf, F_X11_nextOf_49, (m_guestAt (n := n) hg).1, Option.bind_some, nI_add0, nI_1, show (2 : Int32) = nI 2 from rfl, nI_add, nI_clamp (show 58 + 162 * g < 2 ^ 31 by omega), nI_clamp (show 58 + 162 * g + 1 < 2 ^ 31 by omega), nI_clamp (show 58 + 162 * g + 2 < 2 ^ 31 by omega), if_pos (hc 0 (by decide)), if_pos (hc 1 (by decide)), if_pos (hc 2 (by decide)), m_greatest hn]
  rw [show 58 + 162 * g + 1 = 59 + 162 * g by omega, show 58 + 162 * g + 2 = 60 + 162 * g by omega, G_rd hG r1, G_rd hG r2, o2, o1, nxt]
  rw [if_pos ⟨nI_pos' (by omega), by omega⟩]
  have : o = 0 ∨ o = 1 := by omega
  rcases this with rfl | rfl
  · rw [if_pos (show ¬ nI 0 = 1 by decide), if_pos (show nI 0 = 0 by decide)]
  · rw [if_neg (show ¬ ¬ nI 1 = 1 by decide), if_neg (show ¬ nI 1 = 0 by decide)]
    split <;> rfl
def mtk (m g k v : Nat) (W : Int32) (s : gw_M) : gw_M := gw_up (gw_up (gw_up (gw_up (gw_up (gw_up s (m + 1) (56 + k) W) (m + 1) (204 + 162 * g + v) 0) (m + 1) (58 + 162 * g) (clr (s (m + 1) (58 + 162 * g)) v)) (m + 1) (59 + 162 * g) (s (m + 1) (59 + 162 * g) ||| ((1 : Int32) <<< (nI v &&& 31)))) (m + 1) (9 + k) (s (m + 1) (9 + k) + 1)) (m + 1) (19 + k) (nI v)
theorem m_take {gu : Int32} {g k v : Nat} (hg : gg_is s m gu g) (hgu : gu = nI (k + 1)) (hk : k < 2) (hv : v < 16) : F_X11_take n m gu (nI v) s = some (mtk m g k v (if s (m + 1) 3 - s (m + 1) (204 + 162 * g + v) ≤ s (m + 1) (56 + k) then s (m + 1) (56 + k) else s (m + 1) 3 - s (m + 1) (204 + 162 * g + v)) s) := by
  have hg4 := gg_lt hg
  have hp : ∀ c : Nat, nI c + gu - 1 = nI (c + k) := fun c => by rw [hgu, nI_add, show c + (k + 1) = c + k + 1 by omega, nI_pred]
  have hs : F_X11_sinceOf n m gu (nI v) s = some (s (m + 1) 3 - s (m + 1) (204 + 162 * g + v)) := by
    simp only [F_X11_sinceOf, (m_guestAt (n := n) hg).1, Option.bind_some, show (146 : Int32) = nI 146 from rfl, nI_add, nI_clamp (show 58 + 162 * g + 146 + v < 2 ^ 31 by omega)]
    rw [if_pos ⟨nI_pos' (by omega), by omega⟩, show 58 + 162 * g + 146 + v = 204 + 162 * g + v by omega]
  have key : ∀ s0 : gw_M, (∀ j, j ≠ 56 + k → s0 (m + 1) j = s (m + 1) j) → F_X11_take_43 n m gu (nI v) (nI (58 + 162 * g)) s0 = some (gw_up (gw_up (gw_up (gw_up (gw_up s0 (m + 1) (204 + 162 * g + v) 0) (m + 1) (58 + 162 * g) (clr (s (m + 1) (58 + 162 * g)) v)) (m + 1) (59 + 162 * g) (s (m + 1) (59 + 162 * g) ||| ((1 : Int32) <<< (nI v &&& 31)))) (m + 1) (9 + k) (s (m + 1) (9 + k) + 1)) (m + 1) (19 + k) (nI v)) := by
    intro s0 h0
    simp only [F_X11_take_43, gw_let, show (146 : Int32) = nI 146 from rfl, show (9 : Int32) = nI 9 from rfl, show (19 : Int32) = nI 19 from rfl, hp, nI_add0, nI_1, nI_add, nI_clamp (show 58 + 162 * g + 146 + v < 2 ^ 31 by omega), nI_clamp (show 58 + 162 * g < 2 ^ 31 by omega), nI_clamp (show 58 + 162 * g + 1 < 2 ^ 31 by omega), nI_clamp (show 9 + k < 2 ^ 31 by omega), nI_clamp (show 19 + k < 2 ^ 31 by omega)]
    rw [if_pos ⟨nI_pos' (by omega), by omega⟩, if_pos ⟨nI_pos' (by omega), by omega⟩, if_pos ⟨nI_pos' (by omega), by omega⟩, if_pos ⟨nI_pos' (by omega), by omega⟩, if_pos ⟨nI_pos' (by omega), by omega⟩, if_pos ⟨nI_pos' (by omega), by omega⟩, if_pos ⟨nI_pos' (by omega), by omega⟩, if_pos ⟨nI_pos' (by omega), by omega⟩]
    rw [show 58 + 162 * g + 146 + v = 204 + 162 * g + v by omega, show 58 + 162 * g + 1 = 59 + 162 * g by omega]
    have q1 : gw_up s0 (m + 1) (204 + 162 * g + v) 0 (m + 1) (58 + 162 * g) = s (m + 1) (58 + 162 * g) := by rw [up_ne (by omega), h0 _ (by omega)]
    rw [q1, up_ne (j := 58 + 162 * g) (j' := 59 + 162 * g) (by omega), up_ne (j := 204 + 162 * g + v) (j' := 59 + 162 * g) (by omega), h0 (59 + 162 * g) (by omega), up_ne (j := 59 + 162 * g) (j' := 9 + k) (by omega), up_ne (j := 58 + 162 * g) (j' := 9 + k) (by omega), up_ne (j := 204 + 162 * g + v) (j' := 9 + k) (by omega), h0 (9 + k) (by omega)]
    rfl
  simp only [F_X11_take, (m_guestAt (n := n) hg).1, hs, Option.bind_some, gw_let, show (56 : Int32) = nI 56 from rfl, hp, nI_clamp (show 56 + k < 2 ^ 31 by omega)]
  rw [if_pos ⟨nI_pos' (by omega), by omega⟩]
  unfold mtk
  by_cases hle : s (m + 1) 3 - s (m + 1) (204 + 162 * g + v) ≤ s (m + 1) (56 + k)
  · rw [if_pos hle, if_pos hle, up_id]
    exact key s (fun _ _ => rfl)
  · rw [if_neg hle, if_neg hle, if_pos ⟨nI_pos' (by omega), by omega⟩]
    exact key (gw_up s (m + 1) (56 + k) (s (m + 1) 3 - s (m + 1) (204 + 162 * g + v))) (fun j hj => up_ne (by omega))
def ctk (e g k v : Nat) (μ : gw_M) : gw_M := gw_up (gw_up (gw_up (gw_up (gw_up μ (e + gg_c g) 2 (clr (μ (e + gg_c g) 2) v)) (e + gg_c g) 3 (μ (e + gg_c g) 3 ||| ((1 : Int32) <<< (nI v &&& 31)))) (e + 34) k (μ (e + 34) k + 1)) (e + 35) k (nI v)) (e + 36) k (if μ e 7 - μ (e + (gg_c g + 5)) v ≤ μ (e + 36) k then μ (e + 36) k else μ e 7 - μ (e + (gg_c g + 5)) v)
theorem ctk_ne {g k v a j : Nat} (h1 : ¬ (a = e + gg_c g ∧ (j = 2 ∨ j = 3))) (h2 : a ≠ e + 34 ∧ a ≠ e + 35 ∧ a ≠ e + 36) : ctk e g k v μ a j = μ a j := by
  unfold ctk
  rw [up_ne (by omega), up_ne (by omega), up_ne (by omega), up_ne (by omega), up_ne (by omega)]
theorem c_take {gu : Int32} {g k v : Nat} (hg : g < 4) (hgu : gu = nI (k + 1)) (hk : k < 2) (hv : v < 16) {Y : gw_M → Option gw_M} : gw_bi (F_X0_take n (e + gg_c g) (nI v) (μ e 7) μ) (fun (r_1 : Int32) (μ_2 : gw_M) => (F_X2_noteTake n (e + 25) gu (nI v) r_1 μ_2).bind Y) = Y (ctk e g k v μ) := by
  have hp : gu - 1 = nI k := by rw [hgu, nI_pred]
  have hc : 0 ≤ nI v ∧ v < 16 := ⟨nI_pos' (by omega), hv⟩
  have hck : 0 ≤ nI k ∧ k < 2 := ⟨nI_pos' (by omega), hk⟩
  have hgr := gg_rg g hg
  simp only [F_X0_take, gw_let, nI_clamp (show v < 2 ^ 31 by omega), if_pos hc, bi_some, F_X2_noteTake, hp, nI_clamp (show k < 2 ^ 31 by omega), if_pos hck, Nat.add_assoc, Nat.reduceAdd]
  rw [up_ne (a := e + gg_c g) (j := 2) (a' := e + gg_c g) (j' := 3) (by omega)]
  rw [up_ne (a := e + gg_c g) (j := 3) (a' := e + (gg_c g + 5)) (by omega), up_ne (a := e + gg_c g) (j := 2) (a' := e + (gg_c g + 5)) (by omega)]
  rw [up_ne (a := e + gg_c g) (a' := e + 34) (by omega), up_ne (a := e + gg_c g) (a' := e + 34) (by omega)]
  rw [up_ne (a := e + 35) (a' := e + 36) (by omega), up_ne (a := e + 34) (a' := e + 36) (by omega), up_ne (a := e + gg_c g) (a' := e + 36) (by omega), up_ne (a := e + gg_c g) (a' := e + 36) (by omega)]
  unfold ctk clr
  simp only [F_J9_max_7cf53]
  have hlt : μ (e + 36) k < μ e 7 - μ (e + (gg_c g + 5)) v ↔ ¬ (μ e 7 - μ (e + (gg_c g + 5)) v ≤ μ (e + 36) k) := by
    rw [Int32.lt_iff_toInt_lt, Int32.le_iff_toInt_le]
    omega
  by_cases hle : μ e 7 - μ (e + (gg_c g + 5)) v ≤ μ (e + 36) k
  · rw [if_neg (fun c => (hlt.mp c) hle), if_pos hle]
    rfl
  · rw [if_pos (hlt.mpr hle), if_neg hle]
    rfl
/-- taken -/
theorem sim_take (hG : G b e m K N L3 L2 μ s) (hb : b + 1 < 2 ^ 28) {gu : Int32} {g k v : Nat} (hg : gg_is s m gu g) (hgu : gu = nI (k + 1)) (hk : k < 2) (hv : v < 16) (hbt : bt (μ (e + gg_c g) 2) v = true) : ∃ s', F_X11_take n m gu (nI v) s = some s' ∧ G (b + 1) e m K N L3 L2 (ctk e g k v μ) s' := by
  have hg4 := gg_lt hg
  obtain ⟨r1, r2, -⟩ := gd_g g hg4
  have h7 : s (m + 1) 3 = μ e 7 := G_rd hG (i := 3) (c := 0) (j := 7) (by decide +kernel)
  have hp2 := G_rd hG r1
  have hsn : s (m + 1) (204 + 162 * g + v) = μ (e + (gg_c g + 5)) v := G_q hG 2 (by decide) g v hg4 hv (by
    show bt (s (m + 1) (58 + 162 * g)) v = true
    rw [hp2]; exact hbt)
  obtain ⟨k1, k2, -, k4⟩ := k_any k hk
  obtain ⟨i1, -, i3, i4, -⟩ := gd_2 k hk
  have hgr := gg_rg g hg4
  have hx : bt (clr (s (m + 1) (58 + 162 * g)) v) v = false := by
    have := clr_bt (s (m + 1) (58 + 162 * g)) hv hv
    rw [if_pos rfl] at this
    exact this
  have G1 := G_S hG hg4 hv (X := clr (s (m + 1) (58 + 162 * g)) v) (t := 0) (t' := μ (e + (gg_c g + 5)) v) (fun i hi hne => by
    have := clr_bt (s (m + 1) (58 + 162 * g)) hv hi
    rw [if_neg hne] at this
    exact this) (fun c => by rw [hx] at c; cases c)
  have hid : gw_up (gw_up μ (e + gg_c g) 2 (clr (s (m + 1) (58 + 162 * g)) v)) (e + (gg_c g + 5)) v (μ (e + (gg_c g + 5)) v) = gw_up μ (e + gg_c g) 2 (clr (μ (e + gg_c g) 2) v) := by
    rw [hp2]
    have := up_id (μ := gw_up μ (e + gg_c g) 2 (clr (μ (e + gg_c g) 2) v)) (a := e + (gg_c g + 5)) (j := v)
    rw [up_ne (a := e + gg_c g) (by omega)] at this
    exact this
  rw [hid] at G1
  have G2 := G_fr G1 r2 (v := μ (e + gg_c g) 3 ||| ((1 : Int32) <<< (nI v &&& 31))) (gq_any (g_any g hg4).2) (fun c hc => (g_na g hg4 c hc).1)
  have G3 := G_inc G2 hb i1 k4 (fun c hc => (k_na k hk c hc).2.2.2)
  have G4 := G_fr (G_fr G3 i3 (v := nI v) (gq_any k1) (fun c hc => (k_na k hk c hc).1)) i4 (v := if μ e 7 - μ (e + (gg_c g + 5)) v ≤ μ (e + 36) k then μ (e + 36) k else μ e 7 - μ (e + (gg_c g + 5)) v) (gq_any k2) (fun c hc => (k_na k hk c hc).2.1)
  refine ⟨_, m_take hg hgu hk hv, ?_⟩
  rw [h7, hsn, G_rd hG i4]
  have hcl : ctk e g k v μ = gw_up (gw_up (gw_up (gw_up (gw_up μ (e + gg_c g) 2 (clr (μ (e + gg_c g) 2) v)) (e + gg_c g) 3 (μ (e + gg_c g) 3 ||| ((1 : Int32) <<< (nI v &&& 31)))) (e + 34) k (gw_up (gw_up μ (e + gg_c g) 2 (clr (μ (e + gg_c g) 2) v)) (e + gg_c g) 3 (μ (e + gg_c g) 3 ||| ((1 : Int32) <<< (nI v &&& 31))) (e + 34) k + 1)) (e + 35) k (nI v)) (e + 36) k (if μ e 7 - μ (e + (gg_c g + 5)) v ≤ μ (e + 36) k then μ (e + 36) k else μ e 7 - μ (e + (gg_c g + 5)) v) := by
    rw [up_ne (a := e + gg_c g) (j := 3) (a' := e + 34) (by omega), up_ne (a := e + gg_c g) (j := 2) (a' := e + 34) (by omega)]
    rfl
  rw [hcl]
  have hW : ∃ W, W = (if μ e 7 - μ (e + (gg_c g + 5)) v ≤ μ (e + 36) k then μ (e + 36) k else μ e 7 - μ (e + (gg_c g + 5)) v) := ⟨_, rfl⟩
  obtain ⟨W, hW⟩ := hW
  rw [← hW] at G4 ⊢
  have hml : mtk m g k v W s = gw_up (gw_up (gw_up (gw_up (gw_up (gw_up s (m + 1) (58 + 162 * g) (clr (s (m + 1) (58 + 162 * g)) v)) (m + 1) (204 + 162 * g + v) 0) (m + 1) (59 + 162 * g) (μ (e + gg_c g) 3 ||| ((1 : Int32) <<< (nI v &&& 31)))) (m + 1) (9 + k) (gw_up (gw_up (gw_up s (m + 1) (58 + 162 * g) (clr (s (m + 1) (58 + 162 * g)) v)) (m + 1) (204 + 162 * g + v) 0) (m + 1) (59 + 162 * g) (μ (e + gg_c g) 3 ||| ((1 : Int32) <<< (nI v &&& 31))) (m + 1) (9 + k) + 1)) (m + 1) (19 + k) (nI v)) (m + 1) (56 + k) W := by
    unfold mtk
    rw [up_ne (j := 59 + 162 * g) (j' := 9 + k) (by omega), up_ne (j := 204 + 162 * g + v) (j' := 9 + k) (by omega), up_ne (j := 58 + 162 * g) (j' := 9 + k) (by omega), ← G_rd hG r2]
    rw [up_comm (j := 56 + k) (j' := 204 + 162 * g + v) (by omega), up_comm (j := 56 + k) (j' := 58 + 162 * g) (by omega), up_comm (j := 56 + k) (j' := 59 + 162 * g) (by omega), up_comm (j := 56 + k) (j' := 9 + k) (by omega), up_comm (j := 56 + k) (j' := 19 + k) (by omega), up_comm (j := 204 + 162 * g + v) (j' := 58 + 162 * g) (by omega)]
  rw [hml]
  exact G4
end DEAL
