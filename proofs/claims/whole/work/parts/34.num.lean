def bt (x : Int32) (i : Nat) : Bool := x.toBitVec.getLsbD i
theorem b_ext {x y : Int32} (h : ∀ i, i < 32 → bt x i = bt y i) : x = y := Int32.toBitVec_inj.mp (BitVec.eq_of_getLsbD_eq (fun i hi => h i hi))
theorem b_or (x y : Int32) (i : Nat) : bt (x ||| y) i = (bt x i || bt y i) := by unfold bt; rw [Int32.toBitVec_or, BitVec.getLsbD_or]
theorem b_and (x y : Int32) (i : Nat) : bt (x &&& y) i = (bt x i && bt y i) := by unfold bt; rw [Int32.toBitVec_and, BitVec.getLsbD_and]
theorem b_xor (x y : Int32) (i : Nat) : bt (x ^^^ y) i = (bt x i ^^ bt y i) := by unfold bt; rw [Int32.toBitVec_xor, BitVec.getLsbD_xor]
theorem b_big {x : Int32} {i : Nat} (h : 32 ≤ i) : bt x i = false := BitVec.getLsbD_of_ge _ _ h
theorem b_255 (i : Nat) : bt 255 i = decide (i < 8) := by
  rcases Nat.lt_or_ge i 32 with h | h
  · exact (by decide +kernel : ∀ i, i < 32 → bt 255 i = decide (i < 8)) i h
  · rw [b_big h, decide_eq_false (by omega)]
theorem b_65535 (i : Nat) : bt 65535 i = decide (i < 16) := by
  rcases Nat.lt_or_ge i 32 with h | h
  · exact (by decide +kernel : ∀ i, i < 32 → bt 65535 i = decide (i < 16)) i h
  · rw [b_big h, decide_eq_false (by omega)]
theorem b_m1 : ∀ i, i < 32 → bt (-1) i = true := by decide +kernel
theorem b_0 (i : Nat) : bt 0 i = false := BitVec.getLsbD_zero
theorem s_l : ∀ n, n < 32 → ((nI n &&& 31).toBitVec.smod 32).toNat = n := by decide +kernel
theorem s_u : ∀ n, n < 32 → (((nI n).toUInt32 &&& Int32.toUInt32 31).toBitVec % 32).toNat = n := by decide +kernel
theorem b_shl (n : Nat) (hn : n < 32) (x : Int32) {i : Nat} (hi : i < 32) : bt (x <<< (nI n &&& 31)) i = (decide (n ≤ i) && bt x (i - n)) := by
  unfold bt
  rw [Int32.toBitVec_shiftLeft]
  show (x.toBitVec <<< ((nI n &&& 31).toBitVec.smod 32).toNat).getLsbD i = _
  rw [s_l n hn, BitVec.getLsbD_shiftLeft]
  rcases Nat.lt_or_ge i n with h | h
  · simp [h, Nat.not_le.mpr h]
  · simp [hi, h, Nat.not_lt.mpr h]
theorem b_ushr (n : Nat) (hn : n < 32) (x : Int32) (i : Nat) : bt ((x.toUInt32 >>> ((nI n).toUInt32 &&& Int32.toUInt32 31)).toInt32) i = bt x (n + i) := by
  show (x.toUInt32 >>> ((nI n).toUInt32 &&& Int32.toUInt32 31)).toBitVec.getLsbD i = x.toUInt32.toBitVec.getLsbD (n + i)
  rw [UInt32.toBitVec_shiftRight]
  show (x.toUInt32.toBitVec >>> (((nI n).toUInt32 &&& Int32.toUInt32 31).toBitVec % 32).toNat).getLsbD i = _
  rw [s_u n hn, BitVec.getLsbD_ushiftRight]
theorem b_sshr (n : Nat) (hn : n < 32) (x : Int32) {i : Nat} (hi : i < 32) : bt (x >>> (nI n &&& 31)) i = if n + i < 32 then bt x (n + i) else bt x 31 := by
  unfold bt
  rw [Int32.toBitVec_shiftRight]
  show (x.toBitVec.sshiftRight ((nI n &&& 31).toBitVec.smod 32).toNat).getLsbD i = _
  rw [s_l n hn, BitVec.getLsbD_sshiftRight, BitVec.msb_eq_getLsbD_last]
  simp [hi]
theorem ckN {k N : Nat} (h : k < N) (hN : N < 2 ^ 31) : (0 ≤ nI k ∧ (nI k).toNatClampNeg < N) = True := by
  rw [nI_clamp (by omega)]
  exact eq_true ⟨nI_pos' (by omega), h⟩
theorem nI_m1 {k : Nat} (h : k < 2 ^ 31) : (nI k = -1) = False := by
  apply eq_false
  intro c
  have h1 := nI_toInt h
  rw [c] at h1
  have h2 : (-1 : Int32).toInt = -1 := by decide
  omega
theorem nI_of_rg {v : Int32} {n : Nat} (h0 : 0 ≤ v.toInt) (h1 : v.toInt ≤ n) : ∃ k, k ≤ n ∧ v = nI k := by
  refine ⟨v.toInt.toNat, by omega, ?_⟩
  apply Int32.toInt_inj.mp
  have h2 := Int32.toInt_lt v
  rw [nI_toInt (by omega)]
  omega
theorem nI_of_rg1 {v : Int32} {n : Nat} (h0 : -1 ≤ v.toInt) (h1 : v.toInt ≤ n) : v = -1 ∨ ∃ k, k ≤ n ∧ v = nI k := by
  by_cases h : v.toInt = -1
  · left
    apply Int32.toInt_inj.mp
    rw [h]
    decide
  · right
    exact nI_of_rg (by omega) h1
theorem nI_inj {a b : Nat} (ha : a < 2 ^ 31) (hb : b < 2 ^ 31) (h : nI a = nI b) : a = b := (nI_eq ha hb).mp h
theorem nI_eqT {a b : Nat} (ha : a < 2 ^ 31) (hb : b < 2 ^ 31) : (nI a = nI b) = (a = b) := propext (nI_eq ha hb)
theorem nI_leT {a b : Nat} (ha : a < 2 ^ 31) (hb : b < 2 ^ 31) : (nI a ≤ nI b) = (a ≤ b) := propext (nI_leI ha hb)
theorem nI_ltT {a b : Nat} (ha : a < 2 ^ 31) (hb : b < 2 ^ 31) : (nI a < nI b) = (a < b) := propext (nI_ltI ha hb)
theorem m1_lt {k : Nat} (hk : k < 2 ^ 31) : ((-1 : Int32) < nI k) = True := by
  apply eq_true
  rw [Int32.lt_iff_toInt_lt, nI_toInt hk]
  have : (-1 : Int32).toInt = -1 := by decide
  omega
theorem m1_le {k : Nat} (hk : k < 2 ^ 31) : ((-1 : Int32) ≤ nI k) = True := by
  apply eq_true
  rw [Int32.le_iff_toInt_le, nI_toInt hk]
  have : (-1 : Int32).toInt = -1 := by decide
  omega
theorem le_m1 {k : Nat} (hk : k < 2 ^ 31) : (nI k ≤ (-1 : Int32)) = False := by
  apply eq_false
  rw [Int32.le_iff_toInt_le, nI_toInt hk]
  have : (-1 : Int32).toInt = -1 := by decide
  omega
theorem lt_m1 {k : Nat} (hk : k < 2 ^ 31) : (nI k < (-1 : Int32)) = False := by
  apply eq_false
  rw [Int32.lt_iff_toInt_lt, nI_toInt hk]
  have : (-1 : Int32).toInt = -1 := by decide
  omega
/-! bits -/
theorem b_1 : ∀ i, i < 32 → bt 1 i = decide (i = 0) := by decide +kernel
theorem b_hb (x : Int32) {k : Nat} (hk : k < 32) : (x >>> (nI k &&& 31)) &&& 1 = if bt x k then 1 else 0 := by
  apply b_ext
  intro i hi
  rw [b_and, b_sshr k hk x hi, b_1 i hi]
  by_cases h0 : i = 0
  · subst h0
    simp only [Nat.add_zero, hk, if_true, decide_true, Bool.and_true]
    cases bt x k
    · exact (b_0 0).symm
    · exact ((b_1 0 (by decide)).trans (by decide)).symm
  · simp only [h0, decide_false, Bool.and_false]
    cases bt x k
    · exact (b_0 i).symm
    · exact ((b_1 i hi).trans (by simp [h0])).symm
theorem b_hb0 (x : Int32) {k : Nat} (hk : k < 32) : ((x >>> (nI k &&& 31)) &&& 1 = 0) = (bt x k = false) := by
  rw [b_hb x hk]
  cases bt x k <;> simp
theorem b_hb1 (x : Int32) {k : Nat} (hk : k < 32) : ((x >>> (nI k &&& 31)) &&& 1 = 1) = (bt x k = true) := by
  rw [b_hb x hk]
  cases bt x k <;> simp
theorem b_one {k : Nat} (hk : k < 32) {i : Nat} (hi : i < 32) : bt ((1 : Int32) <<< (nI k &&& 31)) i = decide (i = k) := by
  rw [b_shl k hk 1 hi]
  by_cases h : k ≤ i
  · rw [b_1 (i - k) (by omega)]
    simp only [h, decide_true, Bool.true_and, decide_eq_decide]
    omega
  · simp only [h, decide_false, Bool.false_and]
    exact (decide_eq_false (by omega)).symm
theorem b_set (x : Int32) {k : Nat} (hk : k < 32) {i : Nat} (hi : i < 32) : bt (x ||| ((1 : Int32) <<< (nI k &&& 31))) i = (bt x i || decide (i = k)) := by
  rw [b_or, b_one hk hi]
theorem b_clr (x : Int32) {k : Nat} (hk : k < 32) {i : Nat} (hi : i < 32) : bt (x &&& (((1 : Int32) <<< (nI k &&& 31)) ^^^ (-1))) i = (bt x i && !decide (i = k)) := by
  rw [b_and, b_xor, b_one hk hi, b_m1 i hi]
  cases bt x i <;> cases decide (i = k) <;> rfl
/-- the greatest of the bits below n -/
def gtop (x : Int32) : Nat → Int32
  | 0 => -1
  | k + 1 => if bt x k then nI k else gtop x k
theorem gtop_rg (x : Int32) : ∀ n, gtop x n = -1 ∨ ∃ k, k < n ∧ gtop x n = nI k ∧ bt x k = true := by
  intro n
  induction n with
  | zero => exact Or.inl rfl
  | succ n ih =>
    rw [gtop]
    by_cases h : bt x n = true
    · rw [if_pos h]
      exact Or.inr ⟨n, by omega, rfl, h⟩
    · rw [if_neg h]
      rcases ih with h1 | ⟨k, h1, h2⟩
      · exact Or.inl h1
      · exact Or.inr ⟨k, by omega, h2⟩
theorem top_m (n0 : Nat) (x : Int32) (μ : gw_M) : ∀ (k n : Nat), k ≤ 16 → k < n → F_X11_greatest_3 n0 n x (nI k + (-1)) μ = some (gtop x k) := by
  intro k
  induction k with
  | zero =>
    intro n _ hn
    obtain ⟨n, rfl⟩ : ∃ z, n = z + 1 := ⟨n - 1, by omega⟩
    rw [F_X11_greatest_3, if_pos (by decide)]
    rfl
  | succ k ih =>
    intro n hk hn
    obtain ⟨n, rfl⟩ : ∃ z, n = z + 1 := ⟨n - 1, by omega⟩
    rw [F_X11_greatest_3, pk_m1, if_neg (nI_pos (by omega))]
    simp only [F_X11_has, b_hb1 x (show k < 32 by omega), gtop, gw_let]
    by_cases h : bt x k = true
    · simp [h]
    · simp only [h, not_false_eq_true, if_true, Option.bind_some, not_true, if_false]
      exact ih n (by omega) (by omega)
theorem top_c (n0 : Nat) (x : Int32) (μ : gw_M) : ∀ (k n : Nat), k ≤ 16 → k < n → F_X10_greatestOf_3 n0 n x (nI k + (-1)) μ = some (gtop x k) := by
  intro k
  induction k with
  | zero =>
    intro n _ hn
    obtain ⟨n, rfl⟩ : ∃ z, n = z + 1 := ⟨n - 1, by omega⟩
    rw [F_X10_greatestOf_3, if_pos (by decide)]
    rfl
  | succ k ih =>
    intro n hk hn
    obtain ⟨n, rfl⟩ : ∃ z, n = z + 1 := ⟨n - 1, by omega⟩
    rw [F_X10_greatestOf_3, pk_m1, if_neg (nI_pos (by omega))]
    simp only [b_hb0 x (show k < 32 by omega), gtop, gw_let]
    by_cases h : bt x k = true
    · simp [h]
    · have h' : bt x k = false := by simpa using h
      simp only [h', if_true, if_false, Bool.false_eq_true]
      exact ih n (by omega) (by omega)
theorem m_greatest {n0 : Nat} (hn : 1000 ≤ n0) (x : Int32) (μ : gw_M) : F_X11_greatest n0 x μ = some (gtop x 16) := top_m n0 x μ 16 n0 (by decide) (by omega)
theorem c_greatest {n0 : Nat} (hn : 1000 ≤ n0) (x : Int32) (μ : gw_M) : F_X10_greatestOf n0 x μ = some (gtop x 16) := top_c n0 x μ 16 n0 (by decide) (by omega)
theorem m_has (n0 : Nat) (x : Int32) {k : Nat} (hk : k < 32) (μ : gw_M) : F_X11_has n0 x (nI k) μ = some (if bt x k then 1 else 0) := by
  simp only [F_X11_has, b_hb1 x hk]
  cases bt x k <;> simp
theorem c_has (n0 : Nat) (x : Int32) {k : Nat} (hk : k < 32) (μ : gw_M) : F_X10_hasBit n0 x (nI k) μ = some (if bt x k then 1 else 0) := by
  simp only [F_X10_hasBit, b_hb0 x hk]
  cases bt x k <;> simp
def isin (v l t : Int32) : Int32 := if v < l then 0 else if t < v then 0 else 1
theorem m_isIn (n0 : Nat) (v l t : Int32) (μ : gw_M) : F_X11_isIn n0 v l t μ = some (isin v l t) := by
  unfold F_X11_isIn F_X11_isIn_14 isin
  split
  · rfl
  · split <;> rfl
theorem c_within (n0 : Nat) (v l t : Int32) (μ : gw_M) : F_X10_within n0 v l t μ = some (isin v l t) := by
  unfold F_X10_within F_X10_within_14 isin
  split
  · rfl
  · split <;> rfl
/-- v lies in 0 .. n, or isin says no -/
theorem isin_0 (v : Int32) (n : Nat) (hn : n < 2 ^ 31) : (isin v 0 (nI n) = 0 ∧ ∀ k, k ≤ n → v ≠ nI k) ∨ (isin v 0 (nI n) = 1 ∧ ∃ k, k ≤ n ∧ v = nI k) := by
  unfold isin
  by_cases h1 : v < 0
  · left
    rw [if_pos h1]
    refine ⟨rfl, fun k hk c => ?_⟩
    rw [c] at h1
    exact nI_pos (by omega) h1
  · rw [if_neg h1]
    by_cases h2 : nI n < v
    · left
      rw [if_pos h2]
      refine ⟨rfl, fun k hk c => ?_⟩
      rw [c] at h2
      exact nI_nlt hk hn h2
    · right
      rw [if_neg h2]
      obtain ⟨j, hj, rfl⟩ := nI_of h1
      rw [nI_ltT hn hj] at h2
      exact ⟨rfl, j, by omega, rfl⟩
/-! counting bits -/
def mcnt : Nat → Int32 → Int32 → Option Int32
  | 0, _, _ => none
  | n + 1, a, x => if x = 0 then some a else mcnt n (a + 1) (x &&& (x - 1))
def bcnt (v0 : Int32) : Option Int32 := F_J6_bitCount_0f7a4 0 v0 (fun _ _ => 0)
theorem mcnt_eq (n0 : Nat) (μ : gw_M) : ∀ n a x, F_X11_many_4 n0 n a x μ = mcnt n a x := by
  intro n
  induction n with
  | zero => intro a x; rfl
  | succ n ih => intro a x; simp only [F_X11_many_4, mcnt, gw_let, ih]
theorem mcnt_mono : ∀ (n n' : Nat) (a x r : Int32), n ≤ n' → mcnt n a x = some r → mcnt n' a x = some r := by
  intro n
  induction n with
  | zero => intro n' a x r _ h; cases h
  | succ n ih =>
    intro n' a x r hn h
    obtain ⟨z, rfl⟩ : ∃ z, n' = z + 1 := ⟨n' - 1, by omega⟩
    simp only [mcnt] at h ⊢
    by_cases hx : x = 0
    · rw [if_pos hx] at h ⊢; exact h
    · rw [if_neg hx] at h ⊢
      exact ih z _ _ _ (by omega) h
theorem cnt_all : ∀ x < 1024, mcnt 12 0 (nI x) = bcnt (nI x) ∧ (bcnt (nI x)).isSome = true := by decide +kernel
def pcnt (x : Nat) : Int32 := (bcnt (nI x)).getD 0
theorem m_many {n0 : Nat} (hn : 1000 ≤ n0) {x : Nat} (hx : x < 1024) (μ : gw_M) : F_X11_many n0 (nI x) μ = some (pcnt x) := by
  obtain ⟨h1, h2⟩ := cnt_all x hx
  rw [F_X11_many, mcnt_eq]
  refine mcnt_mono 12 n0 _ _ _ (by omega) ?_
  rw [h1, pcnt]
  obtain ⟨z, hz⟩ := Option.isSome_iff_exists.mp h2
  rw [hz]; rfl
theorem c_bitCount (n0 : Nat) {x : Nat} (hx : x < 1024) (μ : gw_M) : F_J6_bitCount_0f7a4 n0 (nI x) μ = some (pcnt x) := by
  obtain ⟨h1, h2⟩ := cnt_all x hx
  show bcnt (nI x) = _
  rw [pcnt]
  obtain ⟨z, hz⟩ := Option.isSome_iff_exists.mp h2
  rw [hz]; rfl
