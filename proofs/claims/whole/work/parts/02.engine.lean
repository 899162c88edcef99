/-! ===== the pure machine: refs are numbers (0: null), ints lie at (object, slot) ===== -/
abbrev gw_S : Type := (Nat → Nat → Nat) × (Nat → Nat) × (Nat → Nat) × Nat
abbrev gw_M : Type := Nat → Nat → Int32
abbrev gw_Sig : Type := MethodName × ByteArray × Nat × Option FieldType
abbrev gw_E : Type := Nat × Nat × Instr × List Nat × List Int32 × List gw_Sig
abbrev gw_C : Type := Nat × Heap × va_G × ClassId × ClassId × ClassId × Nat × Nat × (Nat → Int32)
def gw_rf (S : gw_S) (a k : Nat) : Nat := S.1 a k
def gw_kd (S : gw_S) (a : Nat) : Nat := S.2.1 a
def gw_ln (S : gw_S) (a : Nat) : Nat := S.2.2.1 a
def gw_nn (S : gw_S) : Nat := S.2.2.2
def gw_up (μ : gw_M) (a k : Nat) (v : Int32) : gw_M := fun b j => if b = a ∧ j = k then v else μ b j
def gw_row (μ : gw_M) (a : Nat) (f : Nat → Int32) : gw_M := fun b j => if b = a then f j else μ b j
def gw_sr (S : gw_S) (a k r : Nat) : gw_S := (fun b j => if b = a ∧ j = k then r else S.1 b j, S.2)
def gw_new (S : gw_S) (kd ln : Nat) : gw_S := (fun b j => if b = S.2.2.2 + 1 then 0 else S.1 b j, fun b => if b = S.2.2.2 + 1 then kd else S.2.1 b, fun b => if b = S.2.2.2 + 1 then ln else S.2.2.1 b, S.2.2.2 + 1)
def gw_nth : List Value → Nat → Value
  | [], _ => .retAddr 0
  | v :: _, 0 => v
  | _ :: l, n + 1 => gw_nth l n
def gw_set : List Value → Nat → Value → List Value
  | [], _, _ => []
  | _ :: l, 0, w => w :: l
  | v :: l, n + 1, w => v :: gw_set l n w
def gw_v (x : gw_C) : Value → Value
  | .ref 0 => .null
  | .ref (r + 1) => .ref (x.1 + (r + 1))
  | .retAddr _ => .ref x.2.2.2.2.2.2.1
  | v => v
def gw_ty (c k : Nat) : FieldType := match c with
  | 0 => tyX0 k
  | 1 => tyX1 k
  | 2 => tyX2 k
  | 3 => tyX3 k
  | 4 => tyX4 k
  | 5 => tyX5 k
  | 6 => tyX6 k
  | 7 => tyX7 k
  | 8 => tyX8 k
  | 9 => tyX9 k
  | 10 => tyX10 k
  | _ => tyX11 k
def gw_nf (c : Nat) : Nat := match c with
  | 0 => 7
  | 1 => 6
  | 2 => 15
  | 3 => 15
  | 4 => 6
  | 5 => 3
  | 6 => 4
  | 7 => 5
  | 8 => 4
  | 9 => 4
  | 10 => 6
  | _ => 10
def gw_ft (t : FieldType) : Nat := match t with
  | .int => 0
  | .boolean => 2
  | _ => 1
def gw_fld (x : gw_C) (S : gw_S) (μ : gw_M) (a c k : Nat) : Value := if gw_ft (gw_ty c k) = 1 then gw_v x (.ref (gw_rf S a k)) else .int (μ a k)
def gw_cell (x : gw_C) (S : gw_S) (μ : gw_M) (a : Nat) (H : Heap) : Prop :=
  (gw_kd S a = 12 → H[x.1 + a]? = some (arrV x.2.2.2.1 (gw_ln S a) (fun j => .int (μ a j)))) ∧
  (gw_kd S a = 13 → H[x.1 + a]? = some (arrV x.2.2.2.2.1 (gw_ln S a) (fun j => gw_v x (.ref (gw_rf S a j))))) ∧
  (gw_kd S a = 14 → H[x.1 + a]? = some (arrV x.2.2.2.2.2.1 (gw_ln S a) (fun j => gw_v x (.ref (gw_rf S a j))))) ∧
  (∀ q, vwCl[gw_kd S a]? = some q → t_OB (x.1 + a) (x.2.2.1.1 (gw_kd S a)) q.2.2 (x.2.2.1.2 (gw_kd S a)) H (gw_fld x S μ a (gw_kd S a)))
abbrev gw_A (x : gw_C) : Nat → Prop := fun q => x.1 < q
def gw_wf (S : gw_S) : Prop := ∀ a, gw_kd S a < 15 → 1 ≤ a ∧ a ≤ gw_nn S
def gw_rep (x : gw_C) (S : gw_S) (μ : gw_M) (H : Heap) (locs : List Loc) : Prop :=
  gw_wf S ∧ (∀ a, 1 ≤ a → a ≤ gw_nn S → gw_cell x S μ a H) ∧ H.size = x.1 + 1 + gw_nn S ∧ x.2.1.size = x.1 + 1 ∧ (∀ q : Nat, q < x.1 + 1 → H[q]? = x.2.1[q]?) ∧ ∀ q ∈ locs, x.1 < q.base
abbrev gw_tys (x : gw_C) : List (ClassId × FieldType) := [(x.2.2.2.1, .int), (x.2.2.2.2.1, .object RX1), (x.2.2.2.2.2.1, .object RX3)]
def gw_isn : Cond → Bool
  | .methodLinkNest _ _ _ _ => true
  | .arrayOver (.object _) => true
  | _ => false
def gw_nest : List Cond := lw_tbl.filter gw_isn
def gw_kk (x : gw_C) (U : State) : Prop := va_K x.2.2.1 vwCl (gw_tys x) U ∧ va_X x.2.2.2.2.2.2.1 x.2.2.2.2.2.2.2.1 x.2.2.2.2.2.2.2.2 U x.2.1 ∧ x.2.2.2.2.2.2.1 < x.2.1.size ∧ ∀ w ∈ gw_nest, va_Nw w U
def gw_wd (x : gw_C) (S : gw_S) (μ : gw_M) (U : State) : Prop := gw_rep x S μ U.heap [] ∧ gw_kk x U
def gw_has (x : gw_C) (ls : Array Slot) (nL : Nat) (lv : List Value) : Prop :=
  ls.size = nL ∧ lv_wf ls ∧ lv.length = nL ∧ (∀ i, (gw_nth lv i).category = 1) ∧ ∀ i, gw_nth lv i ≠ .retAddr 0 → ls[i]? = some (.val (gw_v x (gw_nth lv i)))
def gw_rm (d mc ms : Nat) : Room := { frames := d, cells := mc, slots := ms, locals := 40 * d }
def gw_wsg (g : gw_Sig) : List Cond := Cond.code g.1 g.2.1 g.2.2.1 g.2.2.2 :: gw_tb
def gw_qc (x : gw_C) (Q : Option Value → gw_S → gw_M → Prop) : Array Value → State → Outcome → State → Prop := fun _ _ oc t => ∃ (r : Option Value) (S : gw_S) (μ : gw_M), oc = .returned (r.map (gw_v x)) ∧ Q r S μ ∧ gw_wd x S μ t
/-- the contract of a method, in the pure machine's words -/
def gw_ok (l : Launch) (x : gw_C) (d : Nat) (g : gw_Sig) (mc ms : Nat) (as : List Value) (S : gw_S) (μ : gw_M) (Q : Option Value → gw_S → gw_M → Prop) : Prop :=
  Cond.code g.1 g.2.1 g.2.2.1 g.2.2.2 ∈ gw_tb ∧ Met l g.1 (gw_wsg g) (gw_rm d mc ms) (va_Pc (as.map (gw_v x)) (gw_wd x S μ)) (gw_qc x Q) mc ms (gw_A x)
/-! ===== one instruction ===== -/
abbrev gw_Kt : Type := List Value → List Value → gw_S → gw_M → Nat → Nat → Prop
abbrev gw_Ok : Type := gw_Sig → Nat → Nat → List Value → gw_S → gw_M → (Option Value → gw_S → gw_M → Prop) → Prop
def gw_rfk (v : Value) (f : Value → Prop) : Prop := match v with
  | .ref r => f (.ref r)
  | .retAddr 1 => f (.retAddr 1)
  | _ => False
def gw_ink (v : Value) (f : Int32 → Prop) : Prop := match v with
  | .int r => f r
  | _ => False
def gw_c1 (c : ClassFile.Cond) (a : Int32) : Prop := match c with
  | .eq => a = 0
  | .ne => ¬ a = 0
  | .lt => a < 0
  | .ge => 0 ≤ a
  | .gt => 0 < a
  | .le => a ≤ 0
def gw_c2 (c : ClassFile.Cond) (a b : Int32) : Prop := match c with
  | .eq => a = b
  | .ne => ¬ a = b
  | .lt => a < b
  | .ge => b ≤ a
  | .gt => b < a
  | .le => a ≤ b
def gw_in (i : Int32) (n : Nat) : Prop := 0 ≤ i ∧ i.toNatClampNeg < n
def gw_r8 : List Value → Nat → Bool
  | [], _ => true
  | .int _ :: l, n + 1 => gw_r8 l n
  | .ref _ :: l, n + 1 => gw_r8 l n
  | .retAddr _ :: l, n + 1 => gw_r8 l n
  | _, _ => false
def gw_sw (K : Nat → Prop) (dflt : Nat) : List Nat → Int32 → Int32 → Prop
  | [], _, _ => K dflt
  | t :: ts, lo, v => (v = lo → K t) ∧ (¬ v = lo → gw_sw K dflt ts (lo + 1) v)
def gw_cpy (μ : gw_M) (a b : Nat) (sp dp n : Nat) : gw_M := gw_row μ b (va_cpy (μ a) (μ b) sp dp n)
def gw_step (ok : gw_Ok) (x : gw_C) (mc ms : Nat) (Q : Option Value → gw_S → gw_M → Prop) (K : Nat → gw_Kt) (i : Instr) (an : List Nat) (iv : List Int32) (sg : List gw_Sig) (ls st : List Value) (S : gw_S) (μ : gw_M) (cc ss : Nat) (N : gw_Kt) : Prop :=
  match i with
  | .aload_n _ => match an with
    | [k] => gw_rfk (gw_nth ls k) (fun v => N ls (v :: st) S μ cc ss)
    | _ => False
  | .aload _ => match an with
    | [k] => gw_rfk (gw_nth ls k) (fun v => N ls (v :: st) S μ cc ss)
    | _ => False
  | .iload_n _ => match an with
    | [k] => gw_ink (gw_nth ls k) (fun v => N ls (.int v :: st) S μ cc ss)
    | _ => False
  | .iload _ => match an with
    | [k] => gw_ink (gw_nth ls k) (fun v => N ls (.int v :: st) S μ cc ss)
    | _ => False
  | .astore_n _ => match an, st with
    | [k], .ref r :: t => N (gw_set ls k (.ref r)) t S μ cc ss
    | _, _ => False
  | .astore _ => match an, st with
    | [k], .ref r :: t => N (gw_set ls k (.ref r)) t S μ cc ss
    | _, _ => False
  | .istore_n _ => match an, st with
    | [k], .int r :: t => N (gw_set ls k (.int r)) t S μ cc ss
    | _, _ => False
  | .istore _ => match an, st with
    | [k], .int r :: t => N (gw_set ls k (.int r)) t S μ cc ss
    | _, _ => False
  | .iinc _ _ => match an, iv with
    | [k], [w] => gw_ink (gw_nth ls k) (fun v => N (gw_set ls k (.int (v + w))) st S μ cc ss)
    | _, _ => False
  | .iconst _ => match iv with
    | [w] => N ls (.int w :: st) S μ cc ss
    | _ => False
  | .bipush _ => match iv with
    | [w] => N ls (.int w :: st) S μ cc ss
    | _ => False
  | .sipush _ => match iv with
    | [w] => N ls (.int w :: st) S μ cc ss
    | _ => False
  | .ldc _ => match iv with
    | [w] => N ls (.int w :: st) S μ cc ss
    | _ => False
  | .ldc_w _ => match iv with
    | [w] => N ls (.int w :: st) S μ cc ss
    | _ => False
  | .iadd => match st with
    | .int b :: .int a :: t => N ls (.int (a + b) :: t) S μ cc ss
    | _ => False
  | .isub => match st with
    | .int b :: .int a :: t => N ls (.int (a - b) :: t) S μ cc ss
    | _ => False
  | .imul => match st with
    | .int b :: .int a :: t => N ls (.int (a * b) :: t) S μ cc ss
    | _ => False
  | .idiv => match st with
    | .int b :: .int a :: t => ¬ b = 0 ∧ N ls (.int (a / b) :: t) S μ cc ss
    | _ => False
  | .irem => match st with
    | .int b :: .int a :: t => ¬ b = 0 ∧ N ls (.int (a - a / b * b) :: t) S μ cc ss
    | _ => False
  | .iand => match st with
    | .int b :: .int a :: t => N ls (.int (a &&& b) :: t) S μ cc ss
    | _ => False
  | .ior => match st with
    | .int b :: .int a :: t => N ls (.int (a ||| b) :: t) S μ cc ss
    | _ => False
  | .ixor => match st with
    | .int b :: .int a :: t => N ls (.int (a ^^^ b) :: t) S μ cc ss
    | _ => False
  | .ishl => match st with
    | .int b :: .int a :: t => N ls (.int (a <<< (b &&& 31)) :: t) S μ cc ss
    | _ => False
  | .ishr => match st with
    | .int b :: .int a :: t => N ls (.int (a >>> (b &&& 31)) :: t) S μ cc ss
    | _ => False
  | .iushr => match st with
    | .int b :: .int a :: t => N ls (.int (a.toUInt32 >>> (b.toUInt32 &&& Int32.toUInt32 31)).toInt32 :: t) S μ cc ss
    | _ => False
  | .dup => match st with
    | .int a :: t => N ls (.int a :: .int a :: t) S μ cc ss
    | .ref a :: t => N ls (.ref a :: .ref a :: t) S μ cc ss
    | _ => False
  | .dup2 => match st with
    | .int b :: .ref a :: t => N ls (.int b :: .ref a :: .int b :: .ref a :: t) S μ cc ss
    | _ => False
  | .pop => match st with
    | .int _ :: t => N ls t S μ cc ss
    | .ref _ :: t => N ls t S μ cc ss
    | _ => False
  | .lcmp => match st with
    | .long b :: .long a :: t => N ls (.int (lg_cmp a b) :: t) S μ cc ss
    | _ => False
  | .ifCond c _ => match an, st with
    | [k], .int a :: t => (gw_c1 c a → K k ls t S μ cc ss) ∧ (¬ gw_c1 c a → N ls t S μ cc ss)
    | _, _ => False
  | .if_icmp c _ => match an, st with
    | [k], .int b :: .int a :: t => (gw_c2 c a b → K k ls t S μ cc ss) ∧ (¬ gw_c2 c a b → N ls t S μ cc ss)
    | _, _ => False
  | .ifnull _ => match an, st with
    | [k], .ref a :: t => (a = 0 → K k ls t S μ cc ss) ∧ (¬ a = 0 → N ls t S μ cc ss)
    | _, _ => False
  | .ifnonnull _ => match an, st with
    | [k], .ref a :: t => (¬ a = 0 → K k ls t S μ cc ss) ∧ (a = 0 → N ls t S μ cc ss)
    | _, _ => False
  | .goto _ => match an with
    | [k] => K k ls st S μ cc ss
    | _ => False
  | .tableswitch _ _ _ _ => match an, iv, st with
    | d :: ts, [lo], .int a :: t => gw_sw (fun k => K k ls t S μ cc ss) d ts lo a
    | _, _, _ => False
  | .getfield _ => match an, st with
    | [ci, k, 1, _], .ref a :: t => gw_kd S a = ci ∧ N ls (.ref (gw_rf S a k) :: t) S μ cc ss
    | [ci, k, _, _], .ref a :: t => gw_kd S a = ci ∧ N ls (.int (μ a k) :: t) S μ cc ss
    | _, _ => False
  | .putfield _ => match an, st with
    | [ci, k, 1, _], .ref r :: .ref a :: t => gw_kd S a = ci ∧ ¬ r = 0 ∧ N ls t (gw_sr S a k r) μ cc ss
    | [ci, k, 2, _], .int v :: .ref a :: t => gw_kd S a = ci ∧ (v = 0 ∨ v = 1) ∧ N ls t S (gw_up μ a k v) cc ss
    | [ci, k, 0, _], .int v :: .ref a :: t => gw_kd S a = ci ∧ N ls t S (gw_up μ a k v) cc ss
    | _, _ => False
  | .iaload => match st with
    | .int j :: .ref a :: t => gw_kd S a = 12 ∧ gw_in j (gw_ln S a) ∧ N ls (.int (μ a j.toNatClampNeg) :: t) S μ cc ss
    | .int j :: .retAddr 1 :: t => gw_in j x.2.2.2.2.2.2.2.1 ∧ N ls (.int (x.2.2.2.2.2.2.2.2 j.toNatClampNeg) :: t) S μ cc ss
    | _ => False
  | .iastore => match st with
    | .int v :: .int j :: .ref a :: t => gw_kd S a = 12 ∧ gw_in j (gw_ln S a) ∧ N ls t S (gw_up μ a j.toNatClampNeg v) cc ss
    | _ => False
  | .aaload => match st with
    | .int j :: .ref a :: t => (gw_kd S a = 13 ∨ gw_kd S a = 14) ∧ gw_in j (gw_ln S a) ∧ N ls (.ref (gw_rf S a j.toNatClampNeg) :: t) S μ cc ss
    | _ => False
  | .aastore => match st with
    | .ref r :: .int j :: .ref a :: t => ((gw_kd S a = 13 ∧ gw_kd S r = 1) ∨ (gw_kd S a = 14 ∧ gw_kd S r = 3)) ∧ gw_in j (gw_ln S a) ∧ N ls t (gw_sr S a j.toNatClampNeg r) μ cc ss
    | _ => False
  | .arraylength => match st with
    | .ref a :: t => (gw_kd S a = 12 ∨ gw_kd S a = 13 ∨ gw_kd S a = 14) ∧ N ls (.int (Int32.ofNat (gw_ln S a)) :: t) S μ cc ss
    | .retAddr 1 :: t => N ls (.int (Int32.ofNat x.2.2.2.2.2.2.2.1) :: t) S μ cc ss
    | _ => False
  | .newarray _ => match st with
    | .int n :: t => gw_in n 100000 ∧ cc + 1 ≤ mc ∧ ss + n.toNatClampNeg ≤ ms ∧ N ls (.ref (gw_nn S + 1) :: t) (gw_new S 12 n.toNatClampNeg) (gw_row μ (gw_nn S + 1) (fun _ => 0)) (cc + 1) (ss + n.toNatClampNeg)
    | _ => False
  | .anewarray _ => match an, st with
    | kd :: _, .int n :: t => gw_in n 100000 ∧ cc + 1 ≤ mc ∧ ss + n.toNatClampNeg ≤ ms ∧ N ls (.ref (gw_nn S + 1) :: t) (gw_new S kd n.toNatClampNeg) (gw_row μ (gw_nn S + 1) (fun _ => 0)) (cc + 1) (ss + n.toNatClampNeg)
    | _, _ => False
  | .new _ => match an with
    | ci :: _ => cc + 1 ≤ mc ∧ ss + gw_nf ci ≤ ms ∧ N ls (.ref (gw_nn S + 1) :: st) (gw_new S ci 0) (gw_row μ (gw_nn S + 1) (fun _ => 0)) (cc + 1) (ss + gw_nf ci)
    | _ => False
  | .invokevirtual _ => match an, sg with
    | n :: ci :: _, [g] => gw_rfk (gw_nth st n) (fun v => match v with
        | .ref a => gw_kd S a = ci ∧ gw_r8 (st.drop (n + 1)) 8 = true ∧ ∃ mc' ms', cc + mc' ≤ mc ∧ ss + ms' ≤ ms ∧ ok g mc' ms' (.ref a :: (st.take n).reverse) S μ (fun r S' μ' => N ls (r.toList ++ st.drop (n + 1)) S' μ' (cc + mc') (ss + ms'))
        | _ => False)
    | _, _ => False
  | .invokestatic _ => match an, sg with
    | [n, 0, _, _, _, _], [g] => gw_r8 (st.drop n) 8 = true ∧ n ≤ st.length ∧ ∃ mc' ms', cc + mc' ≤ mc ∧ ss + ms' ≤ ms ∧ ok g mc' ms' (st.take n).reverse S μ (fun r S' μ' => N ls (r.toList ++ st.drop n) S' μ' (cc + mc') (ss + ms'))
    | [n, 1, _, _, _, _], [g] => gw_r8 (st.drop n) 8 = true ∧ n ≤ st.length ∧ ∃ mc' ms', cc + mc' ≤ mc ∧ ss + ms' ≤ ms ∧ ok g mc' ms' (st.take n).reverse S μ (fun r S' μ' => N ls (r.toList ++ st.drop n) S' μ' (cc + mc') (ss + ms'))
    | [5, 2, _, _, _, _], [] => match st with
      | [.int n, .int dp, .ref b, .int sp, .ref a] => gw_kd S a = 12 ∧ gw_kd S b = 12 ∧ 0 ≤ sp ∧ 0 ≤ dp ∧ 0 ≤ n ∧ sp.toNatClampNeg + n.toNatClampNeg ≤ gw_ln S a ∧ dp.toNatClampNeg + n.toNatClampNeg ≤ gw_ln S b ∧ N ls [] S (gw_cpy μ a b sp.toNatClampNeg dp.toNatClampNeg n.toNatClampNeg) cc ss
      | _ => False
    | _, _ => False
  | .invokespecial _ => match an, sg with
    | [0, 2, _, _, _, _], [] => match st with
      | [.ref a] => ¬ a = 0 ∧ N ls [] S μ cc ss
      | _ => False
    | n :: _ :: _, [g] => gw_rfk (gw_nth st n) (fun v => match v with
        | .ref a => ¬ a = 0 ∧ gw_r8 (st.drop (n + 1)) 8 = true ∧ ∃ mc' ms', cc + mc' ≤ mc ∧ ss + ms' ≤ ms ∧ ok g mc' ms' (.ref a :: (st.take n).reverse) S μ (fun r S' μ' => N ls (r.toList ++ st.drop (n + 1)) S' μ' (cc + mc') (ss + ms'))
        | _ => False)
    | _, _ => False
  | .ireturn => match an, st with
    | [0], [.int v] => cc ≤ mc ∧ ss ≤ ms ∧ Q (some (.int v)) S μ
    | [1], [.int v] => (v = 0 ∨ v = 1) ∧ cc ≤ mc ∧ ss ≤ ms ∧ Q (some (.int v)) S μ
    | _, _ => False
  | .lreturn => match st with
    | [.long v] => cc ≤ mc ∧ ss ≤ ms ∧ Q (some (.long v)) S μ
    | _ => False
  | .areturn => match st with
    | [.ref v] => cc ≤ mc ∧ ss ≤ ms ∧ Q (some (.ref v)) S μ
    | _ => False
  | .return_ => match st with
    | [] => cc ≤ mc ∧ ss ≤ ms ∧ Q none S μ
    | _ => False
  | _ => False
def gw_blk (ok : gw_Ok) (x : gw_C) (mc ms : Nat) (Q : Option Value → gw_S → gw_M → Prop) (K : Nat → gw_Kt) : List gw_E → Nat → gw_Kt
  | [], pc, ls, st, S, μ, cc, ss => K pc ls st S μ cc ss
  | e :: es, _, ls, st, S, μ, cc, ss => gw_step ok x mc ms Q K e.2.2.1 e.2.2.2.1 e.2.2.2.2.1 e.2.2.2.2.2 ls st S μ cc ss (gw_blk ok x mc ms Q K es (e.1 + e.2.1))
def gw_find : List (Nat × List gw_E) → Nat → List gw_E
  | [], _ => []
  | b :: bs, pc => if b.1 = pc then b.2 else gw_find bs pc
/-! ===== what the tables must say of an instruction ===== -/
def gw_tab (k : Nat) : List Cond := match k with
  | 0 => k2_sels lw_privs
  | 1 => tables_1_1
  | 2 => tables_1_2
  | 3 => tables_1_3
  | 4 => tables_1_4
  | 5 => tables_1_5
  | 6 => tables_1_6
  | 7 => tables_1_7
  | 8 => tables_1_8
  | _ => tables_1_9
def gw_lkp (i : Nat) : Option Cond := (gw_tab (i / 1000))[i % 1000]?
def gw_is (i : Nat) (c : Cond) : Bool := decide (gw_lkp i = some c) && goodWord c
def gw_in1 (i : Nat) (c : Cond) : Bool := decide (gw_lkp i = some c) && gw_isn c
def gw_call (g : gw_Sig) (n : Nat) : Bool := decide (g.1.cls ≠ "java/lang/invoke/MethodHandle") && decide (g.1.cls ≠ "java/lang/invoke/VarHandle") && decide ((parseMethodDescriptor g.1.desc).map (fun d => d.parameters.length) = some n) && decide (g.2.2.1 ≤ 20)
def gw_lk (own : String) (nL : Nat) (rt : Option FieldType) (pc : Nat) (i : Instr) (an : List Nat) (iv : List Int32) (sg : List gw_Sig) : Bool := match i with
  | .aload_n k => decide (an = [k.val])
  | .aload k => decide (an = [k])
  | .iload_n k => decide (an = [k.val])
  | .iload k => decide (an = [k])
  | .astore_n k => decide (an = [k.val]) && decide (k.val < nL)
  | .astore k => decide (an = [k]) && decide (k < nL)
  | .istore_n k => decide (an = [k.val]) && decide (k.val < nL)
  | .istore k => decide (an = [k]) && decide (k < nL)
  | .iinc k n => decide (an = [k]) && decide (k < nL) && decide (iv = [Int32.ofInt n])
  | .iconst n => decide (iv = [Int32.ofInt n])
  | .bipush n => decide (iv = [(Int8.ofInt n).toInt32])
  | .sipush n => decide (iv = [(Int16.ofInt n).toInt32])
  | .ldc k => match an, iv with
    | [ti], [w] => gw_is ti (.constant own k w)
    | _, _ => false
  | .ldc_w k => match an, iv with
    | [ti], [w] => gw_is ti (.constant own k w)
    | _, _ => false
  | .ifCond _ off => match an with
    | [t] => decide ((pc : Int) + off = (t : Int))
    | _ => false
  | .if_icmp _ off => match an with
    | [t] => decide ((pc : Int) + off = (t : Int))
    | _ => false
  | .ifnull off => match an with
    | [t] => decide ((pc : Int) + off = (t : Int))
    | _ => false
  | .ifnonnull off => match an with
    | [t] => decide ((pc : Int) + off = (t : Int))
    | _ => false
  | .goto off => match an with
    | [t] => decide ((pc : Int) + off = (t : Int))
    | _ => false
  | .tableswitch dflt lo hi offs => match an, iv with
    | d :: ts, [w] => decide ((pc : Int) + dflt = (d : Int)) && decide (w.toInt = lo) && decide (offs.toList.map (fun o => (pc : Int) + o) = ts.map (fun t : Nat => (t : Int))) && decide (hi = lo + ts.length - 1) && decide (lo + ts.length < 1000) && decide (-1000 < lo)
    | _, _ => false
  | .getfield k => match an with
    | [ci, f, t, ti] => match vwCl[ci]? with
      | some q => decide (f < q.2.2) && decide (t = gw_ft (gw_ty ci f)) && gw_is ti (.fieldLink own k (q.2.1 f).1 (q.2.1 f).2.1 (q.2.1 f).2.2.1)
      | none => false
    | _ => false
  | .putfield k => match an with
    | [ci, f, t, ti] => match vwCl[ci]? with
      | some q => decide (f < q.2.2) && decide (t = gw_ft (gw_ty ci f)) && decide ((q.2.1 f).2.2.2 = decide (t = 1)) && decide (t = 1 → (q.2.1 f).1 = own) && gw_is ti (.fieldLink own k (q.2.1 f).1 (q.2.1 f).2.1 (q.2.1 f).2.2.1)
      | none => false
    | _ => false
  | .newarray ty => decide (ty = .int)
  | .anewarray k => match an with
    | [kd, t1, t2] => (decide (kd = 13) && gw_is t1 (.classLink own k RX1) && gw_in1 t2 (.arrayOver (.object RX1))) || (decide (kd = 14) && gw_is t1 (.classLink own k RX3) && gw_in1 t2 (.arrayOver (.object RX3)))
    | _ => false
  | .new k => match an with
    | [ci, t1, t2, t3] => match vwCl[ci]? with
      | some q => gw_is t1 (.classLink own k q.1) && gw_is t2 (.instantiable q.1 q.2.2) && gw_is t3 (.initialized q.1)
      | none => false
    | _ => false
  | .invokevirtual k => match an, sg with
    | [n, ci, t1, t2, t3, t4], [g] => match vwCl[ci]? with
      | some q => decide (g.1.cls = q.1) && gw_call g n && gw_is t1 (.methodLink own k g.1) && gw_is t2 (.instanceMethod g.1) && gw_is t3 (.selects q.1 g.1 g.1) && gw_is t4 (.initialized q.1)
      | none => false
    | _, _ => false
  | .invokestatic k => match an, sg with
    | [n, 0, t1, t2, t3, _], [g] => gw_call g n && gw_is t1 (.methodLink own k g.1) && gw_is t2 (.static g.1) && gw_is t3 (.initialized g.1.cls)
    | [n, 1, t1, t2, t3, _], [g] => gw_call g n && gw_in1 t1 (.methodLinkNest own k g.1 RX10) && gw_is t2 (.static g.1) && gw_is t3 (.initialized g.1.cls)
    | [5, 2, t1, t2, t3, t4], [] => gw_is t1 (.methodLink own k arraycopyName) && gw_is t2 (.native arraycopyName) && gw_is t3 (.static arraycopyName) && gw_is t4 (.initialized "java/lang/System")
    | _, _ => false
  | .invokespecial k => match an, sg with
    | [0, 2, t1, t2, t3, _], [] => gw_is t1 (.methodLink own k objectInit) && gw_is t2 (.instanceMethod objectInit) && gw_is t3 (.code objectInit ⟨#[0xb1]⟩ 1 none)
    | [n, 0, t1, t2, t3, _], [g] => gw_call g n && decide (g.1.name = "<init>") && decide (g.2.2.2 = none) && gw_is t1 (.methodLink own k g.1) && gw_is t2 (.instanceMethod g.1) && gw_is t3 (.initialized g.1.cls)
    | [n, 1, t1, t2, t3, _], [g] => gw_call g n && decide (g.1.name = "<init>") && decide (g.2.2.2 = none) && gw_in1 t1 (.methodLinkNest own k g.1 RX10) && gw_is t2 (.instanceMethod g.1) && gw_is t3 (.initialized g.1.cls)
    | _, _ => false
  | .ireturn => decide ((an = [0] ∧ rt = some .int) ∨ (an = [1] ∧ rt = some .boolean))
  | .lreturn => decide (rt = some .long)
  | .areturn => match rt with
    | some (.object _) => true
    | _ => false
  | .return_ => decide (rt = none)
  | _ => true
def gw_ini (nm : String) (i : Instr) (an : List Nat) : Bool := match i with
  | .putfield _ => decide (an.getD 2 0 = 1 → nm = "<init>")
  | _ => true
/-! ===== the pure machine is the machine ===== -/
theorem gw_cls {ci : Nat} {q : vw_C} (h : vwCl[ci]? = some q) : (∀ w ∈ u_ws q.1 q.2.1 q.2.2, w ∈ gw_tb) ∧ (∀ k, k < q.2.2 → parseFieldDescriptor (q.2.1 k).2.2.1 = some (gw_ty ci k)) ∧ (∀ a, a < q.2.2 → ∀ b, b < q.2.2 → a ≠ b → (q.2.1 a).2.1 ≠ (q.2.1 b).2.1) ∧ q.2.2 = gw_nf ci ∧ ci < 12 := by
  match ci, h with
  | 0, h => cases h; exact ⟨inX0, tyX0_ok, nmX0, rfl, by decide⟩
  | 1, h => cases h; exact ⟨inX1, tyX1_ok, nmX1, rfl, by decide⟩
  | 2, h => cases h; exact ⟨inX2, tyX2_ok, nmX2, rfl, by decide⟩
  | 3, h => cases h; exact ⟨inX3, tyX3_ok, nmX3, rfl, by decide⟩
  | 4, h => cases h; exact ⟨inX4, tyX4_ok, nmX4, rfl, by decide⟩
  | 5, h => cases h; exact ⟨inX5, tyX5_ok, nmX5, rfl, by decide⟩
  | 6, h => cases h; exact ⟨inX6, tyX6_ok, nmX6, rfl, by decide⟩
  | 7, h => cases h; exact ⟨inX7, tyX7_ok, nmX7, rfl, by decide⟩
  | 8, h => cases h; exact ⟨inX8, tyX8_ok, nmX8, rfl, by decide⟩
  | 9, h => cases h; exact ⟨inX9, tyX9_ok, nmX9, rfl, by decide⟩
  | 10, h => cases h; exact ⟨inX10, tyX10_ok, nmX10, rfl, by decide⟩
  | 11, h => cases h; exact ⟨inX11, tyX11_ok, nmX11, rfl, by decide⟩
  | n + 12, h => simp [vwCl] at h
theorem gw_cls_some {ci : Nat} (h : ci < 12) : ∃ q, vwCl[ci]? = some q := by
  have : ci < vwCl.length := h
  exact ⟨vwCl[ci], List.getElem?_eq_getElem this⟩
theorem gw_tab_in (k : Nat) : ∀ w ∈ gw_tab k, w ∈ lw_tbl := by
  intro w hw
  match k, hw with
  | 0, h => exact List.mem_append_left _ h
  | 1, h => exact List.mem_append_right _ (List.mem_append_left _ h)
  | 2, h => exact List.mem_append_right _ (List.mem_append_right _ (List.mem_append_left _ h))
  | 3, h => exact List.mem_append_right _ (List.mem_append_right _ (List.mem_append_right _ (List.mem_append_left _ h)))
  | 4, h => exact List.mem_append_right _ (List.mem_append_right _ (List.mem_append_right _ (List.mem_append_right _ (List.mem_append_left _ h))))
  | 5, h => exact List.mem_append_right _ (List.mem_append_right _ (List.mem_append_right _ (List.mem_append_right _ (List.mem_append_right _ (List.mem_append_left _ h)))))
  | 6, h => exact List.mem_append_right _ (List.mem_append_right _ (List.mem_append_right _ (List.mem_append_right _ (List.mem_append_right _ (List.mem_append_right _ (List.mem_append_left _ h))))))
  | 7, h => exact List.mem_append_right _ (List.mem_append_right _ (List.mem_append_right _ (List.mem_append_right _ (List.mem_append_right _ (List.mem_append_right _ (List.mem_append_right _ (List.mem_append_left _ h)))))))
  | 8, h => exact List.mem_append_right _ (List.mem_append_right _ (List.mem_append_right _ (List.mem_append_right _ (List.mem_append_right _ (List.mem_append_right _ (List.mem_append_right _ (List.mem_append_right _ (List.mem_append_left _ h))))))))
  | n + 9, h => exact List.mem_append_right _ (List.mem_append_right _ (List.mem_append_right _ (List.mem_append_right _ (List.mem_append_right _ (List.mem_append_right _ (List.mem_append_right _ (List.mem_append_right _ (List.mem_append_right _ h))))))))
theorem gw_lkp_in {i : Nat} {c : Cond} (h : gw_lkp i = some c) : c ∈ lw_tbl := gw_tab_in _ c (List.mem_of_getElem? h)
theorem gw_mem2 {i : Nat} {c : Cond} (h : gw_lkp i = some c) (hg : goodWord c = true) : c ∈ gw_tb := List.mem_filter.mpr ⟨gw_lkp_in h, hg⟩
theorem gw_is_spec {i : Nat} {c : Cond} (h : gw_is i c = true) : c ∈ gw_tb := by
  simp only [gw_is, Bool.and_eq_true, decide_eq_true_eq] at h
  exact gw_mem2 h.1 h.2
theorem gw_v_ref (x : gw_C) {r : Nat} (h : ¬ r = 0) : gw_v x (.ref r) = .ref (x.1 + r) := by
  cases r with
  | zero => exact absurd rfl h
  | succ r => rfl
theorem gw_v_int (x : gw_C) (v : Int32) : gw_v x (.int v) = .int v := rfl
theorem gw_v_cat (x : gw_C) {v : Value} (h : v.category = 1) : (gw_v x v).category = 1 := by
  cases v with
  | ref r => cases r <;> rfl
  | long v => cases h
  | double v => cases h
  | _ => rfl
theorem gw_in_vp {i : Int32} {n : Nat} (h : gw_in i n) : vp_in i n := by
  rintro (h1 | h1)
  · exact absurd h.1 (Int32.not_le.mpr h1)
  · exact absurd h.2 (Nat.not_lt.mpr h1)
theorem gw_len_set : ∀ (l : List Value) (k : Nat) (v : Value), (gw_set l k v).length = l.length
  | [], _, _ => rfl
  | _ :: _, 0, _ => rfl
  | _ :: l, n + 1, v => by simp [gw_set, gw_len_set l n v]
theorem gw_nth_set : ∀ (l : List Value) (k : Nat) (v : Value) (j : Nat), k < l.length → gw_nth (gw_set l k v) j = if j = k then v else gw_nth l j
  | [], _, _, _, h => by simp at h
  | _ :: l, 0, v, 0, _ => by simp [gw_set, gw_nth]
  | _ :: l, 0, v, j + 1, _ => by simp [gw_set, gw_nth]
  | _ :: l, n + 1, v, 0, _ => by simp [gw_set, gw_nth]
  | _ :: l, n + 1, v, j + 1, h => by
    have := gw_nth_set l n v j (by simpa using h)
    simp [gw_set, gw_nth, this]
theorem gw_kd_ok {x : gw_C} {S : gw_S} {μ : gw_M} {H : Heap} {locs : List Loc} (h : gw_rep x S μ H locs) {a k : Nat} (hk : gw_kd S a = k) (hl : k < 15) : 1 ≤ a ∧ a ≤ gw_nn S ∧ gw_cell x S μ a H ∧ gw_v x (.ref a) = .ref (x.1 + a) := by
  have h1 := h.1 a (by omega)
  exact ⟨h1.1, h1.2, h.2.1 a h1.1 h1.2, gw_v_ref x (by omega)⟩
theorem gw_cell_kept {x : gw_C} {S S' : gw_S} {μ μ' : gw_M} {b : Nat} {H H1 : Heap} (h : gw_cell x S μ b H) (hq : H1[x.1 + b]? = H[x.1 + b]?) (hk : gw_kd S' b = gw_kd S b) (hl : gw_ln S' b = gw_ln S b) (hr : ∀ j, gw_rf S' b j = gw_rf S b j) (hm : ∀ j, μ' b j = μ b j) : gw_cell x S' μ' b H1 := by
  have e1 : gw_fld x S' μ' b = gw_fld x S μ b := by
    funext c k
    simp only [gw_fld, hr, hm]
  unfold gw_cell at *
  simp only [hk, hl, hr, hm, hq, e1]
  exact ⟨h.1, h.2.1, h.2.2.1, fun q hv => (h.2.2.2 q hv).kept hq⟩
/-- one cell was written -/
theorem gw_rep_store {x : gw_C} {S S' : gw_S} {μ μ' : gw_M} {a : Nat} {H H1 : Heap} {locs locs1 : List Loc} (h : gw_rep x S μ H locs) (z : H1.size = H.size) (oq : ∀ q : Nat, q ≠ x.1 + a → H1[q]? = H[q]?) (ha : 1 ≤ a)
    (hn : S'.2 = S.2) (hr : ∀ b, b ≠ a → ∀ j, gw_rf S' b j = gw_rf S b j) (hm : ∀ b, b ≠ a → ∀ j, μ' b j = μ b j) (hc : gw_cell x S' μ' a H1) (hl : ∀ q ∈ locs1, q ∈ locs ∨ q.base = x.1 + a) : gw_rep x S' μ' H1 locs1 := by
  obtain ⟨h1, h2, h3, h4, h5, h6⟩ := h
  have e1 : ∀ b, gw_kd S' b = gw_kd S b := fun b => by simp only [gw_kd, hn]
  have e2 : ∀ b, gw_ln S' b = gw_ln S b := fun b => by simp only [gw_ln, hn]
  have e3 : gw_nn S' = gw_nn S := by simp only [gw_nn, hn]
  refine ⟨fun b hb => ?_, fun b hb1 hb2 => ?_, by rw [z, h3, e3], h4, fun q hq => by rw [oq q (by omega)]; exact h5 q hq, fun q hq => ?_⟩
  · rw [e3]; exact h1 b (by rw [← e1]; exact hb)
  · by_cases hba : b = a
    · subst hba; exact hc
    · exact gw_cell_kept (h2 b hb1 (by rw [← e3]; exact hb2)) (oq _ (by omega)) (e1 b) (e2 b) (hr b hba) (hm b hba)
  · rcases hl q hq with h | h
    · exact h6 q h
    · rw [h]; omega
/-- one cell came -/
theorem gw_rep_new {x : gw_C} {S : gw_S} {μ : gw_M} {kd ln : Nat} {H H1 : Heap} {locs : List Loc} (h : gw_rep x S μ H locs) (z : H1.size = H.size + 1) (oq : ∀ q : Nat, q < H.size → H1[q]? = H[q]?)
    (hc : gw_cell x (gw_new S kd ln) (gw_row μ (gw_nn S + 1) (fun _ => 0)) (gw_nn S + 1) H1) : gw_rep x (gw_new S kd ln) (gw_row μ (gw_nn S + 1) (fun _ => 0)) H1 locs := by
  obtain ⟨h1, h2, h3, h4, h5, h6⟩ := h
  have e3 : gw_nn (gw_new S kd ln) = gw_nn S + 1 := rfl
  refine ⟨fun b hb => ?_, fun b hb1 hb2 => ?_, by rw [z, h3, e3]; omega, h4, fun q hq => by rw [oq q (by omega)]; exact h5 q hq, h6⟩
  · rw [e3]
    by_cases hb1 : b = gw_nn S + 1
    · omega
    · have : gw_kd S b < 15 := by
        have e : gw_kd (gw_new S kd ln) b = gw_kd S b := by simp only [gw_kd, gw_new]; exact if_neg hb1
        rw [← e]; exact hb
      have := h1 b this
      omega
  · by_cases hba : b = gw_nn S + 1
    · subst hba; exact hc
    · rw [e3] at hb2
      refine gw_cell_kept (h2 b hb1 (by omega)) (oq _ (by omega)) ?_ ?_ (fun j => ?_) (fun j => ?_)
      · simp only [gw_kd, gw_new]; exact if_neg hba
      · simp only [gw_ln, gw_new]; exact if_neg hba
      · simp only [gw_rf, gw_new]; exact if_neg hba
      · simp only [gw_row]; rw [if_neg hba]
theorem gw_kk_same {x : gw_C} {u U : State} (hvm : u.vm = U.vm) (h : gw_kk x u) : gw_kk x U := by
  obtain ⟨h1, ⟨scr, a1, a2, a3⟩, h3, h4⟩ := h
  have ha : u.vm.Alike U.vm := by rw [hvm]; exact Vm.Alike.refl U.vm
  refine ⟨va_K.moved ha h1, ⟨scr, a1, State.isArrayOf_alike ha a2, a3⟩, h3, fun w hw => ?_⟩
  have hm := h4 w hw
  have := (List.mem_filter.mp hw).2
  cases w with
  | methodLinkNest a b c d => exact va_Nw.same rfl hvm hm
  | arrayOver ty =>
    cases ty with
    | object C => exact va_AO.moved ha hm
    | _ => simp [gw_isn] at this
  | _ => simp [gw_isn] at this
theorem gw_kk_moved {x : gw_C} {u U : State} (hW : u.WarmedH U.vm) (h : gw_kk x u) : gw_kk x U := by
  obtain ⟨h1, ⟨scr, a1, a2, a3⟩, h3, h4⟩ := h
  refine ⟨va_K.moved hW.alike h1, ⟨scr, a1, State.isArrayOf_alike hW.alike a2, a3⟩, h3, fun w hw => ?_⟩
  have hm := h4 w hw
  have := (List.mem_filter.mp hw).2
  cases w with
  | methodLinkNest a b c d => exact va_Nw.warmM hW hm
  | arrayOver ty =>
    cases ty with
    | object C => exact va_AO.moved hW.alike hm
    | _ => simp [gw_isn] at this
  | _ => simp [gw_isn] at this
theorem gw_in1_spec {i : Nat} {c : Cond} (h : gw_in1 i c = true) : c ∈ gw_nest := by
  simp only [gw_in1, Bool.and_eq_true, decide_eq_true_eq] at h
  exact List.mem_filter.mpr ⟨gw_lkp_in h.1, h.2⟩
/-- the locals that a row of the kit reads -/
def gw_lvl (x : gw_C) (lv : List Value) : List (Nat × Value) := (List.range lv.length).filterMap (fun i => if gw_nth lv i = .retAddr 0 then none else some (i, gw_v x (gw_nth lv i)))
theorem gw_nth_big : ∀ (l : List Value) (k : Nat), l.length ≤ k → gw_nth l k = .retAddr 0
  | [], _, _ => rfl
  | _ :: _, 0, h => by simp at h
  | _ :: l, k + 1, h => gw_nth_big l k (by simpa using h)
theorem gw_has_lv {x : gw_C} {ls : Array Slot} {nL : Nat} {lv : List Value} (h : gw_has x ls nL lv) : lv_has ls nL (gw_lvl x lv) := by
  obtain ⟨h1, h2, h3, h4, h5⟩ := h
  refine ⟨h1, h2, fun q hq => ?_⟩
  obtain ⟨i, hi, he⟩ := List.mem_filterMap.mp hq
  by_cases hn : gw_nth lv i = .retAddr 0
  · simp [hn] at he
  · simp only [hn, if_false, Option.some.injEq] at he
    rw [← he]
    exact h5 i hn
theorem gw_has_set {x : gw_C} {ls' : Array Slot} {nL : Nat} {lv : List Value} {k : Nat} {v : Value} {ls : Array Slot} (h : gw_has x ls nL lv) (hk : k < nL) (hv : v.category = 1)
    (h' : lv_has ls' nL ((k, gw_v x v) :: (gw_lvl x lv).filter (fun q => !(q.1 == k) && !(q.1 + 1 == k && q.2.category == 2)))) : gw_has x ls' nL (gw_set lv k v) := by
  obtain ⟨h1, h2, h3, h4, h5⟩ := h
  obtain ⟨g1, g2, g3⟩ := h'
  refine ⟨g1, g2, by rw [gw_len_set]; exact h3, fun i => ?_, fun i hi => ?_⟩
  · rw [gw_nth_set lv k v i (by omega)]
    by_cases hik : i = k
    · rw [if_pos hik]; exact hv
    · rw [if_neg hik]; exact h4 i
  · rw [gw_nth_set lv k v i (by omega)] at hi ⊢
    by_cases hik : i = k
    · rw [if_pos hik]
      subst hik
      exact g3 _ List.mem_cons_self
    · rw [if_neg hik] at hi ⊢
      refine g3 (i, gw_v x (gw_nth lv i)) (List.mem_cons_of_mem _ (List.mem_filter.mpr ⟨List.mem_filterMap.mpr ⟨i, List.mem_range.mpr ?_, by simp [hi]⟩, ?_⟩))
      · rcases Nat.lt_or_ge i lv.length with q | q
        · exact q
        · exact absurd (gw_nth_big lv i q) hi
      · have hc : (gw_v x (gw_nth lv i)).category = 1 := gw_v_cat x (h4 i)
        simp [hik, hc]
