/-! ===== the law: rows of its blocks ===== -/
abbrev LQ : gw_Q := fun r _ _ => r = some (.int 1)
def lw_ck (pc : Nat) (es : List gw_E) : Bool := gw_chk "GuestLevelsLaw" "law" 4 (some .boolean) code pc es && es.all (fun e => match e.2.2.1 with | .putfield _ => false | _ => true)
def LB (l : Launch) (x : gw_C) (K : Nat → gw_Kt) : Prop := ∀ (es : List gw_E) (pc : Nat) (lv st : List Value) (S : gw_S) (μ : gw_M) (cc ss : Nat), lw_ck pc es = true → gw_blk (gw_ok l x 16) x 427204 7820637 LQ K es pc lv st S μ cc ss → K pc lv st S μ cc ss
def NX (K : Nat → gw_Kt) (A m i b cc ss : Nat) (S : gw_S) : Prop := ∀ (S' : gw_S) (M2 : gw_M) (b' cc' ss' : Nat), SH S' A m → R2 b' S' A m M2 M2 → b' ≤ b + 8100 → cc' + nul S' A * 82 ≤ cc + nul S A * 82 + 82 → ss' + nul S' A * 1107 ≤ ss + nul S A * 1107 + 1107 → K 2058 [.retAddr 1, .ref A, .ref m, .int (nI i)] [] S' M2 cc' ss'
section LAW0A
variable {ok : gw_Ok} {x : gw_C} {mc ms : Nat} {Q : gw_Q} {K : Nat → gw_Kt} {es : List gw_E} {pc pc' n a i j L cc ss : Nat} {v0 v1 v2 v3 : Value} {st lv : List Value} {S : gw_S} {μ : gw_M}
theorem la_x (h : gw_blk ok x mc ms Q K es (pc + n) [v0, .ref a, v2, v3] (.ref a :: st) S μ cc ss) : gw_blk ok x mc ms Q K ((pc, n, .aload_n 1, [1], [], []) :: es) pc' [v0, .ref a, v2, v3] st S μ cc ss := h
theorem la_m (h : gw_blk ok x mc ms Q K es (pc + n) [v0, v1, .ref a, v3] (.ref a :: st) S μ cc ss) : gw_blk ok x mc ms Q K ((pc, n, .aload_n 2, [2], [], []) :: es) pc' [v0, v1, .ref a, v3] st S μ cc ss := h
theorem la_arg {p1 n1 p2 n2 p3 n3 p4 n4 : Nat} {z : Int} (hx : x.2.2.2.2.2.2.2.1 = L) (hij : i + j < L) (hL : L ≤ 2560) (h : gw_blk ok x mc ms Q K es (p4 + n4) [.retAddr 1, v1, v2, .int (nI i)] (.int (x.2.2.2.2.2.2.2.2 (i + j)) :: st) S μ cc ss) : gw_blk ok x mc ms Q K ((pc, n, .aload_n 0, [0], [], []) :: (p1, n1, .iload_n 3, [3], [], []) :: (p2, n2, .iconst z, [], [nI j], []) :: (p3, n3, .iadd, [], [], []) :: (p4, n4, .iaload, [], [], []) :: es) pc' [.retAddr 1, v1, v2, .int (nI i)] st S μ cc ss := by
  show gw_in (nI i + nI j) x.2.2.2.2.2.2.2.1 ∧ gw_blk ok x mc ms Q K es (p4 + n4) [.retAddr 1, v1, v2, .int (nI i)] (.int (x.2.2.2.2.2.2.2.2 (nI i + nI j).toNatClampNeg) :: st) S μ cc ss
  rw [nI_add, nI_clamp (by omega), hx]
  exact ⟨⟨nI_pos' (by omega), by rw [nI_clamp (by omega)]; exact hij⟩, h⟩
theorem la_eq {r : Int32} {off : Int} (h : K 2058 lv [] S μ cc ss) : gw_blk ok x mc ms Q K ((pc, n, .if_icmp .eq off, [2058], [], []) :: es) pc' lv [.int r, .int r] S μ cc ss := ⟨fun _ => h, fun hc => absurd rfl hc⟩
end LAW0A
section LAW0B
variable {l : Launch} {x : gw_C} {K : Nat → gw_Kt} {A m i b c cc ss L : Nat} {S : gw_S} {M : gw_M} {g1 g2 : gw_Sig}
theorem lw_n0 {p0 n0 p1 n1 p2 n2 p3 n3 p4 n4 j1 j2 k1 k2 k3 k4 k5 k6 k7 k8 pc : Nat} {off : Int} {es : List gw_E} (hP : PAI b c A m S M g1 g2 [.ref A] [.ref m]) (hc : c ≤ 8100) (hS : SH S A m) (hx : x.2.2.2.2.2.2.2.1 = L) (hi : i + 4 < L) (hL : L ≤ 2560) (hcc : cc + 1640 ≤ 427204) (hss : ss + 22140 ≤ 7820637) (hN : NX K A m i b cc ss S) :
    gw_blk (gw_ok l x 16) x 427204 7820637 LQ K ((p0, n0, .aload_n 1, [1], [], []) :: (p1, n1, .invokevirtual j1, [0, 10, k1, k2, k3, k4], [], [g1]) :: (p2, n2, .aload_n 2, [2], [], []) :: (p3, n3, .invokevirtual j2, [0, 11, k5, k6, k7, k8], [], [g2]) :: (p4, n4, .if_icmp .eq off, [2058], [], []) :: es) pc [.retAddr 1, .ref A, .ref m, .int (nI i)] [] S M cc ss := by
  obtain ⟨mc', ms', ⟨hm1, hm2⟩, hp⟩ := hP
  refine la_x ?_
  rw [gt_v0]
  refine ⟨(hS.2.1 0 _ rfl).1, rfl, mc', ms', by omega, by omega, hp l x 0 _ (fun r S' M1 hS' H => ?_)⟩
  show gw_blk (gw_ok l x 16) x 427204 7820637 LQ K _ _ _ [.int r] S' M1 (cc + mc') (ss + ms')
  refine la_m ?_
  rw [gt_v0]
  refine ⟨(hS'.2.2.1 0 _ rfl).1, rfl, 0, 0, by omega, by omega, H 0 _ (fun M2 hS2 hR2 h1 h2 => ?_)⟩
  show gw_blk (gw_ok l x 16) x 427204 7820637 LQ K _ _ _ [.int r, .int r] S' M2 (cc + mc' + 0) (ss + ms' + 0)
  exact la_eq (hN S' M2 (b + c) _ _ hS2 hR2 (by omega) (by omega) (by omega))
theorem lw_n1 {p0 n0 p1 n1 p2 n2 p3 n3 p4 n4 j1 j2 k1 k2 k3 k4 k5 k6 k7 k8 pc u1a u1b u1c u1d u1e u1an u1bn u1cn u1dn u1en w1a w1b w1c w1d w1e w1an w1bn w1cn w1dn w1en : Nat} {off uz1 wz1 : Int} {es : List gw_E} (hP : PAI b c A m S M g1 g2 [.ref A, .int (x.2.2.2.2.2.2.2.2 (i + 1))] [.ref m, .int (x.2.2.2.2.2.2.2.2 (i + 1))]) (hc : c ≤ 8100) (hS : SH S A m) (hx : x.2.2.2.2.2.2.2.1 = L) (hi : i + 4 < L) (hL : L ≤ 2560) (hcc : cc + 1640 ≤ 427204) (hss : ss + 22140 ≤ 7820637) (hN : NX K A m i b cc ss S) :
    gw_blk (gw_ok l x 16) x 427204 7820637 LQ K ((p0, n0, .aload_n 1, [1], [], []) :: (u1a, u1an, .aload_n 0, [0], [], []) :: (u1b, u1bn, .iload_n 3, [3], [], []) :: (u1c, u1cn, .iconst uz1, [], [nI 1], []) :: (u1d, u1dn, .iadd, [], [], []) :: (u1e, u1en, .iaload, [], [], []) :: (p1, n1, .invokevirtual j1, [1, 10, k1, k2, k3, k4], [], [g1]) :: (p2, n2, .aload_n 2, [2], [], []) :: (w1a, w1an, .aload_n 0, [0], [], []) :: (w1b, w1bn, .iload_n 3, [3], [], []) :: (w1c, w1cn, .iconst wz1, [], [nI 1], []) :: (w1d, w1dn, .iadd, [], [], []) :: (w1e, w1en, .iaload, [], [], []) :: (p3, n3, .invokevirtual j2, [1, 11, k5, k6, k7, k8], [], [g2]) :: (p4, n4, .if_icmp .eq off, [2058], [], []) :: es) pc [.retAddr 1, .ref A, .ref m, .int (nI i)] [] S M cc ss := by
  obtain ⟨mc', ms', ⟨hm1, hm2⟩, hp⟩ := hP
  refine la_x ?_
  refine la_arg (j := 1) hx (by omega) hL ?_
  rw [gt_v1]
  refine ⟨(hS.2.1 0 _ rfl).1, rfl, mc', ms', by omega, by omega, hp l x 0 _ (fun r S' M1 hS' H => ?_)⟩
  show gw_blk (gw_ok l x 16) x 427204 7820637 LQ K _ _ _ [.int r] S' M1 (cc + mc') (ss + ms')
  refine la_m ?_
  refine la_arg (j := 1) hx (by omega) hL ?_
  rw [gt_v1]
  refine ⟨(hS'.2.2.1 0 _ rfl).1, rfl, 0, 0, by omega, by omega, H 0 _ (fun M2 hS2 hR2 h1 h2 => ?_)⟩
  show gw_blk (gw_ok l x 16) x 427204 7820637 LQ K _ _ _ [.int r, .int r] S' M2 (cc + mc' + 0) (ss + ms' + 0)
  exact la_eq (hN S' M2 (b + c) _ _ hS2 hR2 (by omega) (by omega) (by omega))
theorem lw_n2 {p0 n0 p1 n1 p2 n2 p3 n3 p4 n4 j1 j2 k1 k2 k3 k4 k5 k6 k7 k8 pc u1a u1b u1c u1d u1e u1an u1bn u1cn u1dn u1en u2a u2b u2c u2d u2e u2an u2bn u2cn u2dn u2en w1a w1b w1c w1d w1e w1an w1bn w1cn w1dn w1en w2a w2b w2c w2d w2e w2an w2bn w2cn w2dn w2en : Nat} {off uz1 uz2 wz1 wz2 : Int} {es : List gw_E} (hP : PAI b c A m S M g1 g2 [.ref A, .int (x.2.2.2.2.2.2.2.2 (i + 1)), .int (x.2.2.2.2.2.2.2.2 (i + 2))] [.ref m, .int (x.2.2.2.2.2.2.2.2 (i + 1)), .int (x.2.2.2.2.2.2.2.2 (i + 2))]) (hc : c ≤ 8100) (hS : SH S A m) (hx : x.2.2.2.2.2.2.2.1 = L) (hi : i + 4 < L) (hL : L ≤ 2560) (hcc : cc + 1640 ≤ 427204) (hss : ss + 22140 ≤ 7820637) (hN : NX K A m i b cc ss S) :
    gw_blk (gw_ok l x 16) x 427204 7820637 LQ K ((p0, n0, .aload_n 1, [1], [], []) :: (u1a, u1an, .aload_n 0, [0], [], []) :: (u1b, u1bn, .iload_n 3, [3], [], []) :: (u1c, u1cn, .iconst uz1, [], [nI 1], []) :: (u1d, u1dn, .iadd, [], [], []) :: (u1e, u1en, .iaload, [], [], []) :: (u2a, u2an, .aload_n 0, [0], [], []) :: (u2b, u2bn, .iload_n 3, [3], [], []) :: (u2c, u2cn, .iconst uz2, [], [nI 2], []) :: (u2d, u2dn, .iadd, [], [], []) :: (u2e, u2en, .iaload, [], [], []) :: (p1, n1, .invokevirtual j1, [2, 10, k1, k2, k3, k4], [], [g1]) :: (p2, n2, .aload_n 2, [2], [], []) :: (w1a, w1an, .aload_n 0, [0], [], []) :: (w1b, w1bn, .iload_n 3, [3], [], []) :: (w1c, w1cn, .iconst wz1, [], [nI 1], []) :: (w1d, w1dn, .iadd, [], [], []) :: (w1e, w1en, .iaload, [], [], []) :: (w2a, w2an, .aload_n 0, [0], [], []) :: (w2b, w2bn, .iload_n 3, [3], [], []) :: (w2c, w2cn, .iconst wz2, [], [nI 2], []) :: (w2d, w2dn, .iadd, [], [], []) :: (w2e, w2en, .iaload, [], [], []) :: (p3, n3, .invokevirtual j2, [2, 11, k5, k6, k7, k8], [], [g2]) :: (p4, n4, .if_icmp .eq off, [2058], [], []) :: es) pc [.retAddr 1, .ref A, .ref m, .int (nI i)] [] S M cc ss := by
  obtain ⟨mc', ms', ⟨hm1, hm2⟩, hp⟩ := hP
  refine la_x ?_
  refine la_arg (j := 1) hx (by omega) hL ?_
  refine la_arg (j := 2) hx (by omega) hL ?_
  rw [gt_v2]
  refine ⟨(hS.2.1 0 _ rfl).1, rfl, mc', ms', by omega, by omega, hp l x 0 _ (fun r S' M1 hS' H => ?_)⟩
  show gw_blk (gw_ok l x 16) x 427204 7820637 LQ K _ _ _ [.int r] S' M1 (cc + mc') (ss + ms')
  refine la_m ?_
  refine la_arg (j := 1) hx (by omega) hL ?_
  refine la_arg (j := 2) hx (by omega) hL ?_
  rw [gt_v2]
  refine ⟨(hS'.2.2.1 0 _ rfl).1, rfl, 0, 0, by omega, by omega, H 0 _ (fun M2 hS2 hR2 h1 h2 => ?_)⟩
  show gw_blk (gw_ok l x 16) x 427204 7820637 LQ K _ _ _ [.int r, .int r] S' M2 (cc + mc' + 0) (ss + ms' + 0)
  exact la_eq (hN S' M2 (b + c) _ _ hS2 hR2 (by omega) (by omega) (by omega))
theorem lw_n3 {p0 n0 p1 n1 p2 n2 p3 n3 p4 n4 j1 j2 k1 k2 k3 k4 k5 k6 k7 k8 pc u1a u1b u1c u1d u1e u1an u1bn u1cn u1dn u1en u2a u2b u2c u2d u2e u2an u2bn u2cn u2dn u2en u3a u3b u3c u3d u3e u3an u3bn u3cn u3dn u3en w1a w1b w1c w1d w1e w1an w1bn w1cn w1dn w1en w2a w2b w2c w2d w2e w2an w2bn w2cn w2dn w2en w3a w3b w3c w3d w3e w3an w3bn w3cn w3dn w3en : Nat} {off uz1 uz2 uz3 wz1 wz2 wz3 : Int} {es : List gw_E} (hP : PAI b c A m S M g1 g2 [.ref A, .int (x.2.2.2.2.2.2.2.2 (i + 1)), .int (x.2.2.2.2.2.2.2.2 (i + 2)), .int (x.2.2.2.2.2.2.2.2 (i + 3))] [.ref m, .int (x.2.2.2.2.2.2.2.2 (i + 1)), .int (x.2.2.2.2.2.2.2.2 (i + 2)), .int (x.2.2.2.2.2.2.2.2 (i + 3))]) (hc : c ≤ 8100) (hS : SH S A m) (hx : x.2.2.2.2.2.2.2.1 = L) (hi : i + 4 < L) (hL : L ≤ 2560) (hcc : cc + 1640 ≤ 427204) (hss : ss + 22140 ≤ 7820637) (hN : NX K A m i b cc ss S) :
    gw_blk (gw_ok l x 16) x 427204 7820637 LQ K ((p0, n0, .aload_n 1, [1], [], []) :: (u1a, u1an, .aload_n 0, [0], [], []) :: (u1b, u1bn, .iload_n 3, [3], [], []) :: (u1c, u1cn, .iconst uz1, [], [nI 1], []) :: (u1d, u1dn, .iadd, [], [], []) :: (u1e, u1en, .iaload, [], [], []) :: (u2a, u2an, .aload_n 0, [0], [], []) :: (u2b, u2bn, .iload_n 3, [3], [], []) :: (u2c, u2cn, .iconst uz2, [], [nI 2], []) :: (u2d, u2dn, .iadd, [], [], []) :: (u2e, u2en, .iaload, [], [], []) :: (u3a, u3an, .aload_n 0, [0], [], []) :: (u3b, u3bn, .iload_n 3, [3], [], []) :: (u3c, u3cn, .iconst uz3, [], [nI 3], []) :: (u3d, u3dn, .iadd, [], [], []) :: (u3e, u3en, .iaload, [], [], []) :: (p1, n1, .invokevirtual j1, [3, 10, k1, k2, k3, k4], [], [g1]) :: (p2, n2, .aload_n 2, [2], [], []) :: (w1a, w1an, .aload_n 0, [0], [], []) :: (w1b, w1bn, .iload_n 3, [3], [], []) :: (w1c, w1cn, .iconst wz1, [], [nI 1], []) :: (w1d, w1dn, .iadd, [], [], []) :: (w1e, w1en, .iaload, [], [], []) :: (w2a, w2an, .aload_n 0, [0], [], []) :: (w2b, w2bn, .iload_n 3, [3], [], []) :: (w2c, w2cn, .iconst wz2, [], [nI 2], []) :: (w2d, w2dn, .iadd, [], [], []) :: (w2e, w2en, .iaload, [], [], []) :: (w3a, w3an, .aload_n 0, [0], [], []) :: (w3b, w3bn, .iload_n 3, [3], [], []) :: (w3c, w3cn, .iconst wz3, [], [nI 3], []) :: (w3d, w3dn, .iadd, [], [], []) :: (w3e, w3en, .iaload, [], [], []) :: (p3, n3, .invokevirtual j2, [3, 11, k5, k6, k7, k8], [], [g2]) :: (p4, n4, .if_icmp .eq off, [2058], [], []) :: es) pc [.retAddr 1, .ref A, .ref m, .int (nI i)] [] S M cc ss := by
  obtain ⟨mc', ms', ⟨hm1, hm2⟩, hp⟩ := hP
  refine la_x ?_
  refine la_arg (j := 1) hx (by omega) hL ?_
  refine la_arg (j := 2) hx (by omega) hL ?_
  refine la_arg (j := 3) hx (by omega) hL ?_
  rw [gt_v3]
  refine ⟨(hS.2.1 0 _ rfl).1, rfl, mc', ms', by omega, by omega, hp l x 0 _ (fun r S' M1 hS' H => ?_)⟩
  show gw_blk (gw_ok l x 16) x 427204 7820637 LQ K _ _ _ [.int r] S' M1 (cc + mc') (ss + ms')
  refine la_m ?_
  refine la_arg (j := 1) hx (by omega) hL ?_
  refine la_arg (j := 2) hx (by omega) hL ?_
  refine la_arg (j := 3) hx (by omega) hL ?_
  rw [gt_v3]
  refine ⟨(hS'.2.2.1 0 _ rfl).1, rfl, 0, 0, by omega, by omega, H 0 _ (fun M2 hS2 hR2 h1 h2 => ?_)⟩
  show gw_blk (gw_ok l x 16) x 427204 7820637 LQ K _ _ _ [.int r, .int r] S' M2 (cc + mc' + 0) (ss + ms' + 0)
  exact la_eq (hN S' M2 (b + c) _ _ hS2 hR2 (by omega) (by omega) (by omega))
theorem lw_n4 {p0 n0 p1 n1 p2 n2 p3 n3 p4 n4 j1 j2 k1 k2 k3 k4 k5 k6 k7 k8 pc u1a u1b u1c u1d u1e u1an u1bn u1cn u1dn u1en u2a u2b u2c u2d u2e u2an u2bn u2cn u2dn u2en u3a u3b u3c u3d u3e u3an u3bn u3cn u3dn u3en u4a u4b u4c u4d u4e u4an u4bn u4cn u4dn u4en w1a w1b w1c w1d w1e w1an w1bn w1cn w1dn w1en w2a w2b w2c w2d w2e w2an w2bn w2cn w2dn w2en w3a w3b w3c w3d w3e w3an w3bn w3cn w3dn w3en w4a w4b w4c w4d w4e w4an w4bn w4cn w4dn w4en : Nat} {off uz1 uz2 uz3 uz4 wz1 wz2 wz3 wz4 : Int} {es : List gw_E} (hP : PAI b c A m S M g1 g2 [.ref A, .int (x.2.2.2.2.2.2.2.2 (i + 1)), .int (x.2.2.2.2.2.2.2.2 (i + 2)), .int (x.2.2.2.2.2.2.2.2 (i + 3)), .int (x.2.2.2.2.2.2.2.2 (i + 4))] [.ref m, .int (x.2.2.2.2.2.2.2.2 (i + 1)), .int (x.2.2.2.2.2.2.2.2 (i + 2)), .int (x.2.2.2.2.2.2.2.2 (i + 3)), .int (x.2.2.2.2.2.2.2.2 (i + 4))]) (hc : c ≤ 8100) (hS : SH S A m) (hx : x.2.2.2.2.2.2.2.1 = L) (hi : i + 4 < L) (hL : L ≤ 2560) (hcc : cc + 1640 ≤ 427204) (hss : ss + 22140 ≤ 7820637) (hN : NX K A m i b cc ss S) :
    gw_blk (gw_ok l x 16) x 427204 7820637 LQ K ((p0, n0, .aload_n 1, [1], [], []) :: (u1a, u1an, .aload_n 0, [0], [], []) :: (u1b, u1bn, .iload_n 3, [3], [], []) :: (u1c, u1cn, .iconst uz1, [], [nI 1], []) :: (u1d, u1dn, .iadd, [], [], []) :: (u1e, u1en, .iaload, [], [], []) :: (u2a, u2an, .aload_n 0, [0], [], []) :: (u2b, u2bn, .iload_n 3, [3], [], []) :: (u2c, u2cn, .iconst uz2, [], [nI 2], []) :: (u2d, u2dn, .iadd, [], [], []) :: (u2e, u2en, .iaload, [], [], []) :: (u3a, u3an, .aload_n 0, [0], [], []) :: (u3b, u3bn, .iload_n 3, [3], [], []) :: (u3c, u3cn, .iconst uz3, [], [nI 3], []) :: (u3d, u3dn, .iadd, [], [], []) :: (u3e, u3en, .iaload, [], [], []) :: (u4a, u4an, .aload_n 0, [0], [], []) :: (u4b, u4bn, .iload_n 3, [3], [], []) :: (u4c, u4cn, .iconst uz4, [], [nI 4], []) :: (u4d, u4dn, .iadd, [], [], []) :: (u4e, u4en, .iaload, [], [], []) :: (p1, n1, .invokevirtual j1, [4, 10, k1, k2, k3, k4], [], [g1]) :: (p2, n2, .aload_n 2, [2], [], []) :: (w1a, w1an, .aload_n 0, [0], [], []) :: (w1b, w1bn, .iload_n 3, [3], [], []) :: (w1c, w1cn, .iconst wz1, [], [nI 1], []) :: (w1d, w1dn, .iadd, [], [], []) :: (w1e, w1en, .iaload, [], [], []) :: (w2a, w2an, .aload_n 0, [0], [], []) :: (w2b, w2bn, .iload_n 3, [3], [], []) :: (w2c, w2cn, .iconst wz2, [], [nI 2], []) :: (w2d, w2dn, .iadd, [], [], []) :: (w2e, w2en, .iaload, [], [], []) :: (w3a, w3an, .aload_n 0, [0], [], []) :: (w3b, w3bn, .iload_n 3, [3], [], []) :: (w3c, w3cn, .iconst wz3, [], [nI 3], []) :: (w3d, w3dn, .iadd, [], [], []) :: (w3e, w3en, .iaload, [], [], []) :: (w4a, w4an, .aload_n 0, [0], [], []) :: (w4b, w4bn, .iload_n 3, [3], [], []) :: (w4c, w4cn, .iconst wz4, [], [nI 4], []) :: (w4d, w4dn, .iadd, [], [], []) :: (w4e, w4en, .iaload, [], [], []) :: (p3, n3, .invokevirtual j2, [4, 11, k5, k6, k7, k8], [], [g2]) :: (p4, n4, .if_icmp .eq off, [2058], [], []) :: es) pc [.retAddr 1, .ref A, .ref m, .int (nI i)] [] S M cc ss := by
  obtain ⟨mc', ms', ⟨hm1, hm2⟩, hp⟩ := hP
  refine la_x ?_
  refine la_arg (j := 1) hx (by omega) hL ?_
  refine la_arg (j := 2) hx (by omega) hL ?_
  refine la_arg (j := 3) hx (by omega) hL ?_
  refine la_arg (j := 4) hx (by omega) hL ?_
  rw [gt_v4]
  refine ⟨(hS.2.1 0 _ rfl).1, rfl, mc', ms', by omega, by omega, hp l x 0 _ (fun r S' M1 hS' H => ?_)⟩
  show gw_blk (gw_ok l x 16) x 427204 7820637 LQ K _ _ _ [.int r] S' M1 (cc + mc') (ss + ms')
  refine la_m ?_
  refine la_arg (j := 1) hx (by omega) hL ?_
  refine la_arg (j := 2) hx (by omega) hL ?_
  refine la_arg (j := 3) hx (by omega) hL ?_
  refine la_arg (j := 4) hx (by omega) hL ?_
  rw [gt_v4]
  refine ⟨(hS'.2.2.1 0 _ rfl).1, rfl, 0, 0, by omega, by omega, H 0 _ (fun M2 hS2 hR2 h1 h2 => ?_)⟩
  show gw_blk (gw_ok l x 16) x 427204 7820637 LQ K _ _ _ [.int r, .int r] S' M2 (cc + mc' + 0) (ss + ms' + 0)
  exact la_eq (hN S' M2 (b + c) _ _ hS2 hR2 (by omega) (by omega) (by omega))
end LAW0B
