/-! ===== the calls that only read, both sides ===== -/
section PAIRS2
variable {b A m n : Nat} {S : gw_S} {M : gw_M}
theorem mk_rd {g1 g2 : gw_Sig} {a1 a2 : List Value} (hS : SH S A m) (hR : R2 b S A m M M) (F F2 : Option Int32)
    (H1 : ∀ (l : Launch) (x : gw_C) (d : Nat) (Q : gw_Q) (r : Int32), F = some r → Q (some (.int r)) S M → gw_ok l x (d + 14) g1 0 0 a1 S M Q)
    (H2 : ∀ (l : Launch) (x : gw_C) (d : Nat) (Q : gw_Q) (r : Int32), F2 = some r → Q (some (.int r)) S M → gw_ok l x (d + 14) g2 0 0 a2 S M Q)
    (HS : SAME F F2) : PAIR b 0 A m S M g1 g2 a1 a2 := by
  obtain ⟨r, f1, f2⟩ := HS
  exact ⟨0, 0, ⟨Nat.zero_le _, Nat.zero_le _⟩, fun l x d Q hQ => H1 l x d Q r f1 (hQ r S M hS (fun d2 Q2 h2 => H2 l x d2 Q2 r f2 (h2 M hS hR (by omega) (by omega))))⟩
theorem rd_steps (hR : R2 b S A m M M) : SAME (F_X10_steps n A M) (F_X11_steps n m M) := by
  obtain ⟨st, fs, sz, -, -, -, -, h1, h2, -⟩ := hR.2.2.1
  exact sm_eq (r := nI sz) (congrArg some h1) (congrArg some h2)
theorem pr_is (hn : 1000 ≤ n) (hS : SH S A m) (hR : R2 b S A m M M) (v1 : Int32) : PAIR b 0 A m S M sgX10_is sgX11_is [.ref A, .int v1] [.ref m, .int v1] := by
  obtain ⟨L3, L2, g⟩ := R2_G hR
  refine mk_rd hS hR (F_X10_is n A v1 M) (F_X11_is n m v1 M) ?_ ?_ (rd_is hn g v1)
  · intro l x d Q r h hq
    exact ok_X10_is (d := d + 10) hS.2.1 h hq
  · intro l x d Q r h hq
    exact ok_X11_is (d := d + 9) hS.2.2.1 h hq
theorem pr_told (hn : 1000 ≤ n) (hS : SH S A m) (hR : R2 b S A m M M) (v1 v2 v3 : Int32) : PAIR b 0 A m S M sgX10_told sgX11_told [.ref A, .int v1, .int v2, .int v3] [.ref m, .int v1, .int v2, .int v3] := by
  obtain ⟨L3, L2, g⟩ := R2_G hR
  refine mk_rd hS hR (F_X10_told n A v1 v2 v3 M) (F_X11_told n m v1 v2 v3 M) ?_ ?_ (rd_told g v1 v2 v3)
  · intro l x d Q r h hq
    exact ok_X10_told (d := d + 11) hS.2.1 h hq
  · intro l x d Q r h hq
    exact ok_X11_told (d := d + 10) hS.2.2.1 h hq
theorem pr_folded (hn : 1000 ≤ n) (hS : SH S A m) (hR : R2 b S A m M M) (v1 : Int32) : PAIR b 0 A m S M sgX10_folded sgX11_folded [.ref A, .int v1] [.ref m, .int v1] := by
  obtain ⟨L3, L2, g⟩ := R2_G hR
  refine mk_rd hS hR (F_X10_folded n A v1 M) (F_X11_folded n m v1 M) ?_ ?_ (rd_folded hn g v1)
  · intro l x d Q r h hq
    exact ok_X10_folded (d := d + 11) hS.2.1 h hq
  · intro l x d Q r h hq
    exact ok_X11_folded (d := d + 12) hS.2.2.1 h hq
theorem pr_frame (hn : 1000 ≤ n) (hS : SH S A m) (hR : R2 b S A m M M) (v1 : Int32) : PAIR b 0 A m S M sgX10_frame sgX11_frame [.ref A, .int v1] [.ref m, .int v1] := by
  obtain ⟨L3, L2, g⟩ := R2_G hR
  refine mk_rd hS hR (F_X10_frame n A v1 M) (F_X11_frame n m v1 M) ?_ ?_ (rd_frame g v1)
  · intro l x d Q r h hq
    exact ok_X10_frame (d := d + 11) hS.2.1 h hq
  · intro l x d Q r h hq
    exact ok_X11_frame (d := d + 12) hS.2.2.1 h hq
theorem pr_handled (hn : 1000 ≤ n) (hS : SH S A m) (hR : R2 b S A m M M) (v1 : Int32) : PAIR b 0 A m S M sgX10_handled sgX11_handled [.ref A, .int v1] [.ref m, .int v1] := by
  obtain ⟨L3, L2, g⟩ := R2_G hR
  refine mk_rd hS hR (F_X10_handled n A v1 M) (F_X11_handled n m v1 M) ?_ ?_ (rd_handled g v1)
  · intro l x d Q r h hq
    exact ok_X10_handled (d := d + 12) hS.2.1 h hq
  · intro l x d Q r h hq
    exact ok_X11_handled (d := d + 12) hS.2.2.1 h hq
theorem pr_stored (hn : 1000 ≤ n) (hS : SH S A m) (hR : R2 b S A m M M) (v1 : Int32) : PAIR b 0 A m S M sgX10_stored sgX11_stored [.ref A, .int v1] [.ref m, .int v1] := by
  obtain ⟨L3, L2, g⟩ := R2_G hR
  refine mk_rd hS hR (F_X10_stored n A v1 M) (F_X11_stored n m v1 M) ?_ ?_ (rd_stored g v1)
  · intro l x d Q r h hq
    exact ok_X10_stored (d := d + 11) hS.2.1 h hq
  · intro l x d Q r h hq
    exact ok_X11_stored (d := d + 11) hS.2.2.1 h hq
theorem pr_backed (hn : 1000 ≤ n) (hS : SH S A m) (hR : R2 b S A m M M) (v1 : Int32) : PAIR b 0 A m S M sgX10_backed sgX11_backed [.ref A, .int v1] [.ref m, .int v1] := by
  obtain ⟨L3, L2, g⟩ := R2_G hR
  refine mk_rd hS hR (F_X10_backed n A v1 M) (F_X11_backed n m v1 M) ?_ ?_ (rd_backed hn g v1)
  · intro l x d Q r h hq
    exact ok_X10_backed (d := d + 11) hS.2.1 h hq
  · intro l x d Q r h hq
    exact ok_X11_backed (d := d + 12) hS.2.2.1 h hq
theorem pr_copied (hn : 1000 ≤ n) (hS : SH S A m) (hR : R2 b S A m M M) : PAIR b 0 A m S M sgX10_copied sgX11_copied [.ref A] [.ref m] := by
  obtain ⟨L3, L2, g⟩ := R2_G hR
  refine mk_rd hS hR (F_X10_copied n A M) (F_X11_copied n m M) ?_ ?_ (rd_copied g)
  · intro l x d Q r h hq
    exact ok_X10_copied (d := d + 13) hS.2.1 h hq
  · intro l x d Q r h hq
    exact ok_X11_copied (d := d + 13) hS.2.2.1 h hq
theorem pr_trapped (hn : 1000 ≤ n) (hS : SH S A m) (hR : R2 b S A m M M) (v1 : Int32) : PAIR b 0 A m S M sgX10_trapped sgX11_trapped [.ref A, .int v1] [.ref m, .int v1] := by
  obtain ⟨L3, L2, g⟩ := R2_G hR
  refine mk_rd hS hR (F_X10_trapped n A v1 M) (F_X11_trapped n m v1 M) ?_ ?_ (rd_trapped g v1)
  · intro l x d Q r h hq
    exact ok_X10_trapped (d := d + 12) hS.2.1 h hq
  · intro l x d Q r h hq
    exact ok_X11_trapped (d := d + 12) hS.2.2.1 h hq
theorem pr_heard (hn : 1000 ≤ n) (hS : SH S A m) (hR : R2 b S A m M M) (v1 : Int32) : PAIR b 0 A m S M sgX10_heard sgX11_heard [.ref A, .int v1] [.ref m, .int v1] := by
  obtain ⟨L3, L2, g⟩ := R2_G hR
  refine mk_rd hS hR (F_X10_heard n A v1 M) (F_X11_heard n m v1 M) ?_ ?_ (rd_heard g v1)
  · intro l x d Q r h hq
    exact ok_X10_heard (d := d + 10) hS.2.1 h hq
  · intro l x d Q r h hq
    exact ok_X11_heard (d := d + 12) hS.2.2.1 h hq
theorem pr_changed (hn : 1000 ≤ n) (hS : SH S A m) (hR : R2 b S A m M M) : PAIR b 0 A m S M sgX10_changed sgX11_changed [.ref A] [.ref m] := by
  obtain ⟨L3, L2, g⟩ := R2_G hR
  refine mk_rd hS hR (F_X10_changed n A M) (F_X11_changed n m M) ?_ ?_ (rd_changed g)
  · intro l x d Q r h hq
    exact ok_X10_changed (d := d + 13) hS.2.1 h hq
  · intro l x d Q r h hq
    exact ok_X11_changed (d := d + 13) hS.2.2.1 h hq
theorem pr_walk (hn : 1000 ≤ n) (hS : SH S A m) (hR : R2 b S A m M M) (v1 v2 : Int32) : PAIR b 0 A m S M sgX10_walk sgX11_walk [.ref A, .int v1, .int v2] [.ref m, .int v1, .int v2] := by
  obtain ⟨L3, L2, g⟩ := R2_G hR
  refine mk_rd hS hR (F_X10_walk n A v1 v2 M) (F_X11_walk n m v1 v2 M) ?_ ?_ (rd_walk hn g v1 v2)
  · intro l x d Q r h hq
    exact ok_X10_walk (d := d + 10) hS.2.1 h hq
  · intro l x d Q r h hq
    exact ok_X11_walk (d := d + 9) hS.2.2.1 h hq
theorem pr_given (hn : 1000 ≤ n) (hS : SH S A m) (hR : R2 b S A m M M) (v1 : Int32) : PAIR b 0 A m S M sgX10_given sgX11_given [.ref A, .int v1] [.ref m, .int v1] := by
  obtain ⟨L3, L2, g⟩ := R2_G hR
  refine mk_rd hS hR (F_X10_given n A v1 M) (F_X11_given n m v1 M) ?_ ?_ (rd_given hn g v1)
  · intro l x d Q r h hq
    exact ok_X10_given (d := d + 10) hS.2.1 h hq
  · intro l x d Q r h hq
    exact ok_X11_given (d := d + 10) hS.2.2.1 h hq
theorem pr_lazy (hn : 1000 ≤ n) (hS : SH S A m) (hR : R2 b S A m M M) : PAIR b 0 A m S M sgX10_lazy sgX11_lazy [.ref A] [.ref m] := by
  obtain ⟨L3, L2, g⟩ := R2_G hR
  refine mk_rd hS hR (F_X10_lazy n A M) (F_X11_lazy n m M) ?_ ?_ (rd_lazy hn g)
  · intro l x d Q r h hq
    exact ok_X10_lazy (d := d + 10) hS.2.1 h hq
  · intro l x d Q r h hq
    exact ok_X11_lazy (d := d + 9) hS.2.2.1 h hq
theorem pr_aliases (hn : 1000 ≤ n) (hS : SH S A m) (hR : R2 b S A m M M) (v1 : Int32) : PAIR b 0 A m S M sgX10_aliases sgX11_aliases [.ref A, .int v1] [.ref m, .int v1] := by
  obtain ⟨L3, L2, g⟩ := R2_G hR
  refine mk_rd hS hR (F_X10_aliases n A v1 M) (F_X11_aliases n m v1 M) ?_ ?_ (rd_aliases hn g v1)
  · intro l x d Q r h hq
    exact ok_X10_aliases (d := d + 10) hS.2.1 h hq
  · intro l x d Q r h hq
    exact ok_X11_aliases (d := d + 10) hS.2.2.1 h hq
theorem pr_free (hn : 1000 ≤ n) (hS : SH S A m) (hR : R2 b S A m M M) : PAIR b 0 A m S M sgX10_free sgX11_free [.ref A] [.ref m] := by
  obtain ⟨L3, L2, g⟩ := R2_G hR
  refine mk_rd hS hR (F_X10_free n A M) (F_X11_free n m M) ?_ ?_ (rd_free hn g)
  · intro l x d Q r h hq
    exact ok_X10_free (d := d + 12) hS.2.1 h hq
  · intro l x d Q r h hq
    exact ok_X11_free (d := d + 9) hS.2.2.1 h hq
theorem pr_wanted (hn : 1000 ≤ n) (hS : SH S A m) (hR : R2 b S A m M M) (v1 : Int32) : PAIR b 0 A m S M sgX10_wanted sgX11_wanted [.ref A, .int v1] [.ref m, .int v1] := by
  obtain ⟨L3, L2, g⟩ := R2_G hR
  refine mk_rd hS hR (F_X10_wanted n A v1 M) (F_X11_wanted n m v1 M) ?_ ?_ (rd_wanted g v1)
  · intro l x d Q r h hq
    exact ok_X10_wanted (d := d + 13) hS.2.1 h hq
  · intro l x d Q r h hq
    exact ok_X11_wanted (d := d + 12) hS.2.2.1 h hq
theorem pr_whose (hn : 1000 ≤ n) (hS : SH S A m) (hR : R2 b S A m M M) (v1 : Int32) : PAIR b 0 A m S M sgX10_whose sgX11_whose [.ref A, .int v1] [.ref m, .int v1] := by
  obtain ⟨L3, L2, g⟩ := R2_G hR
  refine mk_rd hS hR (F_X10_whose n A v1 M) (F_X11_whose n m v1 M) ?_ ?_ (rd_whose g v1)
  · intro l x d Q r h hq
    exact ok_X10_whose (d := d + 11) hS.2.1 h hq
  · intro l x d Q r h hq
    exact ok_X11_whose (d := d + 11) hS.2.2.1 h hq
theorem pr_exit (hn : 1000 ≤ n) (hS : SH S A m) (hR : R2 b S A m M M) (v1 v2 : Int32) : PAIR b 0 A m S M sgX10_exit sgX11_exit [.ref A, .int v1, .int v2] [.ref m, .int v1, .int v2] := by
  obtain ⟨L3, L2, g⟩ := R2_G hR
  refine mk_rd hS hR (F_X10_exit n A v1 v2 M) (F_X11_exit n m v1 v2 M) ?_ ?_ (rd_exit g v1 v2)
  · intro l x d Q r h hq
    exact ok_X10_exit (d := d + 10) hS.2.1 h hq
  · intro l x d Q r h hq
    exact ok_X11_exit (d := d + 12) hS.2.2.1 h hq
theorem pr_exits (hn : 1000 ≤ n) (hS : SH S A m) (hR : R2 b S A m M M) (v1 : Int32) : PAIR b 0 A m S M sgX10_exits sgX11_exits [.ref A, .int v1] [.ref m, .int v1] := by
  obtain ⟨L3, L2, g⟩ := R2_G hR
  refine mk_rd hS hR (F_X10_exits n A v1 M) (F_X11_exits n m v1 M) ?_ ?_ (rd_exits hn g v1)
  · intro l x d Q r h hq
    exact ok_X10_exits (d := d + 10) hS.2.1 h hq
  · intro l x d Q r h hq
    exact ok_X11_exits (d := d + 13) hS.2.2.1 h hq
theorem pr_pending (hn : 1000 ≤ n) (hS : SH S A m) (hR : R2 b S A m M M) (v1 : Int32) : PAIR b 0 A m S M sgX10_pending sgX11_pending [.ref A, .int v1] [.ref m, .int v1] := by
  obtain ⟨L3, L2, g⟩ := R2_G hR
  refine mk_rd hS hR (F_X10_pending n A v1 M) (F_X11_pending n m v1 M) ?_ ?_ (rd_pending g v1)
  · intro l x d Q r h hq
    exact ok_X10_pending (d := d + 12) hS.2.1 h hq
  · intro l x d Q r h hq
    exact ok_X11_pending (d := d + 11) hS.2.2.1 h hq
theorem pr_service (hn : 1000 ≤ n) (hS : SH S A m) (hR : R2 b S A m M M) (v1 : Int32) : PAIR b 0 A m S M sgX10_service sgX11_service [.ref A, .int v1] [.ref m, .int v1] := by
  obtain ⟨L3, L2, g⟩ := R2_G hR
  refine mk_rd hS hR (F_X10_service n A v1 M) (F_X11_service n m v1 M) ?_ ?_ (rd_service g v1)
  · intro l x d Q r h hq
    exact ok_X10_service (d := d + 12) hS.2.1 h hq
  · intro l x d Q r h hq
    exact ok_X11_service (d := d + 11) hS.2.2.1 h hq
theorem pr_putBy (hn : 1000 ≤ n) (hS : SH S A m) (hR : R2 b S A m M M) (v1 v2 : Int32) : PAIR b 0 A m S M sgX10_putBy sgX11_putBy [.ref A, .int v1, .int v2] [.ref m, .int v1, .int v2] := by
  obtain ⟨L3, L2, g⟩ := R2_G hR
  refine mk_rd hS hR (F_X10_putBy n A v1 v2 M) (F_X11_putBy n m v1 v2 M) ?_ ?_ (rd_putBy hn g v1 v2)
  · intro l x d Q r h hq
    exact ok_X10_putBy (d := d + 11) hS.2.1 h hq
  · intro l x d Q r h hq
    exact ok_X11_putBy (d := d + 12) hS.2.2.1 h hq
theorem pr_spent (hn : 1000 ≤ n) (hS : SH S A m) (hR : R2 b S A m M M) (v1 : Int32) : PAIR b 0 A m S M sgX10_spent sgX11_spent [.ref A, .int v1] [.ref m, .int v1] := by
  obtain ⟨L3, L2, g⟩ := R2_G hR
  refine mk_rd hS hR (F_X10_spent n A v1 M) (F_X11_spent n m v1 M) ?_ ?_ (rd_spent g v1)
  · intro l x d Q r h hq
    exact ok_X10_spent (d := d + 12) hS.2.1 h hq
  · intro l x d Q r h hq
    exact ok_X11_spent (d := d + 12) hS.2.2.1 h hq
theorem pr_seenOf (hn : 1000 ≤ n) (hS : SH S A m) (hR : R2 b S A m M M) (v1 v2 : Int32) : PAIR b 0 A m S M sgX10_seenOf sgX11_seenOf [.ref A, .int v1, .int v2] [.ref m, .int v1, .int v2] := by
  obtain ⟨L3, L2, g⟩ := R2_G hR
  refine mk_rd hS hR (F_X10_seenOf n A v1 v2 M) (F_X11_seenOf n m v1 v2 M) ?_ ?_ (rd_seenOf g v1 v2)
  · intro l x d Q r h hq
    exact ok_X10_seenOf (d := d + 11) hS.2.1 h hq
  · intro l x d Q r h hq
    exact ok_X11_seenOf (d := d + 12) hS.2.2.1 h hq
theorem pr_isOpen (hn : 1000 ≤ n) (hS : SH S A m) (hR : R2 b S A m M M) (v1 : Int32) : PAIR b 0 A m S M sgX10_isOpen sgX11_isOpen [.ref A, .int v1] [.ref m, .int v1] := by
  obtain ⟨L3, L2, g⟩ := R2_G hR
  refine mk_rd hS hR (F_X10_isOpen n A v1 M) (F_X11_isOpen n m v1 M) ?_ ?_ (rd_isOpen g v1)
  · intro l x d Q r h hq
    exact ok_X10_isOpen (d := d + 12) hS.2.1 h (fun _ => hq)
  · intro l x d Q r h hq
    exact ok_X11_isOpen (d := d + 11) hS.2.2.1 h (fun _ => hq)
theorem pr_taken (hn : 1000 ≤ n) (hS : SH S A m) (hR : R2 b S A m M M) (v1 : Int32) : PAIR b 0 A m S M sgX10_taken sgX11_taken [.ref A, .int v1] [.ref m, .int v1] := by
  obtain ⟨L3, L2, g⟩ := R2_G hR
  refine mk_rd hS hR (F_X10_taken n A v1 M) (F_X11_taken n m v1 M) ?_ ?_ (rd_taken g v1)
  · intro l x d Q r h hq
    exact ok_X10_taken (d := d + 12) hS.2.1 h hq
  · intro l x d Q r h hq
    exact ok_X11_taken (d := d + 11) hS.2.2.1 h hq
theorem pr_longest (hn : 1000 ≤ n) (hS : SH S A m) (hR : R2 b S A m M M) (v1 : Int32) : PAIR b 0 A m S M sgX10_longest sgX11_longest [.ref A, .int v1] [.ref m, .int v1] := by
  obtain ⟨L3, L2, g⟩ := R2_G hR
  refine mk_rd hS hR (F_X10_longest n A v1 M) (F_X11_longest n m v1 M) ?_ ?_ (rd_longest g v1)
  · intro l x d Q r h hq
    exact ok_X10_longest (d := d + 12) hS.2.1 h hq
  · intro l x d Q r h hq
    exact ok_X11_longest (d := d + 11) hS.2.2.1 h hq
theorem pr_pendingFor (hn : 1000 ≤ n) (hS : SH S A m) (hR : R2 b S A m M M) (v1 v2 : Int32) : PAIR b 0 A m S M sgX10_pendingFor sgX11_pendingFor [.ref A, .int v1, .int v2] [.ref m, .int v1, .int v2] := by
  obtain ⟨L3, L2, g⟩ := R2_G hR
  refine mk_rd hS hR (F_X10_pendingFor n A v1 v2 M) (F_X11_pendingFor n m v1 v2 M) ?_ ?_ (rd_pendingFor g v1 v2)
  · intro l x d Q r h hq
    exact ok_X10_pendingFor (d := d + 11) hS.2.1 h hq
  · intro l x d Q r h hq
    exact ok_X11_pendingFor (d := d + 11) hS.2.2.1 h hq
theorem pr_clock (hn : 1000 ≤ n) (hS : SH S A m) (hR : R2 b S A m M M) (v1 : Int32) : PAIR b 0 A m S M sgX10_clock sgX11_clock [.ref A, .int v1] [.ref m, .int v1] := by
  obtain ⟨L3, L2, g⟩ := R2_G hR
  refine mk_rd hS hR (F_X10_clock n A v1 M) (F_X11_clock n m v1 M) ?_ ?_ (rd_clock hn g v1)
  · intro l x d Q r h hq
    exact ok_X10_clock (d := d + 10) hS.2.1 h hq
  · intro l x d Q r h hq
    exact ok_X11_clock (d := d + 11) hS.2.2.1 h hq
theorem pr_timed (hn : 1000 ≤ n) (hS : SH S A m) (hR : R2 b S A m M M) (v1 v2 : Int32) : PAIR b 0 A m S M sgX10_timed sgX11_timed [.ref A, .int v1, .int v2] [.ref m, .int v1, .int v2] := by
  obtain ⟨L3, L2, g⟩ := R2_G hR
  refine mk_rd hS hR (F_X10_timed n A v1 v2 M) (F_X11_timed n m v1 v2 M) ?_ ?_ (rd_timed hn g v1 v2)
  · intro l x d Q r h hq
    exact ok_X10_timed (d := d + 9) hS.2.1 h hq
  · intro l x d Q r h hq
    exact ok_X11_timed (d := d + 9) hS.2.2.1 h hq
theorem pr_first (hn : 1000 ≤ n) (hS : SH S A m) (hR : R2 b S A m M M) : PAIR b 0 A m S M sgX10_first sgX11_first [.ref A] [.ref m] := by
  obtain ⟨L3, L2, g⟩ := R2_G hR
  refine mk_rd hS hR (F_X10_first n A M) (F_X11_first n m M) ?_ ?_ (rd_first hn g)
  · intro l x d Q r h hq
    exact ok_X10_first (d := d + 8) hS.2.1 h hq
  · intro l x d Q r h hq
    exact ok_X11_first (d := d + 9) hS.2.2.1 h hq
theorem pr_program (hn : 1000 ≤ n) (hS : SH S A m) (hR : R2 b S A m M M) (v1 v2 v3 : Int32) : PAIR b 0 A m S M sgX10_program sgX11_program [.ref A, .int v1, .int v2, .int v3] [.ref m, .int v1, .int v2, .int v3] := by
  obtain ⟨L3, L2, g⟩ := R2_G hR
  refine mk_rd hS hR (F_X10_program n A v1 v2 v3 M) (F_X11_program n m v1 v2 v3 M) ?_ ?_ (rd_program g v1 v2 v3)
  · intro l x d Q r h hq
    exact ok_X10_program (d := d + 12) hS.2.1 h hq
  · intro l x d Q r h hq
    exact ok_X11_program (d := d + 11) hS.2.2.1 h hq
theorem pr_steps (hn : 1000 ≤ n) (hS : SH S A m) (hR : R2 b S A m M M) : PAIR b 0 A m S M sgX10_steps sgX11_steps [.ref A] [.ref m] := by
  refine mk_rd hS hR (F_X10_steps n A M) (F_X11_steps n m M) ?_ ?_ (rd_steps hR)
  · intro l x d Q r h hq
    exact ok_X10_steps (d := d + 13) hS.2.1 h hq
  · intro l x d Q r h hq
    exact ok_X11_steps (d := d + 13) hS.2.2.1 h hq
end PAIRS2
