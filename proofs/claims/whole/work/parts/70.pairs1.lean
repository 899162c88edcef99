/-! ===== the calls that are steps, both sides ===== -/
section PAIRS1
variable {b A m n : Nat} {S : gw_S} {M : gw_M}
theorem pr_room (hn : 1000 ≤ n) (hS : SH S A m) (hR : R2 b S A m M M) (hb : b + 8100 < 2 ^ 28) (v1 : Int32) : PAIR b 8100 A m S M sgX10_room sgX11_room [.ref A, .int v1] [.ref m, .int v1] := by
  refine mk_push (n := n) hn hS hR hb (fun pu => F_X10_room n A v1 M pu) (fun s => F_X11_room n m v1 s) ?_ ?_ ?_
  · intro l x d mc ms Sp Q pu r μ' bb hmo hpu h hq
    exact ok_X10_room (d := d) hmo hpu hS.2.1 h (fun _ => hq)
  · intro l x d S' Q s r s' h11 h hq
    exact ok_X11_room (d := d + 8) h11 h (fun _ => hq)
  · intro pu s s1 g0 g1 hk hnow
    exact hs_room hn hb g1 hk v1
theorem pr_foldAhead (hn : 1000 ≤ n) (hS : SH S A m) (hR : R2 b S A m M M) (hb : b + 8100 < 2 ^ 28) : PAIR b 8100 A m S M sgX10_foldAhead sgX11_foldAhead [.ref A] [.ref m] := by
  refine mk_push (n := n) hn hS hR hb (fun pu => F_X10_foldAhead n A M pu) (fun s => F_X11_foldAhead n m s) ?_ ?_ ?_
  · intro l x d mc ms Sp Q pu r μ' bb hmo hpu h hq
    exact ok_X10_foldAhead (d := d) hmo hpu hS.2.1 h hq
  · intro l x d S' Q s r s' h11 h hq
    exact ok_X11_foldAhead (d := d + 8) h11 h hq
  · intro pu s s1 g0 g1 hk hnow
    exact hs_foldAhead hn hb g1 hk
theorem pr_join (hn : 1000 ≤ n) (hS : SH S A m) (hR : R2 b S A m M M) (hb : b + 8100 < 2 ^ 28) : PAIR b 8100 A m S M sgX10_join sgX11_join [.ref A] [.ref m] := by
  refine mk_push (n := n) hn hS hR hb (fun pu => F_X10_join n A M pu) (fun s => F_X11_join n m s) ?_ ?_ ?_
  · intro l x d mc ms Sp Q pu r μ' bb hmo hpu h hq
    exact ok_X10_join (d := d) hmo hpu hS.2.1 h hq
  · intro l x d S' Q s r s' h11 h hq
    exact ok_X11_join (d := d + 7) h11 h hq
  · intro pu s s1 g0 g1 hk hnow
    exact hs_join hn hb g1 hk
theorem pr_trapPlace (hn : 1000 ≤ n) (hS : SH S A m) (hR : R2 b S A m M M) (hb : b + 8100 < 2 ^ 28) (v1 : Int32) : PAIR b 8100 A m S M sgX10_trapPlace sgX11_trapPlace [.ref A, .int v1] [.ref m, .int v1] := by
  refine mk_push (n := n) hn hS hR hb (fun pu => F_X10_trapPlace n A v1 M pu) (fun s => F_X11_trapPlace n m v1 s) ?_ ?_ ?_
  · intro l x d mc ms Sp Q pu r μ' bb hmo hpu h hq
    exact ok_X10_trapPlace (d := d) hmo hpu hS.2.1 h (fun _ => hq)
  · intro l x d S' Q s r s' h11 h hq
    exact ok_X11_trapPlace (d := d + 9) h11 h (fun _ => hq)
  · intro pu s s1 g0 g1 hk hnow
    exact hs_trapPlace hn hb g1 hk v1
theorem pr_want (hn : 1000 ≤ n) (hS : SH S A m) (hR : R2 b S A m M M) (hb : b + 8100 < 2 ^ 28) (v1 v2 : Int32) : PAIR b 8100 A m S M sgX10_want sgX11_want [.ref A, .int v1, .int v2] [.ref m, .int v1, .int v2] := by
  refine mk_push (n := n) hn hS hR hb (fun pu => F_X10_want n A v1 v2 M pu) (fun s => F_X11_want n m v1 v2 s) ?_ ?_ ?_
  · intro l x d mc ms Sp Q pu r μ' bb hmo hpu h hq
    exact ok_X10_want (d := d) hmo hpu hS.2.1 h (fun _ => hq)
  · intro l x d S' Q s r s' h11 h hq
    exact ok_X11_want (d := d + 9) h11 h (fun _ => hq)
  · intro pu s s1 g0 g1 hk hnow
    exact hs_want hn hb g0 g1 hk v1 v2
theorem pr_event (hn : 1000 ≤ n) (hS : SH S A m) (hR : R2 b S A m M M) (hb : b + 8100 < 2 ^ 28) (v1 : Int32) : PAIR b 8100 A m S M sgX10_event sgX11_event [.ref A, .int v1] [.ref m, .int v1] := by
  refine mk_push (n := n) hn hS hR hb (fun pu => F_X10_event n A v1 M pu) (fun s => F_X11_event n m v1 s) ?_ ?_ ?_
  · intro l x d mc ms Sp Q pu r μ' bb hmo hpu h hq
    exact ok_X10_event (d := d) hmo hpu hS.2.1 h hq
  · intro l x d S' Q s r s' h11 h hq
    exact ok_X11_event (d := d + 9) h11 h hq
  · intro pu s s1 g0 g1 hk hnow
    exact hs_event hn hb g1 hk v1
theorem pr_enter (hn : 1000 ≤ n) (hS : SH S A m) (hR : R2 b S A m M M) (hb : b + 8100 < 2 ^ 28) : PAIR b 8100 A m S M sgX10_enter sgX11_enter [.ref A] [.ref m] := by
  refine mk_push (n := n) hn hS hR hb (fun pu => F_X10_enter n A M pu) (fun s => F_X11_enter n m s) ?_ ?_ ?_
  · intro l x d mc ms Sp Q pu r μ' bb hmo hpu h hq
    exact ok_X10_enter (d := d) hmo hpu hS.2.1 h (fun _ => hq)
  · intro l x d S' Q s r s' h11 h hq
    exact ok_X11_enter (d := d + 9) h11 h (fun _ => hq)
  · intro pu s s1 g0 g1 hk hnow
    exact hs_enter hn hb g0 g1 hk
theorem pr_open (hn : 1000 ≤ n) (hS : SH S A m) (hR : R2 b S A m M M) (hb : b + 8100 < 2 ^ 28) (v1 v2 : Int32) (hz2 : v2 = 0 ∨ v2 = 1) : PAIR b 8100 A m S M sgX10_open sgX11_open [.ref A, .int v1, .int v2] [.ref m, .int v1, .int v2] := by
  refine mk_push (n := n) hn hS hR hb (fun pu => F_X10_open n A v1 v2 M pu) (fun s => F_X11_open n m v1 v2 s) ?_ ?_ ?_
  · intro l x d mc ms Sp Q pu r μ' bb hmo hpu h hq
    exact ok_X10_open (d := d) hmo hpu hS.2.1 hz2 h (fun _ => hq)
  · intro l x d S' Q s r s' h11 h hq
    exact ok_X11_open (d := d + 9) h11 hz2 h (fun _ => hq)
  · intro pu s s1 g0 g1 hk hnow
    exact hs_open hn hb g1 hk v1 v2 hz2
theorem pr_finish (hn : 1000 ≤ n) (hS : SH S A m) (hR : R2 b S A m M M) (hb : b + 8100 < 2 ^ 28) : PAIR b 8100 A m S M sgX10_finish sgX11_finish [.ref A] [.ref m] := by
  refine mk_push (n := n) hn hS hR hb (fun pu => F_X10_finish n A M pu) (fun s => F_X11_finish n m s) ?_ ?_ ?_
  · intro l x d mc ms Sp Q pu r μ' bb hmo hpu h hq
    exact ok_X10_finish (d := d) hmo hpu hS.2.1 h hq
  · intro l x d S' Q s r s' h11 h hq
    exact ok_X11_finish (d := d + 9) h11 h hq
  · intro pu s s1 g0 g1 hk hnow
    exact hs_finish hn hb g0 g1 hk hnow
theorem pr_hand (hn : 1000 ≤ n) (hS : SH S A m) (hR : R2 b S A m M M) (hb : b + 8100 < 2 ^ 28) (v1 : Int32) : PAIR b 8100 A m S M sgX10_hand sgX11_hand [.ref A, .int v1] [.ref m, .int v1] := by
  refine mk_push (n := n) hn hS hR hb (fun pu => F_X10_hand n A v1 M pu) (fun s => F_X11_hand n m v1 s) ?_ ?_ ?_
  · intro l x d mc ms Sp Q pu r μ' bb hmo hpu h hq
    exact ok_X10_hand (d := d) hmo hpu hS.2.1 h (fun _ => hq)
  · intro l x d S' Q s r s' h11 h hq
    exact ok_X11_hand (d := d + 7) h11 h (fun _ => hq)
  · intro pu s s1 g0 g1 hk hnow
    exact hs_hand hn hb g0 g1 hk v1
theorem pr_slice (hn : 1000 ≤ n) (hS : SH S A m) (hR : R2 b S A m M M) (hb : b + 8100 < 2 ^ 28) (v1 : Int32) : PAIR b 8100 A m S M sgX10_slice sgX11_slice [.ref A, .int v1] [.ref m, .int v1] := by
  refine mk_push (n := n) hn hS hR hb (fun pu => F_X10_slice n A v1 M pu) (fun s => F_X11_slice n m v1 s) ?_ ?_ ?_
  · intro l x d mc ms Sp Q pu r μ' bb hmo hpu h hq
    exact ok_X10_slice (d := d) hmo hpu hS.2.1 h (fun _ => hq)
  · intro l x d S' Q s r s' h11 h hq
    exact ok_X11_slice (d := d + 9) h11 h (fun _ => hq)
  · intro pu s s1 g0 g1 hk hnow
    exact hs_slice hn hb g1 hk v1
theorem pr_forget (hn : 1000 ≤ n) (hS : SH S A m) (hR : R2 b S A m M M) (hb : b + 8100 < 2 ^ 28) : PAIR b 8100 A m S M sgX10_forget sgX11_forget [.ref A] [.ref m] := by
  refine mk_push (n := n) hn hS hR hb (fun pu => F_X10_forget n A M pu) (fun s => F_X11_forget n m s) ?_ ?_ ?_
  · intro l x d mc ms Sp Q pu r μ' bb hmo hpu h hq
    exact ok_X10_forget (d := d) hmo hpu hS.2.1 h hq
  · intro l x d S' Q s r s' h11 h hq
    exact ok_X11_forget (d := d + 9) h11 h hq
  · intro pu s s1 g0 g1 hk hnow
    exact hs_forget hn hb g1 hk
theorem pr_handler (hn : 1000 ≤ n) (hS : SH S A m) (hR : R2 b S A m M M) (hb : b + 8100 < 2 ^ 28) (v1 v2 : Int32) : PAIR b 8100 A m S M sgX10_handler sgX11_handler [.ref A, .int v1, .int v2] [.ref m, .int v1, .int v2] := by
  refine mk_push (n := n) hn hS hR hb (fun pu => F_X10_handler n A v1 v2 M pu) (fun s => F_X11_handler n m v1 v2 s) ?_ ?_ ?_
  · intro l x d mc ms Sp Q pu r μ' bb hmo hpu h hq
    exact ok_X10_handler (d := d) hmo hpu hS.2.1 h (fun _ => hq)
  · intro l x d S' Q s r s' h11 h hq
    exact ok_X11_handler (d := d + 9) h11 h (fun _ => hq)
  · intro pu s s1 g0 g1 hk hnow
    exact hs_handler hn hb g1 hk v1 v2
theorem pr_cancel (hn : 1000 ≤ n) (hS : SH S A m) (hR : R2 b S A m M M) (hb : b + 8100 < 2 ^ 28) (v1 : Int32) : PAIR b 8100 A m S M sgX10_cancel sgX11_cancel [.ref A, .int v1] [.ref m, .int v1] := by
  refine mk_push (n := n) hn hS hR hb (fun pu => F_X10_cancel n A v1 M pu) (fun s => F_X11_cancel n m v1 s) ?_ ?_ ?_
  · intro l x d mc ms Sp Q pu r μ' bb hmo hpu h hq
    exact ok_X10_cancel (d := d) hmo hpu hS.2.1 h (fun _ => hq)
  · intro l x d S' Q s r s' h11 h hq
    exact ok_X11_cancel (d := d + 9) h11 h (fun _ => hq)
  · intro pu s s1 g0 g1 hk hnow
    exact hs_cancel hn hb g0 g1 hk hnow v1
theorem pr_timer (hn : 1000 ≤ n) (hS : SH S A m) (hR : R2 b S A m M M) (hb : b + 8100 < 2 ^ 28) (v1 v2 v3 : Int32) : PAIR b 8100 A m S M sgX10_timer sgX11_timer [.ref A, .int v1, .int v2, .int v3] [.ref m, .int v1, .int v2, .int v3] := by
  refine mk_push (n := n) hn hS hR hb (fun pu => F_X10_timer n A v1 v2 v3 M pu) (fun s => F_X11_timer n m v1 v2 v3 s) ?_ ?_ ?_
  · intro l x d mc ms Sp Q pu r μ' bb hmo hpu h hq
    exact ok_X10_timer (d := d) hmo hpu hS.2.1 h hq
  · intro l x d S' Q s r s' h11 h hq
    exact ok_X11_timer (d := d + 9) h11 h hq
  · intro pu s s1 g0 g1 hk hnow
    exact hs_timer hn hb g0 g1 hk hnow v1 v2 v3
theorem pr_send (hn : 1000 ≤ n) (hS : SH S A m) (hR : R2 b S A m M M) (hb : b + 8100 < 2 ^ 28) (v1 v2 : Int32) : PAIR b 8100 A m S M sgX10_send sgX11_send [.ref A, .int v1, .int v2] [.ref m, .int v1, .int v2] := by
  refine mk_push (n := n) hn hS hR hb (fun pu => F_X10_send n A v1 v2 M pu) (fun s => F_X11_send n m v1 v2 s) ?_ ?_ ?_
  · intro l x d mc ms Sp Q pu r μ' bb hmo hpu h hq
    exact ok_X10_send (d := d) hmo hpu hS.2.1 h (fun _ => hq)
  · intro l x d S' Q s r s' h11 h hq
    exact ok_X11_send (d := d + 9) h11 h (fun _ => hq)
  · intro pu s s1 g0 g1 hk hnow
    exact hs_send hn hb g0 g1 hk hnow v1 v2
theorem pr_scale (hn : 1000 ≤ n) (hS : SH S A m) (hR : R2 b S A m M M) (hb : b + 8100 < 2 ^ 28) (v1 v2 v3 : Int32) : PAIR b 8100 A m S M sgX10_scale sgX11_scale [.ref A, .int v1, .int v2, .int v3] [.ref m, .int v1, .int v2, .int v3] := by
  refine mk_push (n := n) hn hS hR hb (fun pu => F_X10_scale n A v1 v2 v3 M pu) (fun s => F_X11_scale n m v1 v2 v3 s) ?_ ?_ ?_
  · intro l x d mc ms Sp Q pu r μ' bb hmo hpu h hq
    exact ok_X10_scale (d := d) hmo hpu hS.2.1 h (fun _ => hq)
  · intro l x d S' Q s r s' h11 h hq
    exact ok_X11_scale (d := d + 9) h11 h (fun _ => hq)
  · intro pu s s1 g0 g1 hk hnow
    exact hs_scale hn hb g1 hk v1 v2 v3
theorem pr_wipe (hn : 1000 ≤ n) (hS : SH S A m) (hR : R2 b S A m M M) (hb : b + 8100 < 2 ^ 28) (v1 : Int32) : PAIR b 8100 A m S M sgX10_wipe sgX11_wipe [.ref A, .int v1] [.ref m, .int v1] := by
  refine mk_push (n := n) hn hS hR hb (fun pu => F_X10_wipe n A v1 M pu) (fun s => F_X11_wipe n m v1 s) ?_ ?_ ?_
  · intro l x d mc ms Sp Q pu r μ' bb hmo hpu h hq
    exact ok_X10_wipe (d := d) hmo hpu hS.2.1 h hq
  · intro l x d S' Q s r s' h11 h hq
    exact ok_X11_wipe (d := d + 9) h11 h hq
  · intro pu s s1 g0 g1 hk hnow
    exact hs_wipe hn hb g1 hk v1
theorem pr_act (hn : 1000 ≤ n) (hS : SH S A m) (hR : R2 b S A m M M) (hb : b + 8100 < 2 ^ 28) (v1 v2 v3 v4 : Int32) : PAIR b 8100 A m S M sgX10_act sgX11_act [.ref A, .int v1, .int v2, .int v3, .int v4] [.ref m, .int v1, .int v2, .int v3, .int v4] := by
  refine mk_push (n := n) hn hS hR hb (fun pu => F_X10_act n A v1 v2 v3 v4 M pu) (fun s => F_X11_act n m v1 v2 v3 v4 s) ?_ ?_ ?_
  · intro l x d mc ms Sp Q pu r μ' bb hmo hpu h hq
    exact ok_X10_act (d := d) hmo hpu hS.2.1 h hq
  · intro l x d S' Q s r s' h11 h hq
    exact ok_X11_act (d := d + 9) h11 h hq
  · intro pu s s1 g0 g1 hk hnow
    exact hs_act hn hb g0 g1 hk hnow v1 v2 v3 v4
theorem pr_touch (hn : 1000 ≤ n) (hS : SH S A m) (hR : R2 b S A m M M) (hb : b + 8100 < 2 ^ 28) (v1 v2 v3 : Int32) : PAIR b 8100 A m S M sgX10_touch sgX11_touch [.ref A, .int v1, .int v2, .int v3] [.ref m, .int v1, .int v2, .int v3] := by
  refine mk_push (n := n) hn hS hR hb (fun pu => F_X10_touch n A v1 v2 v3 M pu) (fun s => F_X11_touch n m v1 v2 v3 s) ?_ ?_ ?_
  · intro l x d mc ms Sp Q pu r μ' bb hmo hpu h hq
    exact ok_X10_touch (d := d) hmo hpu hS.2.1 h hq
  · intro l x d S' Q s r s' h11 h hq
    exact ok_X11_touch (d := d + 2) h11 h hq
  · intro pu s s1 g0 g1 hk hnow
    exact hs_touch hn hb g1 hk v1 v2 v3
theorem pr_pass (hn : 1000 ≤ n) (hS : SH S A m) (hR : R2 b S A m M M) (hb : b + 8100 < 2 ^ 28) (v1 : Int32) : PAIR b 8100 A m S M sgX10_pass sgX11_pass [.ref A, .int v1] [.ref m, .int v1] := by
  refine mk_push (n := n) hn hS hR hb (fun pu => F_X10_pass n A v1 M pu) (fun s => F_X11_pass n m v1 s) ?_ ?_ ?_
  · intro l x d mc ms Sp Q pu r μ' bb hmo hpu h hq
    exact ok_X10_pass (d := d) hmo hpu hS.2.1 h hq
  · intro l x d S' Q s r s' h11 h hq
    exact ok_X11_pass (d := d + 8) h11 h hq
  · intro pu s s1 g0 g1 hk hnow
    exact hs_pass hn hb g0 g1 hk hnow v1
theorem pr_run (hn : 1000 ≤ n) (hS : SH S A m) (hR : R2 b S A m M M) (hb : b + 8100 < 2 ^ 28) (v1 : Int32) : PAIR b 8100 A m S M sgX10_run sgX11_run [.ref A, .int v1] [.ref m, .int v1] := by
  refine mk_push (n := n) hn hS hR hb (fun pu => F_X10_run n A v1 M pu) (fun s => F_X11_run n m v1 s) ?_ ?_ ?_
  · intro l x d mc ms Sp Q pu r μ' bb hmo hpu h hq
    exact ok_X10_run (d := d) hmo hpu hS.2.1 h hq
  · intro l x d S' Q s r s' h11 h hq
    exact ok_X11_run (d := d) h11 h hq
  · intro pu s s1 g0 g1 hk hnow
    exact hs_run hn hb g0 g1 hk hnow v1
theorem pr_entry (hn : 1000 ≤ n) (hS : SH S A m) (hR : R2 b S A m M M) (hb : b + 8100 < 2 ^ 28) (v1 v2 v3 v4 : Int32) : PAIR b 8100 A m S M sgX10_entry sgX11_entry [.ref A, .int v1, .int v2, .int v3, .int v4] [.ref m, .int v1, .int v2, .int v3, .int v4] := by
  refine mk_push (n := n) hn hS hR hb (fun pu => F_X10_entry n A v1 v2 v3 v4 M pu) (fun s => F_X11_entry n m v1 v2 v3 v4 s) ?_ ?_ ?_
  · intro l x d mc ms Sp Q pu r μ' bb hmo hpu h hq
    exact ok_X10_entry (d := d) hmo hpu hS.2.1 h (fun _ => hq)
  · intro l x d S' Q s r s' h11 h hq
    exact ok_X11_entry (d := d + 6) h11 h (fun _ => hq)
  · intro pu s s1 g0 g1 hk hnow
    exact hs_entry hn hb g0 g1 hk v1 v2 v3 v4
theorem pr_clear (hn : 1000 ≤ n) (hS : SH S A m) (hR : R2 b S A m M M) (hb : b + 8100 < 2 ^ 28) (v1 v2 : Int32) : PAIR b 8100 A m S M sgX10_clear sgX11_clear [.ref A, .int v1, .int v2] [.ref m, .int v1, .int v2] := by
  refine mk_push (n := n) hn hS hR hb (fun pu => F_X10_clear n A v1 v2 M pu) (fun s => F_X11_clear n m v1 v2 s) ?_ ?_ ?_
  · intro l x d mc ms Sp Q pu r μ' bb hmo hpu h hq
    exact ok_X10_clear (d := d) hmo hpu hS.2.1 h (fun _ => hq)
  · intro l x d S' Q s r s' h11 h hq
    exact ok_X11_clear (d := d + 6) h11 h (fun _ => hq)
  · intro pu s s1 g0 g1 hk hnow
    exact hs_clear hn hb g0 g1 hk v1 v2
end PAIRS1
