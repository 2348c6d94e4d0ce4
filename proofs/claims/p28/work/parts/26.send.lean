section SEND
variable {L : Nat} {xs : Nat → Int32} {d : Nat} {hp : AH} {M : MS} {n c f : Nat}
/-- a thing is sent -/
theorem s_send (hR : Rep hp M) (hn : n < 2) (hc : c < 4) {clk dl : Nat} (hk : gV M 0 n 0 0 0 = nI clk) (hd : gV M 1 n c 0 4 = nI dl) (hb : clk + dl < 2 ^ 31) (hl : (gT M 2 n ((clk + dl) % 9)).length < 65536) (x1 x2 x4 x5 x6 : Int32) : WM L xs (d + 2) mX2_send [.ref (xi 0 n 0 0), .int x1, .int (nI c), .int x2, .int x4, .int x5, .int x6] hp (fun v hp' => v = none ∧ ∃ q : Row, q 0 = nI c ∧ q 1 = x1 ∧ q 2 = x2 ∧ q 3 = nI (clk + dl) ∧ q 4 = x4 ∧ q 5 = x5 ∧ q 6 = x6 ∧ (q 7 = 1 → ¬ gV M 1 n c 0 6 = 0) ∧ Rep hp' (snd M n ((clk + dl) % 9) q)) := by
  have hk9 : (clk + dl) % 9 < 9 := Nat.mod_lt _ (by decide)
  refine WM.of [some (.ref _), some (.int x1), some (.int (nI c)), some (.int x2), some (.int x4), some (.int x5), some (.int x6), none, none, none] (by decide) rfl (Nat.le_of_ble_eq_true rfl) ?_
  refine wp_aload_n (i := 0) dX2_send_0 rfl rfl ?_
  refine wr_get (g := 0) (n := n) (a := 0) (b := 0) (k := 0) dX2_send_1 hR f_X2_62 (vs0 hn (by decide)) (by decide) (by decide) ?_
  refine wp_aload_n (i := 0) dX2_send_4 rfl rfl ?_
  refine wr_netR (j := rC n) dX2_send_5 hR f_X2_23 hn (Or.inl ⟨rfl, rfl⟩) ?_
  refine wp_iload_n (i := 2) dX2_send_8 rfl rfl ?_
  refine wr_aC (c := c) dX2_send_9 hR rfl hn hc ?_
  refine wr_get (g := 1) (n := n) (a := c) (b := 0) (k := 4) dX2_send_10 hR f_X2_47 (vs1 hn hc (by decide)) (by decide) (by decide) ?_
  refine wp_iadd dX2_send_13 ?_
  rw [hk, hd, nI_add]
  refine wp_istore dX2_send_14 (Nat.le_of_ble_eq_true rfl) ?_
  refine wp_aload_n (i := 0) dX2_send_16 rfl rfl ?_
  refine wp_iload dX2_send_17 rfl ?_
  refine wp_callV (N := mX2_slotAt) (as := [.int (nI (clk + dl))]) dX2_send_19 l_X2_65 v_X2_slotAt rfl (hR.oo (vs0 hn (k := 0) (by decide)) (by decide)) rfl (by decide) (s_slotAt hR hn hb) (fun v hp1 hq => ?_)
  obtain ⟨rfl, rfl⟩ := hq
  refine wp_astore dX2_send_22 (Nat.le_of_ble_eq_true rfl) ?_
  refine wp_aload dX2_send_24 rfl ?_
  refine wp_callV (N := mX4_addRow) (as := []) dX2_send_26 l_X2_74 v_X4_addRow rfl (hR.oT (vt2 hn hk9)) rfl (by decide) (s_addRow hR (vt2 hn hk9) hl) (fun v hp1 hq => ?_)
  obtain ⟨rfl, q0, hR0⟩ := hq
  refine wp_istore dX2_send_29 (Nat.le_of_ble_eq_true rfl) ?_
  refine wp_aload dX2_send_31 rfl ?_
  refine wp_iload dX2_send_33 rfl ?_
  refine wp_iconst (v := 0) dX2_send_35 rfl ?_
  refine wp_iload_n (i := 2) dX2_send_36 rfl rfl ?_
  refine wp_callV (N := mX4_put) (as := [.int (nI (gT M 2 n ((clk + dl) % 9)).length), .int (nI 0), .int (nI c)]) dX2_send_37 l_X2_78 v_X4_put rfl (hR0.oT (vt2 hn hk9)) rfl (by decide) (s_putLast hR0 (vt2 hn hk9) (c := 0) (by decide) (nI c)) (fun v hp1 hq => ?_)
  obtain ⟨rfl, hR1⟩ := hq
  refine wp_aload dX2_send_40 rfl ?_
  refine wp_iload dX2_send_42 rfl ?_
  refine wp_iconst (v := 1) dX2_send_44 rfl ?_
  refine wp_iload_n (i := 1) dX2_send_45 rfl rfl ?_
  refine wp_callV (N := mX4_put) (as := [.int (nI (gT M 2 n ((clk + dl) % 9)).length), .int (nI 1), .int x1]) dX2_send_46 l_X2_78 v_X4_put rfl (hR1.oT (vt2 hn hk9)) rfl (by decide) (s_putLast hR1 (vt2 hn hk9) (c := 1) (by decide) x1) (fun v hp1 hq => ?_)
  obtain ⟨rfl, hR2⟩ := hq
  refine wp_aload dX2_send_49 rfl ?_
  refine wp_iload dX2_send_51 rfl ?_
  refine wp_iconst (v := 2) dX2_send_53 rfl ?_
  refine wp_iload_n (i := 3) dX2_send_54 rfl rfl ?_
  refine wp_callV (N := mX4_put) (as := [.int (nI (gT M 2 n ((clk + dl) % 9)).length), .int (nI 2), .int x2]) dX2_send_55 l_X2_78 v_X4_put rfl (hR2.oT (vt2 hn hk9)) rfl (by decide) (s_putLast hR2 (vt2 hn hk9) (c := 2) (by decide) x2) (fun v hp1 hq => ?_)
  obtain ⟨rfl, hR3⟩ := hq
  refine wp_aload dX2_send_58 rfl ?_
  refine wp_iload dX2_send_60 rfl ?_
  refine wp_iconst (v := 3) dX2_send_62 rfl ?_
  refine wp_iload dX2_send_63 rfl ?_
  refine wp_callV (N := mX4_put) (as := [.int (nI (gT M 2 n ((clk + dl) % 9)).length), .int (nI 3), .int (nI (clk + dl))]) dX2_send_65 l_X2_78 v_X4_put rfl (hR3.oT (vt2 hn hk9)) rfl (by decide) (s_putLast hR3 (vt2 hn hk9) (c := 3) (by decide) (nI (clk + dl))) (fun v hp1 hq => ?_)
  obtain ⟨rfl, hR4⟩ := hq
  refine wp_aload dX2_send_68 rfl ?_
  refine wp_iload dX2_send_70 rfl ?_
  refine wp_iconst (v := 4) dX2_send_72 rfl ?_
  refine wp_iload dX2_send_73 rfl ?_
  refine wp_callV (N := mX4_put) (as := [.int (nI (gT M 2 n ((clk + dl) % 9)).length), .int (nI 4), .int x4]) dX2_send_75 l_X2_78 v_X4_put rfl (hR4.oT (vt2 hn hk9)) rfl (by decide) (s_putLast hR4 (vt2 hn hk9) (c := 4) (by decide) x4) (fun v hp1 hq => ?_)
  obtain ⟨rfl, hR5⟩ := hq
  refine wp_aload dX2_send_78 rfl ?_
  refine wp_iload dX2_send_80 rfl ?_
  refine wp_iconst (v := 5) dX2_send_82 rfl ?_
  refine wp_iload dX2_send_83 rfl ?_
  refine wp_callV (N := mX4_put) (as := [.int (nI (gT M 2 n ((clk + dl) % 9)).length), .int (nI 5), .int x5]) dX2_send_85 l_X2_78 v_X4_put rfl (hR5.oT (vt2 hn hk9)) rfl (by decide) (s_putLast hR5 (vt2 hn hk9) (c := 5) (by decide) x5) (fun v hp1 hq => ?_)
  obtain ⟨rfl, hR6⟩ := hq
  refine wp_aload dX2_send_88 rfl ?_
  refine wp_iload dX2_send_90 rfl ?_
  refine wp_bipush (v := nI 6) dX2_send_92 (by decide) ?_
  refine wp_iload dX2_send_94 rfl ?_
  refine wp_callV (N := mX4_put) (as := [.int (nI (gT M 2 n ((clk + dl) % 9)).length), .int (nI 6), .int x6]) dX2_send_96 l_X2_78 v_X4_put rfl (hR6.oT (vt2 hn hk9)) rfl (by decide) (s_putLast hR6 (vt2 hn hk9) (c := 6) (by decide) x6) (fun v hp1 hq => ?_)
  obtain ⟨rfl, hR7⟩ := hq
  refine wp_aload dX2_send_99 rfl ?_
  refine wp_iload dX2_send_101 rfl ?_
  refine wp_bipush (v := nI 7) dX2_send_103 (by decide) ?_
  refine wp_aload_n (i := 0) dX2_send_105 rfl rfl ?_
  refine wr_netR (j := rC n) dX2_send_106 hR7 f_X2_23 hn (Or.inl ⟨rfl, rfl⟩) ?_
  refine wp_iload_n (i := 2) dX2_send_109 rfl rfl ?_
  refine wr_aC (c := c) dX2_send_110 hR7 rfl hn hc ?_
  refine wr_get (g := 1) (n := n) (a := c) (b := 0) (k := 6) dX2_send_111 hR7 f_X2_82 (vs1 hn hc (by decide)) (by decide) (by decide) ?_
  refine wp_if_eq (tgt := 121) dX2_send_114 (by decide) (fun c114 => ?_) (fun c114 => ?_)
  · skip
    refine wp_iconst (v := 0) dX2_send_121 rfl ?_
    refine wp_callV (N := mX4_put) (as := [.int (nI (gT M 2 n ((clk + dl) % 9)).length), .int (nI 7), .int 0]) dX2_send_122 l_X2_78 v_X4_put rfl (hR7.oT (vt2 hn hk9)) rfl (by decide) (s_putLast hR7 (vt2 hn hk9) (c := 7) (by decide) 0) (fun v hp1 hq => ?_)
    obtain ⟨rfl, hR8⟩ := hq
    refine wp_ret (v := none) dX2_send_125 rfl ?_
    exact ⟨trivial, rfl, _, rfl, rfl, rfl, rfl, rfl, rfl, rfl, fun q9 => absurd q9 (show ¬ (0 : Int32) = 1 by decide), hR8⟩
  · skip
    refine wp_iconst (v := 1) dX2_send_117 rfl ?_
    refine wp_goto (tgt := 122) dX2_send_118 (by decide) ?_
    refine wp_callV (N := mX4_put) (as := [.int (nI (gT M 2 n ((clk + dl) % 9)).length), .int (nI 7), .int 1]) dX2_send_122 l_X2_78 v_X4_put rfl (hR7.oT (vt2 hn hk9)) rfl (by decide) (s_putLast hR7 (vt2 hn hk9) (c := 7) (by decide) 1) (fun v hp1 hq => ?_)
    obtain ⟨rfl, hR8⟩ := hq
    refine wp_ret (v := none) dX2_send_125 rfl ?_
    exact ⟨trivial, rfl, _, rfl, rfl, rfl, rfl, rfl, rfl, rfl, fun _ => c114, hR8⟩
end SEND
