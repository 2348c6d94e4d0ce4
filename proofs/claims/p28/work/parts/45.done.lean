/-! ===== IronbridgeCache: what is done ===== -/
section CACHE2
variable {L : Nat} {xs : Nat → Int32} {d : Nat} {hp : AH} {M : MS} {zB tB clk cc K : Nat} {D : Nat → Nat} {ev : Bool} {c f p : Nat}
theorem MR.e0 {M M' : MS} {n clk : Nat} (h : MR M M' n clk) (hE : gT M 2 n (clk % 9) = []) : gT M' 2 n (clk % 9) = [] := by rw [h.2]; exact hE
/-- one tick -/
theorem s_tick (h : S0 hp M zB tB clk cc K D ev) (hb : clk + 1 < 1000) : WM L xs (d + 7) mX5_tick [.ref 1, .int (nI 1)] hp (fun v hp' => ∃ M', S0 hp' M' zB tB (clk + 1) cc K D ev ∧ FR M M' 0 ∧ v = some (.int (nI (TN M' 0 9)))) := by
  have hR := h.1.1
  obtain ⟨b1, b2, b3, b4, b5⟩ := h.1.2.2.1.1
  refine WM.of [some (.ref _), some (.int (nI 1)), none] (by decide) rfl (Nat.le_of_ble_eq_true rfl) ?_
  refine wp_iload_n (i := 1) dX5_tick_0 rfl rfl ?_
  refine wp_bipush (v := nI 60) dX5_tick_1 (by decide) ?_
  refine wp_callS (N := mX5_checkTicks) (as := [.int (nI 1), .int (nI 60)]) dX5_tick_3 (by first | exact Or.inl l_X5_97 | exact Or.inr n_X5_97 | exact l_X5_97) v_X5_checkTicks rfl rfl (by decide) (s_checkTicks (p := 1) (q := 60) (by decide) (by decide) (by decide)) (fun v hp9 hq => ?_)
  obtain ⟨rfl, rfl⟩ := hq
  refine wp_iconst (v := 0) dX5_tick_6 rfl ?_
  refine wp_istore_n (i := 2) dX5_tick_7 rfl (Nat.le_of_ble_eq_true rfl) ?_
  refine wp_iload_n (i := 2) dX5_tick_8 rfl rfl ?_
  refine wp_iload_n (i := 1) dX5_tick_9 rfl rfl ?_
  refine wp_icmp_ge (tgt := 26) dX5_tick_10 (by decide) (fun c10 => ?_) (fun c10 => ?_)
  · skip
    exact absurd (show nI 0 < nI 1 by decide) c10
  · skip
    refine wp_aload_n (i := 0) dX5_tick_13 rfl rfl ?_
    refine wr_net dX5_tick_14 hR f_X5_10 ?_
    refine wp_callV (N := mX2_passTick) (as := []) dX5_tick_17 l_X5_100 v_X2_passTick rfl (hR.oo (vs0 (n := 0) (by decide) (k := 0) (by decide)) (by decide)) rfl (by decide) (s_passTick h.1 (by decide) h.2 hb) (fun v hp8 hq => ?_)
    obtain ⟨rfl, M8, hS8, hM8, hE8⟩ := hq
    have hR8 := hS8.1
    refine wp_iinc (v := nI (0 + 1)) dX5_tick_20 rfl (nI_1 _) ?_
    refine wp_goto (tgt := 8) dX5_tick_23 (by decide) ?_
    refine wp_iload_n (i := 2) dX5_tick_8 rfl rfl ?_
    refine wp_iload_n (i := 1) dX5_tick_9 rfl rfl ?_
    refine wp_icmp_ge (tgt := 26) dX5_tick_10 (by decide) (fun c10 => ?_) (fun c10 => ?_)
    · skip
      refine wp_aload_n (i := 0) dX5_tick_26 rfl rfl ?_
      refine wr_net dX5_tick_27 hR8 f_X5_10 ?_
      refine wp_callV (N := mX2_thingCount) (as := []) dX5_tick_30 l_X5_103 v_X2_thingCount rfl (hR8.oo (vs0 (n := 0) (by decide) (k := 0) (by decide)) (by decide)) rfl (by decide) (s_thingCount hR8 (by decide)) (fun v hp9 hq => ?_)
      obtain ⟨rfl, rfl⟩ := hq
      refine wp_ret (v := some (.int _)) dX5_tick_33 rfl ?_
      exact ⟨trivial, M8, ⟨hS8, hE8⟩, hM8, rfl⟩
    · skip
      exact absurd c10 (show ¬ nI (0 + 1) < nI 1 by decide)
/-- term and lag -/
theorem s_setTerm (h : S0 hp M zB tB clk cc K D ev) {q : Nat} (h1 : 1 ≤ p) (h2 : p ≤ 60) (h3 : q ≤ 20) : WM L xs (d) mX5_setTerm [.ref 1, .int (nI p), .int (nI q)] hp (fun v hp' => ∃ M', S0 hp' M' zB tB clk cc K D ev ∧ FR M M' 0 ∧ ∃ x, v = some (.int x)) := by
  have hR := h.1.1
  obtain ⟨b1, b2, b3, b4, b5⟩ := h.1.2.2.1.1
  refine WM.of [some (.ref _), some (.int (nI p)), some (.int (nI q)), none] (by decide) rfl (Nat.le_of_ble_eq_true rfl) ?_
  refine wp_iload_n (i := 1) dX5_setTerm_0 rfl rfl ?_
  refine wp_iconst (v := 1) dX5_setTerm_1 rfl ?_
  refine wp_icmp_lt (tgt := 21) dX5_setTerm_2 (by decide) (fun c2 => ?_) (fun c2 => ?_)
  · skip
    exact absurd (show nI p < nI 1 from c2) (nI_nlt h1 (by omega))
  · skip
    refine wp_iload_n (i := 1) dX5_setTerm_5 rfl rfl ?_
    refine wp_bipush (v := nI 60) dX5_setTerm_6 (by decide) ?_
    refine wp_icmp_gt (tgt := 21) dX5_setTerm_8 (by decide) (fun c8 => ?_) (fun c8 => ?_)
    · skip
      exact absurd (show nI 60 < nI p from c8) (nI_nlt h2 (by decide))
    · skip
      refine wp_iload_n (i := 2) dX5_setTerm_11 rfl rfl ?_
      refine wp_if_lt (tgt := 21) dX5_setTerm_12 (by decide) (fun c12 => ?_) (fun c12 => ?_)
      · skip
        exact absurd c12 (nI_pos (by omega))
      · skip
        refine wp_iload_n (i := 2) dX5_setTerm_15 rfl rfl ?_
        refine wp_bipush (v := nI 20) dX5_setTerm_16 (by decide) ?_
        refine wp_icmp_le (tgt := 31) dX5_setTerm_18 (by decide) (fun c18 => ?_) (fun c18 => ?_)
        · skip
          refine wp_aload_n (i := 0) dX5_setTerm_31 rfl rfl ?_
          refine wr_net dX5_setTerm_32 hR f_X5_10 ?_
          refine wr_get (g := 0) (n := 0) (a := 0) (b := 0) (k := 1) dX5_setTerm_35 hR f_X5_41 (vs0 (by decide) (by decide)) (by decide) (by decide) ?_
          refine wp_istore_n (i := 3) dX5_setTerm_38 rfl (Nat.le_of_ble_eq_true rfl) ?_
          refine wp_aload_n (i := 0) dX5_setTerm_39 rfl rfl ?_
          refine wr_net dX5_setTerm_40 hR f_X5_10 ?_
          refine wp_iload_n (i := 1) dX5_setTerm_43 rfl rfl ?_
          refine wr_put (g := 0) (n := 0) (a := 0) (b := 0) (k := 1) dX5_setTerm_44 hR (p_X5_41 rfl) (vs0 (by decide) (by decide)) (by decide) (by decide) (okI rfl) (fun hp2 hR1 => ?_)
          obtain ⟨hS1, hM1⟩ := h.1.net0 (Or.inl rfl) hR1
          refine wp_aload_n (i := 0) dX5_setTerm_47 rfl rfl ?_
          refine wr_net dX5_setTerm_48 hR1 f_X5_10 ?_
          refine wp_iload_n (i := 2) dX5_setTerm_51 rfl rfl ?_
          refine wr_put (g := 0) (n := 0) (a := 0) (b := 0) (k := 2) dX5_setTerm_52 hR1 (p_X5_44 rfl) (vs0 (by decide) (by decide)) (by decide) (by decide) (okI rfl) (fun hp4 hR3 => ?_)
          obtain ⟨hS2, hM2⟩ := hS1.net0 (Or.inr (Or.inl rfl)) hR3
          refine wp_iload_n (i := 3) dX5_setTerm_55 rfl rfl ?_
          refine wp_ret (v := some (.int _)) dX5_setTerm_56 rfl ?_
          exact ⟨trivial, _, ⟨hS2, h.2⟩, hM1.trans hM2, _, rfl⟩
        · skip
          exact absurd (show nI 20 < nI q from by first | exact c18 | exact Classical.not_not.mp c18) (nI_nlt h3 (by decide))
/-- room -/
theorem s_setRoom (h : S0 hp M zB tB clk cc K D ev) (h1 : 2 ≤ p) (h2 : p ≤ 6) : WM L xs (d) mX5_setRoom [.ref 1, .int (nI p)] hp (fun v hp' => ∃ M', S0 hp' M' zB tB clk cc K D ev ∧ FR M M' 0 ∧ ∃ x, v = some (.int x)) := by
  have hR := h.1.1
  obtain ⟨b1, b2, b3, b4, b5⟩ := h.1.2.2.1.1
  refine WM.of [some (.ref _), some (.int (nI p)), none] (by decide) rfl (Nat.le_of_ble_eq_true rfl) ?_
  refine wp_iload_n (i := 1) dX5_setRoom_0 rfl rfl ?_
  refine wp_iconst (v := 2) dX5_setRoom_1 rfl ?_
  refine wp_icmp_lt (tgt := 11) dX5_setRoom_2 (by decide) (fun c2 => ?_) (fun c2 => ?_)
  · skip
    exact absurd (show nI p < nI 2 from c2) (nI_nlt h1 (by omega))
  · skip
    refine wp_iload_n (i := 1) dX5_setRoom_5 rfl rfl ?_
    refine wp_bipush (v := nI 6) dX5_setRoom_6 (by decide) ?_
    refine wp_icmp_le (tgt := 21) dX5_setRoom_8 (by decide) (fun c8 => ?_) (fun c8 => ?_)
    · skip
      refine wp_aload_n (i := 0) dX5_setRoom_21 rfl rfl ?_
      refine wr_net dX5_setRoom_22 hR f_X5_10 ?_
      refine wr_get (g := 0) (n := 0) (a := 0) (b := 0) (k := 3) dX5_setRoom_25 hR f_X5_49 (vs0 (by decide) (by decide)) (by decide) (by decide) ?_
      refine wp_istore_n (i := 2) dX5_setRoom_28 rfl (Nat.le_of_ble_eq_true rfl) ?_
      refine wp_aload_n (i := 0) dX5_setRoom_29 rfl rfl ?_
      refine wr_net dX5_setRoom_30 hR f_X5_10 ?_
      refine wp_iload_n (i := 1) dX5_setRoom_33 rfl rfl ?_
      refine wr_put (g := 0) (n := 0) (a := 0) (b := 0) (k := 3) dX5_setRoom_34 hR (p_X5_49 rfl) (vs0 (by decide) (by decide)) (by decide) (by decide) (okI rfl) (fun hp2 hR1 => ?_)
      obtain ⟨hS1, hM1⟩ := h.1.net0 (Or.inr (Or.inr ⟨rfl, p, h2, rfl⟩)) hR1
      refine wp_iload_n (i := 2) dX5_setRoom_37 rfl rfl ?_
      refine wp_ret (v := some (.int _)) dX5_setRoom_38 rfl ?_
      exact ⟨trivial, _, ⟨hS1, h.2⟩, hM1, _, rfl⟩
    · skip
      exact absurd (show nI 6 < nI p from by first | exact c8 | exact Classical.not_not.mp c8) (nI_nlt h2 (by decide))
/-- the line is cut -/
theorem s_cut1 (h : S0 hp M zB tB clk cc K D ev) (hc : c < cc) (hK : K < 48) : WM L xs (d + 5) mX5_cut [.ref 1, .int (nI c), .int 1] hp (fun v hp' => ∃ M', S0 hp' M' zB tB clk cc (K + 1) D true ∧ FR M M' 0 ∧ gV M' 1 0 c 0 6 = 1 ∧ v = some (.int 0)) := by
  have hR := h.1.1
  obtain ⟨b1, b2, b3, b4, b5⟩ := h.1.2.2.1.1
  have hc4 : c < 4 := by omega
  refine WM.of [some (.ref _), some (.int (nI c)), some (.int 1)] (by decide) rfl (Nat.le_of_ble_eq_true rfl) ?_
  refine wp_aload_n (i := 0) dX5_cut_0 rfl rfl ?_
  refine wp_iload_n (i := 1) dX5_cut_1 rfl rfl ?_
  refine wp_callV (N := mX5_checkClient) (as := [.int (nI c)]) dX5_cut_2 l_X5_52 v_X5_checkClient rfl hR.top.1 rfl (by decide) (s_checkClient hR b4 b2 hc) (fun v hp9 hq => ?_)
  obtain ⟨rfl, rfl⟩ := hq
  refine wp_iload_n (i := 2) dX5_cut_5 rfl rfl ?_
  refine wp_if_ne (tgt := 18) dX5_cut_6 (by decide) (fun c6 => ?_) (fun c6 => ?_)
  · skip
    refine wp_aload_n (i := 0) dX5_cut_18 rfl rfl ?_
    refine wr_net dX5_cut_19 hR f_X5_10 ?_
    refine wr_netR (j := rC 0) dX5_cut_22 hR f_X5_60 (by decide) (Or.inl ⟨rfl, rfl⟩) ?_
    refine wp_iload_n (i := 1) dX5_cut_25 rfl rfl ?_
    refine wr_aC (c := c) dX5_cut_26 hR rfl (by decide) hc4 ?_
    refine wp_callV (N := mX0_cutLine) (as := []) dX5_cut_27 l_X5_64 v_X0_cutLine rfl (hR.oo (vs1 (n := 0) (by decide) hc4 (k := 2) (by decide)) (by decide)) rfl (by decide) (s_cutLine hR (by decide) hc4) (fun v hp8 hq => ?_)
    obtain ⟨rfl, hR8⟩ := hq
    obtain ⟨hS8, hM8, h68⟩ := h.1.cut hc hK hR8
    refine wp_iconst (v := 0) dX5_cut_30 rfl ?_
    refine wp_ret (v := some (.int _)) dX5_cut_31 rfl ?_
    exact ⟨trivial, _, ⟨hS8, hM8.e0 h.2⟩, hM8.1, h68, rfl⟩
  · skip
    exact absurd c6 (show ¬ (1 : Int32) = 0 by decide)
/-- the line is mended -/
theorem s_cut0 (h : S0 hp M zB tB clk cc K D ev) (hc : c < cc) : WM L xs (d + 5) mX5_cut [.ref 1, .int (nI c), .int 0] hp (fun v hp' => ∃ M', S0 hp' M' zB tB clk cc K D ev ∧ FR M M' 0 ∧ gV M' 1 0 c 0 6 = 0 ∧ ∃ m, v = some (.int (nI m)) ∧ m ≤ 12 ∧ ∀ l, CI M' 0 c l → m ≤ l.length) := by
  have hR := h.1.1
  obtain ⟨b1, b2, b3, b4, b5⟩ := h.1.2.2.1.1
  have hc4 : c < 4 := by omega
  refine WM.of [some (.ref _), some (.int (nI c)), some (.int 0)] (by decide) rfl (Nat.le_of_ble_eq_true rfl) ?_
  refine wp_aload_n (i := 0) dX5_cut_0 rfl rfl ?_
  refine wp_iload_n (i := 1) dX5_cut_1 rfl rfl ?_
  refine wp_callV (N := mX5_checkClient) (as := [.int (nI c)]) dX5_cut_2 l_X5_52 v_X5_checkClient rfl hR.top.1 rfl (by decide) (s_checkClient hR b4 b2 hc) (fun v hp9 hq => ?_)
  obtain ⟨rfl, rfl⟩ := hq
  refine wp_iload_n (i := 2) dX5_cut_5 rfl rfl ?_
  refine wp_if_ne (tgt := 18) dX5_cut_6 (by decide) (fun c6 => ?_) (fun c6 => ?_)
  · skip
    exact absurd rfl c6
  · skip
    refine wp_aload_n (i := 0) dX5_cut_9 rfl rfl ?_
    refine wr_net dX5_cut_10 hR f_X5_10 ?_
    refine wp_iload_n (i := 1) dX5_cut_13 rfl rfl ?_
    refine wp_callV (N := mX2_mendLine) (as := [.int (nI c)]) dX5_cut_14 l_X5_56 v_X2_mendLine rfl (hR.oo (vs0 (n := 0) (by decide) (k := 0) (by decide)) (by decide)) rfl (by decide) (s_mendLine h.1 (by decide) hc) (fun v hp8 hq => ?_)
    obtain ⟨M8, hS8, hM8, h68, m, rfl, hm, hml⟩ := hq
    have hR8 := hS8.1
    refine wp_ret (v := some (.int _)) dX5_cut_17 rfl ?_
    exact ⟨trivial, _, ⟨hS8, hM8.e0 h.2⟩, hM8.1, h68, m, rfl, hm, hml⟩
/-- flushed -/
theorem s_flush (h : S0 hp M zB tB clk cc K D ev) (hc : c < cc) : WM L xs (d + 5) mX5_flush [.ref 1, .int (nI c)] hp (fun v hp' => ∃ M', S0 hp' M' zB tB clk cc K D ev ∧ FR M M' 0 ∧ ∃ m, v = some (.int (nI m)) ∧ m ≤ 12 ∧ ∀ l, CI M' 0 c l → m ≤ l.length) := by
  have hR := h.1.1
  obtain ⟨b1, b2, b3, b4, b5⟩ := h.1.2.2.1.1
  have hc4 : c < 4 := by omega
  refine WM.of [some (.ref _), some (.int (nI c))] (by decide) rfl (Nat.le_of_ble_eq_true rfl) ?_
  refine wp_aload_n (i := 0) dX5_flush_0 rfl rfl ?_
  refine wp_iload_n (i := 1) dX5_flush_1 rfl rfl ?_
  refine wp_callV (N := mX5_checkClient) (as := [.int (nI c)]) dX5_flush_2 l_X5_52 v_X5_checkClient rfl hR.top.1 rfl (by decide) (s_checkClient hR b4 b2 hc) (fun v hp9 hq => ?_)
  obtain ⟨rfl, rfl⟩ := hq
  refine wp_aload_n (i := 0) dX5_flush_5 rfl rfl ?_
  refine wr_net dX5_flush_6 hR f_X5_10 ?_
  refine wp_iload_n (i := 1) dX5_flush_9 rfl rfl ?_
  refine wp_iconst (v := 0) dX5_flush_10 rfl ?_
  refine wp_callV (N := mX2_sendDirty) (as := [.int (nI c), .int 0]) dX5_flush_11 l_X5_94 v_X2_sendDirty rfl (hR.oo (vs0 (n := 0) (by decide) (k := 0) (by decide)) (by decide)) rfl (by decide) (s_sendDirty h.1 (by decide) hc 0) (fun v hp8 hq => ?_)
  obtain ⟨M8, hS8, hM8, m, rfl, hm, hml⟩ := hq
  have hR8 := hS8.1
  refine wp_ret (v := some (.int _)) dX5_flush_14 rfl ?_
  exact ⟨trivial, _, ⟨hS8, hM8.e0 h.2⟩, hM8.1, m, rfl, hm, hml⟩
end CACHE2
