/-! ===== IronbridgeCache: what is asked rightly ===== -/
section CACHE
variable {L : Nat} {xs : Nat → Int32} {d : Nat} {hp : AH} {M : MS} {zB tB clk cc K : Nat} {D : Nat → Nat} {ev : Bool} {c f p : Nat}
/-- a client -/
theorem s_checkClient (hR : Rep hp M) (hcc : gV M 0 0 0 0 4 = nI cc) (h4 : cc ≤ 4) (hc : c < cc) : WM L xs (d + 1) mX5_checkClient [.ref 1, .int (nI c)] hp (fun v hp' => hp' = hp ∧ v = none) := by
  refine WM.of [some (.ref _), some (.int (nI c))] (by decide) rfl (Nat.le_of_ble_eq_true rfl) ?_
  refine wp_aload_n (i := 0) dX5_checkClient_0 rfl rfl ?_
  refine wr_net dX5_checkClient_1 hR f_X5_10 ?_
  refine wp_iload_n (i := 1) dX5_checkClient_4 rfl rfl ?_
  refine wp_callV (N := mX2_isClient) (as := [.int (nI c)]) dX5_checkClient_5 l_X5_195 v_X2_isClient rfl (hR.oo (vs0 (n := 0) (by decide) (k := 0) (by decide)) (by decide)) rfl (by decide) (s_isClient hR (by decide) hcc hc h4) (fun v hp9 hq => ?_)
  obtain ⟨rfl, rfl⟩ := hq
  refine wp_if_ne (tgt := 21) dX5_checkClient_8 (by decide) (fun c8 => ?_) (fun c8 => ?_)
  · skip
    refine wp_ret (v := none) dX5_checkClient_21 rfl ?_
    exact ⟨trivial, rfl, rfl⟩
  · skip
    exact absurd c8 (by decide)
/-- a file -/
theorem s_checkFile (hf : f < 12) : WM L xs (d + 1) mX5_checkFile [.int (nI f)] hp (fun v hp' => hp' = hp ∧ v = none) := by
  refine WM.of [some (.int (nI f))] (by decide) rfl (Nat.le_of_ble_eq_true rfl) ?_
  refine wp_iload_n (i := 0) dX5_checkFile_0 rfl rfl ?_
  refine wp_callS (N := mX5_isFile) (as := [.int (nI f)]) dX5_checkFile_1 (by first | exact Or.inl l_X5_204 | exact Or.inr n_X5_204 | exact l_X5_204) v_X5_isFile rfl rfl (by decide) (s_isFile hf) (fun v hp9 hq => ?_)
  obtain ⟨rfl, rfl⟩ := hq
  refine wp_if_ne (tgt := 17) dX5_checkFile_4 (by decide) (fun c4 => ?_) (fun c4 => ?_)
  · skip
    refine wp_ret (v := none) dX5_checkFile_17 rfl ?_
    exact ⟨trivial, rfl, rfl⟩
  · skip
    exact absurd c4 (by decide)
/-- a place -/
theorem s_checkPlace {q : Nat} (hp0 : p < q) (hq0 : q < 2 ^ 31) : WM L xs (d) mX5_checkPlace [.int (nI p), .int (nI q)] hp (fun v hp' => hp' = hp ∧ v = none) := by
  refine WM.of [some (.int (nI p)), some (.int (nI q))] (by decide) rfl (Nat.le_of_ble_eq_true rfl) ?_
  refine wp_iload_n (i := 0) dX5_checkPlace_0 rfl rfl ?_
  refine wp_if_lt (tgt := 9) dX5_checkPlace_1 (by decide) (fun c1 => ?_) (fun c1 => ?_)
  · skip
    exact absurd c1 (nI_pos (by omega))
  · skip
    refine wp_iload_n (i := 0) dX5_checkPlace_4 rfl rfl ?_
    refine wp_iload_n (i := 1) dX5_checkPlace_5 rfl rfl ?_
    refine wp_icmp_lt (tgt := 19) dX5_checkPlace_6 (by decide) (fun c6 => ?_) (fun c6 => ?_)
    · skip
      refine wp_ret (v := none) dX5_checkPlace_19 rfl ?_
      exact ⟨trivial, rfl, rfl⟩
    · skip
      exact absurd (nI_lt hp0 hq0) c6
/-- some ticks -/
theorem s_checkTicks {q : Nat} (h1 : 1 ≤ p) (hp0 : p ≤ q) (hq0 : q < 2 ^ 31) : WM L xs (d) mX5_checkTicks [.int (nI p), .int (nI q)] hp (fun v hp' => hp' = hp ∧ v = none) := by
  refine WM.of [some (.int (nI p)), some (.int (nI q))] (by decide) rfl (Nat.le_of_ble_eq_true rfl) ?_
  refine wp_iload_n (i := 0) dX5_checkTicks_0 rfl rfl ?_
  refine wp_iconst (v := 1) dX5_checkTicks_1 rfl ?_
  refine wp_icmp_lt (tgt := 10) dX5_checkTicks_2 (by decide) (fun c2 => ?_) (fun c2 => ?_)
  · skip
    exact absurd (show nI p < nI 1 from c2) (nI_nlt h1 (by omega))
  · skip
    refine wp_iload_n (i := 0) dX5_checkTicks_5 rfl rfl ?_
    refine wp_iload_n (i := 1) dX5_checkTicks_6 rfl rfl ?_
    refine wp_icmp_le (tgt := 20) dX5_checkTicks_7 (by decide) (fun c7 => ?_) (fun c7 => ?_)
    · skip
      refine wp_ret (v := none) dX5_checkTicks_20 rfl ?_
      exact ⟨trivial, rfl, rfl⟩
    · skip
      exact absurd (show nI q < nI p from by first | exact c7 | exact Classical.not_not.mp c7) (nI_nlt hp0 hq0)
/-- a question -/
theorem s_checkWhat {q : Nat} (hp0 : p ≤ q) (hq0 : q < 2 ^ 31) : WM L xs (d) mX5_checkWhat [.int (nI p), .int (nI q)] hp (fun v hp' => hp' = hp ∧ v = none) := by
  refine WM.of [some (.int (nI p)), some (.int (nI q))] (by decide) rfl (Nat.le_of_ble_eq_true rfl) ?_
  refine wp_iload_n (i := 0) dX5_checkWhat_0 rfl rfl ?_
  refine wp_if_lt (tgt := 9) dX5_checkWhat_1 (by decide) (fun c1 => ?_) (fun c1 => ?_)
  · skip
    exact absurd c1 (nI_pos (by omega))
  · skip
    refine wp_iload_n (i := 0) dX5_checkWhat_4 rfl rfl ?_
    refine wp_iload_n (i := 1) dX5_checkWhat_5 rfl rfl ?_
    refine wp_icmp_le (tgt := 19) dX5_checkWhat_6 (by decide) (fun c6 => ?_) (fun c6 => ?_)
    · skip
      refine wp_ret (v := none) dX5_checkWhat_19 rfl ?_
      exact ⟨trivial, rfl, rfl⟩
    · skip
      exact absurd (show nI q < nI p from by first | exact c6 | exact Classical.not_not.mp c6) (nI_nlt hp0 hq0)
/-- the net that is there holds, and so much of its numbers -/
abbrev S0 (hp : AH) (M : MS) (zB tB clk cc K : Nat) (D : Nat → Nat) (ev : Bool) : Prop := ST hp M zB tB 0 clk cc K D ev 0 0 0 (fun _ => 0) ∧ gT M 2 0 (clk % 9) = []
/-- clients -/
theorem s_clients (h : S0 hp M zB tB clk cc K D ev) : WM L xs (d) mX5_clients [.ref 1] hp (fun v hp' => hp' = hp ∧ v = some (.int (nI cc))) := by
  have hR := h.1.1
  obtain ⟨b1, b2, b3, b4, b5⟩ := h.1.2.2.1.1
  refine WM.of [some (.ref _)] (by decide) rfl (Nat.le_of_ble_eq_true rfl) ?_
  refine wp_aload_n (i := 0) dX5_clients_0 rfl rfl ?_
  refine wr_net dX5_clients_1 hR f_X5_10 ?_
  refine wr_get (g := 0) (n := 0) (a := 0) (b := 0) (k := 4) dX5_clients_4 hR f_X5_26 (vs0 (by decide) (by decide)) (by decide) (by decide) ?_
  refine wp_ret (v := some (.int _)) dX5_clients_7 rfl ?_
  exact ⟨trivial, rfl, by rw [b4]⟩
/-- clock -/
theorem s_clock (h : S0 hp M zB tB clk cc K D ev) : WM L xs (d) mX5_clock [.ref 1] hp (fun v hp' => hp' = hp ∧ v = some (.int (nI clk))) := by
  have hR := h.1.1
  obtain ⟨b1, b2, b3, b4, b5⟩ := h.1.2.2.1.1
  refine WM.of [some (.ref _)] (by decide) rfl (Nat.le_of_ble_eq_true rfl) ?_
  refine wp_aload_n (i := 0) dX5_clock_0 rfl rfl ?_
  refine wr_net dX5_clock_1 hR f_X5_10 ?_
  refine wr_get (g := 0) (n := 0) (a := 0) (b := 0) (k := 0) dX5_clock_4 hR f_X5_87 (vs0 (by decide) (by decide)) (by decide) (by decide) ?_
  refine wp_ret (v := some (.int _)) dX5_clock_7 rfl ?_
  exact ⟨trivial, rfl, by rw [b3]⟩
/-- onTheWay -/
theorem s_onTheWay (h : S0 hp M zB tB clk cc K D ev) : WM L xs (d + 1) mX5_onTheWay [.ref 1] hp (fun v hp' => hp' = hp ∧ v = some (.int (nI (TN M 0 9)))) := by
  have hR := h.1.1
  obtain ⟨b1, b2, b3, b4, b5⟩ := h.1.2.2.1.1
  refine WM.of [some (.ref _)] (by decide) rfl (Nat.le_of_ble_eq_true rfl) ?_
  refine wp_aload_n (i := 0) dX5_onTheWay_0 rfl rfl ?_
  refine wr_net dX5_onTheWay_1 hR f_X5_10 ?_
  refine wp_callV (N := mX2_thingCount) (as := []) dX5_onTheWay_4 l_X5_103 v_X2_thingCount rfl (hR.oo (vs0 (n := 0) (by decide) (k := 0) (by decide)) (by decide)) rfl (by first | decide | exact Nat.le_of_ble_eq_true rfl) (s_thingCount hR (by decide)) (fun v hp9 hq => ?_)
  obtain ⟨rfl, rfl⟩ := hq
  refine wp_ret (v := some (.int _)) dX5_onTheWay_7 rfl ?_
  exact ⟨trivial, rfl, rfl⟩
/-- stale -/
theorem s_stale (h : S0 hp M zB tB clk cc K D ev) : WM L xs (d + 2) mX5_stale [.ref 1] hp (fun v hp' => hp' = hp ∧ v = some (.int (nI (stA M 0 (nI clk) cc)))) := by
  have hR := h.1.1
  obtain ⟨b1, b2, b3, b4, b5⟩ := h.1.2.2.1.1
  refine WM.of [some (.ref _)] (by decide) rfl (Nat.le_of_ble_eq_true rfl) ?_
  refine wp_aload_n (i := 0) dX5_stale_0 rfl rfl ?_
  refine wr_net dX5_stale_1 hR f_X5_10 ?_
  refine wp_callV (N := mX2_staleCount) (as := []) dX5_stale_4 l_X5_168 v_X2_staleCount rfl (hR.oo (vs0 (n := 0) (by decide) (k := 0) (by decide)) (by decide)) rfl (by first | decide | exact Nat.le_of_ble_eq_true rfl) (s_staleCount hR (by decide) b3 b4 b2) (fun v hp9 hq => ?_)
  obtain ⟨rfl, rfl⟩ := hq
  refine wp_ret (v := some (.int _)) dX5_stale_7 rfl ?_
  exact ⟨trivial, rfl, rfl⟩
/-- told -/
theorem s_told (h : S0 hp M zB tB clk cc K D ev) (hc : c < cc) (hp0 : p < 7) : WM L xs (d + 2) mX5_told [.ref 1, .int (nI c), .int (nI p)] hp (fun v hp' => hp' = hp ∧ v = some (.int (cTell M 0 c p))) := by
  have hR := h.1.1
  obtain ⟨b1, b2, b3, b4, b5⟩ := h.1.2.2.1.1
  have hc4 : c < 4 := by omega
  refine WM.of [some (.ref _), some (.int (nI c)), some (.int (nI p))] (by decide) rfl (Nat.le_of_ble_eq_true rfl) ?_
  refine wp_aload_n (i := 0) dX5_told_0 rfl rfl ?_
  refine wp_iload_n (i := 1) dX5_told_1 rfl rfl ?_
  refine wp_callV (N := mX5_checkClient) (as := [.int (nI c)]) dX5_told_2 l_X5_52 v_X5_checkClient rfl hR.top.1 rfl (by decide) (s_checkClient hR b4 b2 hc) (fun v hp9 hq => ?_)
  obtain ⟨rfl, rfl⟩ := hq
  refine wp_iload_n (i := 2) dX5_told_5 rfl rfl ?_
  refine wp_bipush (v := nI 6) dX5_told_6 (by decide) ?_
  refine wp_callS (N := mX5_checkWhat) (as := [.int (nI p), .int (nI 6)]) dX5_told_8 (by first | exact Or.inl l_X5_107 | exact Or.inr n_X5_107 | exact l_X5_107) v_X5_checkWhat rfl rfl (by decide) (s_checkWhat (p := p) (q := 6) (by omega) (by decide)) (fun v hp9 hq => ?_)
  obtain ⟨rfl, rfl⟩ := hq
  refine wp_aload_n (i := 0) dX5_told_11 rfl rfl ?_
  refine wr_net dX5_told_12 hR f_X5_10 ?_
  refine wr_netR (j := rC 0) dX5_told_15 hR f_X5_60 (by decide) (Or.inl ⟨rfl, rfl⟩) ?_
  refine wp_iload_n (i := 1) dX5_told_18 rfl rfl ?_
  refine wr_aC (c := c) dX5_told_19 hR rfl (by decide) hc4 ?_
  refine wp_iload_n (i := 2) dX5_told_20 rfl rfl ?_
  refine wp_callV (N := mX0_tell) (as := [.int (nI p)]) dX5_told_21 l_X5_157 v_X0_tell rfl (hR.oo (vs1 (n := 0) (by decide) hc4 (k := 2) (by decide)) (by decide)) rfl (by decide) (s_clTell hR (by decide) hc4 hp0) (fun v hp9 hq => ?_)
  obtain ⟨rfl, rfl⟩ := hq
  refine wp_ret (v := some (.int _)) dX5_told_24 rfl ?_
  exact ⟨trivial, rfl, rfl⟩
/-- has -/
theorem s_has (h : S0 hp M zB tB clk cc K D ev) (hc : c < cc) (hf : f < 12) (hp0 : p < 6) : WM L xs (d + 2) mX5_has [.ref 1, .int (nI c), .int (nI f), .int (nI p)] hp (fun v hp' => hp' = hp ∧ v = some (.int (hTell M 0 c f p (nI clk) (gV M 1 0 c 0 6)))) := by
  have hR := h.1.1
  obtain ⟨b1, b2, b3, b4, b5⟩ := h.1.2.2.1.1
  have hc4 : c < 4 := by omega
  refine WM.of [some (.ref _), some (.int (nI c)), some (.int (nI f)), some (.int (nI p)), none] (by decide) rfl (Nat.le_of_ble_eq_true rfl) ?_
  refine wp_aload_n (i := 0) dX5_has_0 rfl rfl ?_
  refine wp_iload_n (i := 1) dX5_has_1 rfl rfl ?_
  refine wp_callV (N := mX5_checkClient) (as := [.int (nI c)]) dX5_has_2 l_X5_52 v_X5_checkClient rfl hR.top.1 rfl (by decide) (s_checkClient hR b4 b2 hc) (fun v hp9 hq => ?_)
  obtain ⟨rfl, rfl⟩ := hq
  refine wp_iload_n (i := 2) dX5_has_5 rfl rfl ?_
  refine wp_callS (N := mX5_checkFile) (as := [.int (nI f)]) dX5_has_6 (by first | exact Or.inl l_X5_69 | exact Or.inr n_X5_69 | exact l_X5_69) v_X5_checkFile rfl rfl (by decide) (s_checkFile hf) (fun v hp9 hq => ?_)
  obtain ⟨rfl, rfl⟩ := hq
  refine wp_iload_n (i := 3) dX5_has_9 rfl rfl ?_
  refine wp_iconst (v := 5) dX5_has_10 rfl ?_
  refine wp_callS (N := mX5_checkWhat) (as := [.int (nI p), .int (nI 5)]) dX5_has_11 (by first | exact Or.inl l_X5_107 | exact Or.inr n_X5_107 | exact l_X5_107) v_X5_checkWhat rfl rfl (by decide) (s_checkWhat (p := p) (q := 5) (by omega) (by decide)) (fun v hp9 hq => ?_)
  obtain ⟨rfl, rfl⟩ := hq
  refine wp_aload_n (i := 0) dX5_has_14 rfl rfl ?_
  refine wr_net dX5_has_15 hR f_X5_10 ?_
  refine wr_netR (j := rC 0) dX5_has_18 hR f_X5_60 (by decide) (Or.inl ⟨rfl, rfl⟩) ?_
  refine wp_iload_n (i := 1) dX5_has_21 rfl rfl ?_
  refine wr_aC (c := c) dX5_has_22 hR rfl (by decide) hc4 ?_
  refine wp_astore dX5_has_23 (Nat.le_of_ble_eq_true rfl) ?_
  refine wp_aload dX5_has_25 rfl ?_
  refine wr_cliR (j := rF 0 c) dX5_has_27 hR f_X5_76 (by decide) hc4 (Or.inl ⟨rfl, rfl⟩) ?_
  refine wp_iload_n (i := 2) dX5_has_30 rfl rfl ?_
  refine wr_aF (f := f) dX5_has_31 hR rfl (by decide) hc4 hf ?_
  refine wp_iload_n (i := 3) dX5_has_32 rfl rfl ?_
  refine wp_aload_n (i := 0) dX5_has_33 rfl rfl ?_
  refine wr_net dX5_has_34 hR f_X5_10 ?_
  refine wr_get (g := 0) (n := 0) (a := 0) (b := 0) (k := 0) dX5_has_37 hR f_X5_87 (vs0 (by decide) (by decide)) (by decide) (by decide) ?_
  refine wp_aload dX5_has_40 rfl ?_
  refine wr_get (g := 1) (n := 0) (a := c) (b := 0) (k := 6) dX5_has_42 hR f_X5_144 (vs1 (by decide) hc4 (by decide)) (by decide) (by decide) ?_
  rw [b3]
  refine wp_callV (N := mX1_tell) (as := [.int (nI p), .int (nI clk), .int (gV M 1 0 c 0 6)]) dX5_has_45 l_X5_148 v_X1_tell rfl (hR.oo (vs2 (n := 0) (by decide) hc4 hf (k := 0) (by decide)) (by decide)) rfl (by decide) (s_heTell hR (by decide) hc4 hf (nI clk) (gV M 1 0 c 0 6) hp0) (fun v hp9 hq => ?_)
  obtain ⟨rfl, rfl⟩ := hq
  refine wp_ret (v := some (.int _)) dX5_has_48 rfl ?_
  exact ⟨trivial, rfl, rfl⟩
/-- used -/
theorem s_used (h : S0 hp M zB tB clk cc K D ev) {q : Nat} (hc : c < cc) (hcnt : gV M 1 0 c 0 2 = nI q) (hp0 : p < q) (h12 : q ≤ 12) : WM L xs (d + 2) mX5_used [.ref 1, .int (nI c), .int (nI p)] hp (fun v hp' => hp' = hp ∧ v = some (.int (gV M 3 0 c 0 p))) := by
  have hR := h.1.1
  obtain ⟨b1, b2, b3, b4, b5⟩ := h.1.2.2.1.1
  have hc4 : c < 4 := by omega
  refine WM.of [some (.ref _), some (.int (nI c)), some (.int (nI p)), none] (by decide) rfl (Nat.le_of_ble_eq_true rfl) ?_
  refine wp_aload_n (i := 0) dX5_used_0 rfl rfl ?_
  refine wp_iload_n (i := 1) dX5_used_1 rfl rfl ?_
  refine wp_callV (N := mX5_checkClient) (as := [.int (nI c)]) dX5_used_2 l_X5_52 v_X5_checkClient rfl hR.top.1 rfl (by decide) (s_checkClient hR b4 b2 hc) (fun v hp9 hq => ?_)
  obtain ⟨rfl, rfl⟩ := hq
  refine wp_aload_n (i := 0) dX5_used_5 rfl rfl ?_
  refine wr_net dX5_used_6 hR f_X5_10 ?_
  refine wr_netR (j := rC 0) dX5_used_9 hR f_X5_60 (by decide) (Or.inl ⟨rfl, rfl⟩) ?_
  refine wp_iload_n (i := 1) dX5_used_12 rfl rfl ?_
  refine wr_aC (c := c) dX5_used_13 hR rfl (by decide) hc4 ?_
  refine wp_astore_n (i := 3) dX5_used_14 rfl (Nat.le_of_ble_eq_true rfl) ?_
  refine wp_iload_n (i := 2) dX5_used_15 rfl rfl ?_
  refine wp_aload_n (i := 3) dX5_used_16 rfl rfl ?_
  refine wr_get (g := 1) (n := 0) (a := c) (b := 0) (k := 2) dX5_used_17 hR f_X5_151 (vs1 (by decide) hc4 (by decide)) (by decide) (by decide) ?_
  rw [hcnt]
  refine wp_callS (N := mX5_checkPlace) (as := [.int (nI p), .int (nI q)]) dX5_used_20 (by first | exact Or.inl l_X5_135 | exact Or.inr n_X5_135 | exact l_X5_135) v_X5_checkPlace rfl rfl (by decide) (s_checkPlace (p := p) (q := q) hp0 (by omega)) (fun v hp9 hq => ?_)
  obtain ⟨rfl, rfl⟩ := hq
  refine wp_aload_n (i := 3) dX5_used_23 rfl rfl ?_
  refine wr_cliR (j := xi 3 0 c 0) dX5_used_24 hR f_X5_154 (by decide) hc4 (Or.inr (Or.inl ⟨rfl, rfl⟩)) ?_
  refine wp_iload_n (i := 2) dX5_used_27 rfl rfl ?_
  refine wr_ordG (k := p) dX5_used_28 hR rfl (vs3 (by decide) hc4 (by omega)) ?_
  refine wp_ret (v := some (.int _)) dX5_used_29 rfl ?_
  exact ⟨trivial, rfl, rfl⟩
/-- server -/
theorem s_server (h : S0 hp M zB tB clk cc K D ev) (hf : f < 12) (hp0 : p < 4) : WM L xs (d + 3) mX5_server [.ref 1, .int (nI f), .int (nI p)] hp (fun v hp' => hp' = hp ∧ v = some (.int (shTell M 0 f p (nI clk)))) := by
  have hR := h.1.1
  obtain ⟨b1, b2, b3, b4, b5⟩ := h.1.2.2.1.1
  refine WM.of [some (.ref _), some (.int (nI f)), some (.int (nI p))] (by decide) rfl (Nat.le_of_ble_eq_true rfl) ?_
  refine wp_iload_n (i := 1) dX5_server_0 rfl rfl ?_
  refine wp_callS (N := mX5_checkFile) (as := [.int (nI f)]) dX5_server_1 (by first | exact Or.inl l_X5_69 | exact Or.inr n_X5_69 | exact l_X5_69) v_X5_checkFile rfl rfl (by decide) (s_checkFile hf) (fun v hp9 hq => ?_)
  obtain ⟨rfl, rfl⟩ := hq
  refine wp_iload_n (i := 2) dX5_server_4 rfl rfl ?_
  refine wp_iconst (v := 3) dX5_server_5 rfl ?_
  refine wp_callS (N := mX5_checkWhat) (as := [.int (nI p), .int (nI 3)]) dX5_server_6 (by first | exact Or.inl l_X5_107 | exact Or.inr n_X5_107 | exact l_X5_107) v_X5_checkWhat rfl rfl (by decide) (s_checkWhat (p := p) (q := 3) (by omega) (by decide)) (fun v hp9 hq => ?_)
  obtain ⟨rfl, rfl⟩ := hq
  refine wp_aload_n (i := 0) dX5_server_9 rfl rfl ?_
  refine wr_net dX5_server_10 hR f_X5_10 ?_
  refine wr_netR (j := rS 0) dX5_server_13 hR f_X5_110 (by decide) (Or.inr (Or.inl ⟨rfl, rfl⟩)) ?_
  refine wp_iload_n (i := 1) dX5_server_16 rfl rfl ?_
  refine wr_aS (f := f) dX5_server_17 hR rfl (by decide) hf ?_
  refine wp_iload_n (i := 2) dX5_server_18 rfl rfl ?_
  refine wp_aload_n (i := 0) dX5_server_19 rfl rfl ?_
  refine wr_net dX5_server_20 hR f_X5_10 ?_
  refine wr_get (g := 0) (n := 0) (a := 0) (b := 0) (k := 0) dX5_server_23 hR f_X5_87 (vs0 (by decide) (by decide)) (by decide) (by decide) ?_
  rw [b3]
  refine wp_callV (N := mX3_tell) (as := [.int (nI p), .int (nI clk)]) dX5_server_26 l_X5_114 v_X3_tell rfl (hR.oo (vs4 (n := 0) (by decide) hf (k := 0) (by decide)) (by decide)) rfl (by decide) (s_shTell hR (by decide) hf (nI clk) hp0) (fun v hp9 hq => ?_)
  obtain ⟨rfl, rfl⟩ := hq
  refine wp_ret (v := some (.int _)) dX5_server_29 rfl ?_
  exact ⟨trivial, rfl, rfl⟩
/-- way -/
theorem s_way (h : S0 hp M zB tB clk cc K D ev) {q : Nat} (hp0 : p < TN M 0 9) (hT : TN M 0 9 < 2 ^ 30) (hq0 : q < 4) : WM L xs (d + 3) mX5_way [.ref 1, .int (nI p), .int (nI q)] hp (fun v hp' => hp' = hp ∧ ∃ x, v = some (.int x) ∧ tTh M 0 clk p q x) := by
  have hR := h.1.1
  obtain ⟨b1, b2, b3, b4, b5⟩ := h.1.2.2.1.1
  refine WM.of [some (.ref _), some (.int (nI p)), some (.int (nI q))] (by decide) rfl (Nat.le_of_ble_eq_true rfl) ?_
  refine wp_iload_n (i := 1) dX5_way_0 rfl rfl ?_
  refine wp_aload_n (i := 0) dX5_way_1 rfl rfl ?_
  refine wr_net dX5_way_2 hR f_X5_10 ?_
  refine wp_callV (N := mX2_thingCount) (as := []) dX5_way_5 l_X5_103 v_X2_thingCount rfl (hR.oo (vs0 (n := 0) (by decide) (k := 0) (by decide)) (by decide)) rfl (by first | decide | exact Nat.le_of_ble_eq_true rfl) (s_thingCount hR (by decide)) (fun v hp9 hq => ?_)
  obtain ⟨rfl, rfl⟩ := hq
  refine wp_callS (N := mX5_checkPlace) (as := [.int (nI p), .int (nI (TN M 0 9))]) dX5_way_8 (by first | exact Or.inl l_X5_135 | exact Or.inr n_X5_135 | exact l_X5_135) v_X5_checkPlace rfl rfl (by decide) (s_checkPlace (p := p) (q := (TN M 0 9)) hp0 (by omega)) (fun v hp9 hq => ?_)
  obtain ⟨rfl, rfl⟩ := hq
  refine wp_iload_n (i := 2) dX5_way_11 rfl rfl ?_
  refine wp_iconst (v := 3) dX5_way_12 rfl ?_
  refine wp_callS (N := mX5_checkWhat) (as := [.int (nI q), .int (nI 3)]) dX5_way_13 (by first | exact Or.inl l_X5_107 | exact Or.inr n_X5_107 | exact l_X5_107) v_X5_checkWhat rfl rfl (by decide) (s_checkWhat (p := q) (q := 3) (by omega) (by decide)) (fun v hp9 hq => ?_)
  obtain ⟨rfl, rfl⟩ := hq
  refine wp_aload_n (i := 0) dX5_way_16 rfl rfl ?_
  refine wr_net dX5_way_17 hR f_X5_10 ?_
  refine wp_iload_n (i := 1) dX5_way_20 rfl rfl ?_
  refine wp_iload_n (i := 2) dX5_way_21 rfl rfl ?_
  refine wp_callV (N := mX2_tellThing) (as := [.int (nI p), .int (nI q)]) dX5_way_22 l_X5_141 v_X2_tellThing rfl (hR.oo (vs0 (n := 0) (by decide) (k := 0) (by decide)) (by decide)) rfl (by decide) (s_tellThing hR (by decide) b3 b1 (by omega) (by omega)) (fun v hp9 hq => ?_)
  obtain ⟨rfl, x, rfl, hx⟩ := hq
  refine wp_ret (v := some (.int _)) dX5_way_25 rfl ?_
  exact ⟨trivial, rfl, _, rfl, hx⟩
end CACHE
