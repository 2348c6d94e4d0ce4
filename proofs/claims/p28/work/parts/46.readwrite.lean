/-! ===== IronbridgeCache: reading and writing ===== -/
section CACHE3
variable {L : Nat} {xs : Nat → Int32} {d : Nat} {hp : AH} {M : MS} {zB tB clk cc K : Nat} {D : Nat → Nat} {ev : Bool} {c f p : Nat}
/-- read -/
theorem s_read (h : S0 hp M zB tB clk cc K D ev) (hc : c < cc) (hf : f < 12) : WM L xs (d + 4) mX5_read [.ref 1, .int (nI c), .int (nI f)] hp (fun v hp' => ∃ M' vv, S0 hp' M' zB tB clk cc K D ev ∧ Rch M M' 0 clk c f vv ∧ ((tru M 0 c f (nI clk) (gV M 1 0 c 0 6) ∧ v = some (.int (gV M' 2 0 c f 1))) ∨ (¬ tru M 0 c f (nI clk) (gV M 1 0 c 0 6) ∧ v = some (.int (-1))))) := by
  have hR := h.1.1
  obtain ⟨b1, b2, b3, b4, b5⟩ := h.1.2.2.1.1
  have hc4 : c < 4 := by omega
  refine WM.of [some (.ref _), some (.int (nI c)), some (.int (nI f))] (by decide) rfl (Nat.le_of_ble_eq_true rfl) ?_
  refine wp_aload_n (i := 0) dX5_read_0 rfl rfl ?_
  refine wp_iload_n (i := 1) dX5_read_1 rfl rfl ?_
  refine wp_callV (N := mX5_checkClient) (as := [.int (nI c)]) dX5_read_2 l_X5_52 v_X5_checkClient rfl hR.top.1 rfl (by decide) (s_checkClient hR b4 b2 hc) (fun v hp9 hq => ?_)
  obtain ⟨rfl, rfl⟩ := hq
  refine wp_iload_n (i := 2) dX5_read_5 rfl rfl ?_
  refine wp_callS (N := mX5_checkFile) (as := [.int (nI f)]) dX5_read_6 (by first | exact Or.inl l_X5_69 | exact Or.inr n_X5_69 | exact l_X5_69) v_X5_checkFile rfl rfl (by decide) (s_checkFile hf) (fun v hp9 hq => ?_)
  obtain ⟨rfl, rfl⟩ := hq
  refine wp_aload_n (i := 0) dX5_read_9 rfl rfl ?_
  refine wr_net dX5_read_10 hR f_X5_10 ?_
  refine wp_iload_n (i := 1) dX5_read_13 rfl rfl ?_
  refine wp_iload_n (i := 2) dX5_read_14 rfl rfl ?_
  refine wp_callV (N := mX2_reach) (as := [.int (nI c), .int (nI f)]) dX5_read_15 l_X5_72 v_X2_reach rfl (hR.oo (vs0 (n := 0) (by decide) (k := 0) (by decide)) (by decide)) rfl (by decide) (s_reach h.1 (by decide) hc hf) (fun v hp8 hq => ?_)
  obtain ⟨M8, hS8, hG8⟩ := hq
  have hR8 := hS8.1
  have hE8 : gT M8 2 0 (clk % 9) = [] := by rw [hG8.2.1]; exact h.2
  obtain ⟨vv, rfl⟩ : ∃ vv, v = some (.int vv) := by rcases hG8.2.2.2 with ⟨_, h9, _⟩ | ⟨_, h9, _⟩ <;> exact ⟨_, h9⟩
  refine wp_if_eq (tgt := 41) dX5_read_18 (by decide) (fun c18 => ?_) (fun c18 => ?_)
  · skip
    refine wp_iconst (v := (-1)) dX5_read_41 rfl ?_
    refine wp_ret (v := some (.int _)) dX5_read_42 rfl ?_
    refine ⟨trivial, M8, _, ⟨hS8, hE8⟩, hG8, ?_⟩
    rcases hG8.2.2.2 with ⟨h1, h2, _⟩ | ⟨h1, h2, _⟩
    · rw [c18] at h2; exact absurd (Value.int.inj (Option.some.inj h2)) (by decide)
    · exact Or.inr ⟨h1, rfl⟩
  · skip
    refine wp_aload_n (i := 0) dX5_read_21 rfl rfl ?_
    refine wr_net dX5_read_22 hR8 f_X5_10 ?_
    refine wr_netR (j := rC 0) dX5_read_25 hR8 f_X5_60 (by decide) (Or.inl ⟨rfl, rfl⟩) ?_
    refine wp_iload_n (i := 1) dX5_read_28 rfl rfl ?_
    refine wr_aC (c := c) dX5_read_29 hR8 rfl (by decide) hc4 ?_
    refine wr_cliR (j := rF 0 c) dX5_read_30 hR8 f_X5_76 (by decide) hc4 (Or.inl ⟨rfl, rfl⟩) ?_
    refine wp_iload_n (i := 2) dX5_read_33 rfl rfl ?_
    refine wr_aF (f := f) dX5_read_34 hR8 rfl (by decide) hc4 hf ?_
    refine wr_get (g := 2) (n := 0) (a := c) (b := f) (k := 1) dX5_read_35 hR8 f_X5_80 (vs2 (by decide) hc4 hf (by decide)) (by decide) (by decide) ?_
    refine wp_goto (tgt := 42) dX5_read_38 (by decide) ?_
    refine wp_ret (v := some (.int _)) dX5_read_42 rfl ?_
    refine ⟨trivial, M8, _, ⟨hS8, hE8⟩, hG8, ?_⟩
    rcases hG8.2.2.2 with ⟨h1, h2, _⟩ | ⟨h1, h2, _⟩
    · exact Or.inl ⟨h1, rfl⟩
    · exact absurd (Value.int.inj (Option.some.inj h2)) c18
/-- written -/
theorem s_write (h : S0 hp M zB tB clk cc K D ev) (hc : c < cc) (hf : f < 12) (hp0 : p ≤ 9999) : WM L xs (d + 4) mX5_write [.ref 1, .int (nI c), .int (nI f), .int (nI p)] hp (fun v hp' => ∃ M1 vv, Rch M M1 0 clk c f vv ∧ ((tru M 0 c f (nI clk) (gV M 1 0 c 0 6) ∧ v = some (.int 1) ∧ ∃ t, S0 hp' (mPut M1 0 c f (nI p) t) zB tB clk cc K D ev) ∨ (¬ tru M 0 c f (nI clk) (gV M 1 0 c 0 6) ∧ v = some (.int 0) ∧ ∃ hp0, S0 hp0 M1 zB tB clk cc K D ev ∧ hp' = hp0))) := by
  have hR := h.1.1
  obtain ⟨b1, b2, b3, b4, b5⟩ := h.1.2.2.1.1
  have hc4 : c < 4 := by omega
  refine WM.of [some (.ref _), some (.int (nI c)), some (.int (nI f)), some (.int (nI p))] (by decide) rfl (Nat.le_of_ble_eq_true rfl) ?_
  refine wp_aload_n (i := 0) dX5_write_0 rfl rfl ?_
  refine wp_iload_n (i := 1) dX5_write_1 rfl rfl ?_
  refine wp_callV (N := mX5_checkClient) (as := [.int (nI c)]) dX5_write_2 l_X5_52 v_X5_checkClient rfl hR.top.1 rfl (by decide) (s_checkClient hR b4 b2 hc) (fun v hp9 hq => ?_)
  obtain ⟨rfl, rfl⟩ := hq
  refine wp_iload_n (i := 2) dX5_write_5 rfl rfl ?_
  refine wp_callS (N := mX5_checkFile) (as := [.int (nI f)]) dX5_write_6 (by first | exact Or.inl l_X5_69 | exact Or.inr n_X5_69 | exact l_X5_69) v_X5_checkFile rfl rfl (by decide) (s_checkFile hf) (fun v hp9 hq => ?_)
  obtain ⟨rfl, rfl⟩ := hq
  refine wp_iload_n (i := 3) dX5_write_9 rfl rfl ?_
  refine wp_if_lt (tgt := 20) dX5_write_10 (by decide) (fun c10 => ?_) (fun c10 => ?_)
  · skip
    exact absurd c10 (nI_pos (by omega))
  · skip
    refine wp_iload_n (i := 3) dX5_write_13 rfl rfl ?_
    refine wp_sipush (v := nI 9999) dX5_write_14 (by decide) ?_
    refine wp_icmp_le (tgt := 30) dX5_write_17 (by decide) (fun c17 => ?_) (fun c17 => ?_)
    · skip
      refine wp_aload_n (i := 0) dX5_write_30 rfl rfl ?_
      refine wr_net dX5_write_31 hR f_X5_10 ?_
      refine wp_iload_n (i := 1) dX5_write_34 rfl rfl ?_
      refine wp_iload_n (i := 2) dX5_write_35 rfl rfl ?_
      refine wp_callV (N := mX2_reach) (as := [.int (nI c), .int (nI f)]) dX5_write_36 l_X5_72 v_X2_reach rfl (hR.oo (vs0 (n := 0) (by decide) (k := 0) (by decide)) (by decide)) rfl (by decide) (s_reach h.1 (by decide) hc hf) (fun v hp8 hq => ?_)
      obtain ⟨M8, hS8, hG8⟩ := hq
      have hR8 := hS8.1
      have hE8 : gT M8 2 0 (clk % 9) = [] := by rw [hG8.2.1]; exact h.2
      obtain ⟨vv, rfl⟩ : ∃ vv, v = some (.int vv) := by rcases hG8.2.2.2 with ⟨_, h9, _⟩ | ⟨_, h9, _⟩ <;> exact ⟨_, h9⟩
      refine wp_if_ne (tgt := 44) dX5_write_39 (by decide) (fun c39 => ?_) (fun c39 => ?_)
      · skip
        refine wp_aload_n (i := 0) dX5_write_44 rfl rfl ?_
        refine wr_net dX5_write_45 hR8 f_X5_10 ?_
        refine wr_netR (j := rC 0) dX5_write_48 hR8 f_X5_60 (by decide) (Or.inl ⟨rfl, rfl⟩) ?_
        refine wp_iload_n (i := 1) dX5_write_51 rfl rfl ?_
        refine wr_aC (c := c) dX5_write_52 hR8 rfl (by decide) hc4 ?_
        refine wr_cliR (j := rF 0 c) dX5_write_53 hR8 f_X5_76 (by decide) hc4 (Or.inl ⟨rfl, rfl⟩) ?_
        refine wp_iload_n (i := 2) dX5_write_56 rfl rfl ?_
        refine wr_aF (f := f) dX5_write_57 hR8 rfl (by decide) hc4 hf ?_
        refine wp_iload_n (i := 3) dX5_write_58 rfl rfl ?_
        refine wp_aload_n (i := 0) dX5_write_59 rfl rfl ?_
        refine wr_net dX5_write_60 hR8 f_X5_10 ?_
        refine wr_get (g := 0) (n := 0) (a := 0) (b := 0) (k := 0) dX5_write_63 hR8 f_X5_87 (vs0 (by decide) (by decide)) (by decide) (by decide) ?_
        rcases hG8.2.2.2 with ⟨h1, h2, h3, h4, h5, h6⟩ | ⟨h1, h2, _⟩
        rotate_left
        · exact absurd (Value.int.inj (Option.some.inj h2)) c39
        refine wp_callV (N := mX1_putContent) (as := [.int (nI p), .int _]) dX5_write_66 l_X5_90 v_X1_putContent rfl (hR8.oo (vs2 (n := 0) (by decide) hc4 hf (k := 0) (by decide)) (by decide)) rfl (by decide) (s_putContent hR8 (by decide) hc4 hf (nI p) _) (fun v hp7 hq => ?_)
        obtain ⟨rfl, hR7⟩ := hq
        obtain ⟨hS7, hM7⟩ := hS8.put hc hf (cOk_nI hp0) (by rw [h5]; exact h1.1) hR7
        refine wp_iconst (v := 1) dX5_write_69 rfl ?_
        refine wp_ret (v := some (.int _)) dX5_write_70 rfl ?_
        exact ⟨Or.inr rfl, M8, _, hG8, Or.inl ⟨h1, rfl, _, ⟨hS7, hM7.e0 hE8⟩⟩⟩
      · skip
        refine wp_iconst (v := 0) dX5_write_42 rfl ?_
        refine wp_ret (v := some (.int _)) dX5_write_43 rfl ?_
        rcases hG8.2.2.2 with ⟨h1, h2, _⟩ | ⟨h1, h2, _⟩
        · rw [c39] at h2; exact absurd (Value.int.inj (Option.some.inj h2)) (by decide)
        · exact ⟨Or.inl rfl, M8, _, hG8, Or.inr ⟨h1, rfl, hp8, ⟨hS8, hE8⟩, rfl⟩⟩
    · skip
      exact absurd (show nI 9999 < nI p from by first | exact c17 | exact Classical.not_not.mp c17) (nI_nlt hp0 (by decide))
end CACHE3
