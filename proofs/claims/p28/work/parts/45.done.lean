/-! ===== IronbridgeCache: what is done ===== -/
section CACHE2
variable {L : Nat} {xs : Nat → Int32} {d : Nat} {hp : AH} {M : MS} {zB tB clk cc K : Nat} {D : Nat → Nat} {ev : Bool} {c f p : Nat}
theorem MR.e0 {M M' : MS} {n clk : Nat} (h : MR M M' n clk) (hE : gT M 2 n (clk % 9) = []) : gT M' 2 n (clk % 9) = [] := by rw [h.2]; exact hE
/-- one tick -/
theorem s_tick (h : S0 hp M zB tB clk cc K D ev) (hb : clk + 1 < 1000) : WM L xs (d + 7) mX5_tick [.ref 1, .int (nI 1)] hp (fun v hp' => ∃ M', S0 hp' M' zB tB (clk + 1) cc K D ev ∧ FR M M' 0 ∧ v = some (.int (nI (TN M' 0 9)))) := by
  have hR := h.1.1
  obtain ⟨b1, b2, b3, b4, b5⟩ := h.1.2.2.1.1
  refine WM.of [some (.ref _), some (.int (nI 1)), none] (by decide) rfl (Nat.le_of_ble_eq_true rfl) ?_
  refine wp_iload_n (i := 1) dX5_tick_0 rfl rfl ?_
  refine wp_bipush (v := nI 60) dX5_tick_1 (by decide) ?_
  refine wp_callS (N := mX5_checkTicks) (as := [.int (nI 1), .int (nI 60)]) dX5_tick_3 (by first | exact Or.inl l_X5_97 | exact Or.inr n_X5_97 | exact l_X5_97) v_X5_checkTicks rfl rfl (by decide) (s_checkTicks (p := 1) (q := 60) (by decide) (by decide) (by decide)) (fun v hp9 hq => ?_)
  obtain ⟨rfl, rfl⟩ := hq
  refine wp_iconst (v := 0) dX5_tick_6 rfl ?_
  refine wp_istore_n (i := 2) dX5_tick_7 rfl (Nat.le_of_ble_eq_true rfl) ?_
  refine wp_iload_n (i := 2) dX5_tick_8 rfl rfl ?_
  refine wp_iload_n (i := 1) dX5_tick_9 rfl rfl ?_
  refine wp_icmp_ge (tgt := 26) dX5_tick_10 (by decide) (fun c10 => ?_) (fun c10 => ?_)
  · skip
    exact absurd (show nI 0 < nI 1 by decide) c10
  · skip
    refine wp_aload_n (i := 0) dX5_tick_13 rfl rfl ?_
    refine wr_net dX5_tick_14 hR f_X5_10 ?_
    refine wp_callV (N := mX2_passTick) (as := []) dX5_tick_17 l_X5_100 v_X2_passTick rfl (hR.oo (vs0 (n := 0) (by decide) (k := 0) (by decide)) (by decide)) rfl (by decide) (s_passTick h.1 (by decide) h.2 hb) (fun v hp8 hq => ?_)
    obtain ⟨rfl, M8, hS8, hM8, hE8⟩ := hq
    have hR8 := hS8.1
    refine wp_iinc (v := nI (0 + 1)) dX5_tick_20 rfl (nI_1 _) ?_
    refine wp_goto (tgt := 8) dX5_tick_23 (by decide) ?_
    refine wp_iload_n (i := 2) dX5_tick_8 rfl rfl ?_
    refine wp_iload_n (i := 1) dX5_tick_9 rfl rfl ?_
    refine wp_icmp_ge (tgt := 26) dX5_tick_10 (by decide) (fun c10 => ?_) (fun c10 => ?_)
    · skip
      refine wp_aload_n (i := 0) dX5_tick_26 rfl rfl ?_
      refine wr_net dX5_tick_27 hR8 f_X5_10 ?_
      refine wp_callV (N := mX2_thingCount) (as := []) dX5_tick_30 l_X5_103 v_X2_thingCount rfl (hR8.oo (vs0 (n := 0) (by decide) (k := 0) (by decide)) (by decide)) rfl (by decide) (s_thingCount hR8 (by decide)) (fun v hp9 hq => ?_)
      obtain ⟨rfl, rfl⟩ := hq
      refine wp_ret (v := some (.int _)) dX5_tick_33 rfl ?_
      exact ⟨trivial, M8, ⟨hS8, hE8⟩, hM8, rfl⟩
    · skip
      exact absurd c10 (show ¬ nI (0 + 1) < nI 1 by decide)
end CACHE2
