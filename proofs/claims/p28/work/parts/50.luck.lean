/-! ===== luck ===== -/
def lkv (a b : Nat) : UInt64 := if b = 0 then FP.dconst0 else FP.ddiv (FP.i2d (nI a)) (FP.i2d (nI b))
theorem lk_ok : ∀ b, b < 49 → ∀ a, a < b + 1 → (¬ b = 0 → FP.ddiv (FP.i2d (nI a)) (FP.i2d (nI b)) &&& 0x7fffffffffffffff ≤ 0x7ff0000000000000) ∧ ¬ Op.cmpValue (FP.dcmp (lkv a b) FP.dconst0) .g < 0 ∧ ¬ 0 < Op.cmpValue (FP.dcmp (lkv a b) FP.dconst1) .l := by decide +kernel
section LUCK
variable {L : Nat} {xs : Nat → Int32} {d : Nat} {hp : AH} {M : MS} {zB tB clk cc K : Nat} {D : Nat → Nat} {ev : Bool} {c f p q : Nat}
/-- luck -/
theorem s_luck (h : S0 hp M zB tB clk cc K D ev) (hc : c < cc) (hh : gV M 1 0 c 0 7 = nI q) (hm : gV M 1 0 c 0 8 = nI p) (h48 : q + p ≤ 48) : WM L xs (d + 2) mX5_luck [.ref 1, .int (nI c)] hp (fun v hp' => hp' = hp ∧ v = some (.double (lkv q (q + p)))) := by
  have hR := h.1.1
  obtain ⟨b1, b2, b3, b4, b5⟩ := h.1.2.2.1.1
  have hc4 : c < 4 := by omega
  refine WM.of [some (.ref _), some (.int (nI c)), none, none] (by decide) rfl (Nat.le_of_ble_eq_true rfl) ?_
  refine wp_aload_n (i := 0) dX5_luck_0 rfl rfl ?_
  refine wp_iload_n (i := 1) dX5_luck_1 rfl rfl ?_
  refine wp_callV (N := mX5_checkClient) (as := [.int (nI c)]) dX5_luck_2 l_X5_52 v_X5_checkClient rfl hR.top.1 rfl (by decide) (s_checkClient hR b4 b2 hc) (fun v hp9 hq => ?_)
  obtain ⟨rfl, rfl⟩ := hq
  refine wp_aload_n (i := 0) dX5_luck_5 rfl rfl ?_
  refine wr_net dX5_luck_6 hR f_X5_10 ?_
  refine wr_netR (j := rC 0) dX5_luck_9 hR f_X5_60 (by decide) (Or.inl ⟨rfl, rfl⟩) ?_
  refine wp_iload_n (i := 1) dX5_luck_12 rfl rfl ?_
  refine wr_aC (c := c) dX5_luck_13 hR rfl (by decide) hc4 ?_
  refine wp_astore_n (i := 2) dX5_luck_14 rfl (Nat.le_of_ble_eq_true rfl) ?_
  refine wp_aload_n (i := 2) dX5_luck_15 rfl rfl ?_
  refine wr_get (g := 1) (n := 0) (a := c) (b := 0) (k := 7) dX5_luck_16 hR f_X5_162 (vs1 (by decide) hc4 (by decide)) (by decide) (by decide) ?_
  refine wp_aload_n (i := 2) dX5_luck_19 rfl rfl ?_
  refine wr_get (g := 1) (n := 0) (a := c) (b := 0) (k := 8) dX5_luck_20 hR f_X5_165 (vs1 (by decide) hc4 (by decide)) (by decide) (by decide) ?_
  refine wp_iadd dX5_luck_23 ?_
  rw [hh, hm, nI_add]
  refine wp_istore_n (i := 3) dX5_luck_24 rfl (Nat.le_of_ble_eq_true rfl) ?_
  refine wp_iload_n (i := 3) dX5_luck_25 rfl rfl ?_
  refine wp_if_ne (tgt := 33) dX5_luck_26 (by decide) (fun c26 => ?_) (fun c26 => ?_)
  · skip
    refine wp_aload_n (i := 2) dX5_luck_33 rfl rfl ?_
    refine wr_get (g := 1) (n := 0) (a := c) (b := 0) (k := 7) dX5_luck_34 hR f_X5_162 (vs1 (by decide) hc4 (by decide)) (by decide) (by decide) ?_
    rw [hh]
    refine wp_i2d dX5_luck_37 ?_
    refine wp_iload_n (i := 3) dX5_luck_38 rfl rfl ?_
    refine wp_i2d dX5_luck_39 ?_
    have hz : ¬ q + p = 0 := fun z => c26 (by rw [z]; rfl)
    refine wp_ddiv dX5_luck_40 ((lk_ok (q + p) (by omega) q (by omega)).1 hz) ?_
    refine wp_ret (v := some (.double _)) dX5_luck_41 rfl ?_
    exact ⟨trivial, rfl, by unfold lkv; rw [if_neg hz]⟩
  · skip
    refine wp_dconst0 dX5_luck_29 ?_
    refine wp_goto (tgt := 41) dX5_luck_30 (by decide) ?_
    refine wp_ret (v := some (.double _)) dX5_luck_41 rfl ?_
    have hz : q + p = 0 := (nI_eq (by omega) (by decide)).mp c26
    exact ⟨trivial, rfl, by unfold lkv; rw [if_pos hz]⟩
end LUCK
