/-! ===== the law, from its start ===== -/
section LAW6
variable {L : Nat} {xs : Nat → Int32} {d cc : Nat}
/-- the clients are added -/
theorem w_lw_22 (hL : L ≤ 260) (h2 : 2 ≤ cc) (h4 : cc ≤ 4) : ∀ (m c : Nat), cc - c = m → c ≤ cc → ∀ (hp : AH) (M : MS) (D : Nat → Nat) (l4 l5 l6 l7 l8 l9 l10 l11 l12 : Option Value), Fr hp M 0 0 c D → WP L xs (d + 9) mL_law 22 [some (.ref 0), some (.ref 1), some (.int (nI cc)), some (.int (nI c)), l4, l5, l6, l7, l8, l9, l10, l11, l12] [] hp (fun v hp' => v = some (.int 1) ∧ hsz hp' ≤ 600130 ∧ htot hp' ≤ 7301080) := by
  intro m
  induction m using Nat.strongRecOn with
  | ind m ih =>
    intro c hm hc0 hp M D l4 l5 l6 l7 l8 l9 l10 l11 l12 h
    have hR := h.1.1.1
    subst hm
    refine wp_iload_n (i := 3) dL_law_22 rfl rfl ?_
    refine wp_iload_n (i := 2) dL_law_23 rfl rfl ?_
    refine wp_icmp_ge (tgt := 67) dL_law_24 (by decide) (fun c24 => ?_) (fun c24 => ?_)
    · skip
      have e9 : c = cc := by
        rcases Nat.lt_or_ge c cc with q | q
        · exact absurd (nI_lt q (by omega)) c24
        · omega
      subst e9
      refine wp_iload_n (i := 2) dL_law_67 rfl rfl ?_
      refine wp_newI (n := c) dL_law_68 arrI_in rfl (by omega) ?_
      refine wp_astore_n (i := 3) dL_law_70 rfl (Nat.le_of_ble_eq_true rfl) ?_
      refine wp_iconst (v := 0) dL_law_71 rfl ?_
      refine wp_istore dL_law_72 (Nat.le_of_ble_eq_true rfl) ?_
      refine wp_iconst (v := nI 0) dL_law_74 (by decide) ?_
      refine wp_istore dL_law_75 (Nat.le_of_ble_eq_true rfl) ?_
      have hz : hsz hp = mz M := hR.2.1
      refine w_lw_77 hL 48 0 rfl (by decide) _ (nX M c) 0 _ _ _ _ _ _ _ ⟨0 + 1, 0 + c, 0, 0, D, false, fun _ => 0, fun _ => 0, fun _ => 0, h.1.newX c, h2, Nat.le_refl _, Nat.le_refl _, by omega, by omega, rfl, fun c' hc' => ⟨(h.2.2 c' (by omega)).1, (h.2.2 c' (by omega)).2, Nat.le_refl _, rfl⟩, ?_⟩
      rw [gX_nX, if_pos (by rw [hz])]
    · skip
      have hcc : c < cc := (nI_ltI (by omega) (by omega)).mp c24
      refine wp_aload_n (i := 1) dL_law_27 rfl rfl ?_
      refine wp_iconst (v := 1) dL_law_28 rfl ?_
      refine wp_aload_n (i := 0) dL_law_29 rfl rfl ?_
      refine wp_iconst (v := 0) dL_law_30 rfl ?_
      refine wp_callS (N := mL_cell) (as := [.ref 0, .int (nI 0)]) dL_law_31 l_L_12 v_L_cell rfl rfl (Nat.le_of_ble_eq_true rfl) (s_cell (by decide) hL) (fun v hp9 hq => ?_)
      obtain ⟨rfl, rfl⟩ := hq
      refine wp_iconst (v := 3) dL_law_34 rfl ?_
      refine wp_iload_n (i := 3) dL_law_35 rfl rfl ?_
      refine wp_imul dL_law_36 ?_
      refine wp_ishr dL_law_37 ?_
      refine wp_bipush (v := nI 6) dL_law_38 (by decide) ?_
      refine wp_callS (N := mL_below) (as := [.int _, .int (nI 6)]) dL_law_40 l_L_18 v_L_below rfl rfl (Nat.le_of_ble_eq_true rfl) (s_below _ (n := 6) (by decide) (by decide)) (fun v hp9 hq => ?_)
      obtain ⟨rfl, rfl⟩ := hq
      refine wp_iadd dL_law_43 ?_
      rw [show (1 : Int32) + nI (bel (cel L xs 0 >>> (3 * nI c &&& 31)) 6) = nI (1 + (bel (cel L xs 0 >>> (3 * nI c &&& 31)) 6)) from nI_add 1 _]
      refine wp_aload_n (i := 0) dL_law_44 rfl rfl ?_
      refine wp_iconst (v := 1) dL_law_45 rfl ?_
      refine wp_callS (N := mL_cell) (as := [.ref 0, .int (nI 1)]) dL_law_46 l_L_12 v_L_cell rfl rfl (Nat.le_of_ble_eq_true rfl) (s_cell (by decide) hL) (fun v hp9 hq => ?_)
      obtain ⟨rfl, rfl⟩ := hq
      refine wp_iconst (v := 2) dL_law_49 rfl ?_
      refine wp_iload_n (i := 3) dL_law_50 rfl rfl ?_
      refine wp_imul dL_law_51 ?_
      refine wp_ishr dL_law_52 ?_
      refine wp_iconst (v := 3) dL_law_53 rfl ?_
      refine wp_callS (N := mL_below) (as := [.int _, .int (nI 3)]) dL_law_54 l_L_18 v_L_below rfl rfl (Nat.le_of_ble_eq_true rfl) (s_below _ (n := 3) (by decide) (by decide)) (fun v hp9 hq => ?_)
      obtain ⟨rfl, rfl⟩ := hq
      refine wp_callV (N := mX5_addClient) (as := [.int (nI (1 + (bel (cel L xs 0 >>> (3 * nI c &&& 31)) 6))), .int (nI (bel (cel L xs 1 >>> (2 * nI c &&& 31)) 3))]) dL_law_57 l_L_22 v_X5_addClient rfl hR.top.1 rfl (Nat.le_of_ble_eq_true rfl) (s_addClient h (by omega) (by omega) (by have := bel_lt (cel L xs 0 >>> (3 * nI c &&& 31)) (n := 6) (by decide); omega) (by have := bel_lt (cel L xs 1 >>> (2 * nI c &&& 31)) (n := 3) (by decide); omega)) (fun v hp8 hq => ?_)
      obtain ⟨⟨x, rfl⟩, h8⟩ := hq
      refine wp_pop dL_law_60 rfl ?_
      refine wp_iinc (v := nI (c + 1)) dL_law_61 rfl (nI_1 _) ?_
      refine wp_goto (tgt := 22) dL_law_64 (by decide) ?_
      exact ih (cc - (c + 1)) (by omega) (c + 1) rfl (by omega) _ _ _ _ _ _ _ _ _ _ _ _ h8
abbrev hp0 : AH := (0, 0, (fun _ => (0, 0)), fun _ _ => .null)
/-- the law -/
theorem law_run (hL : L ≤ 260) : WP L xs (d + 9) mL_law 0 [some (.ref 0), none, none, none, none, none, none, none, none, none, none, none, none] [] hp0 (fun v hp' => v = some (.int 1) ∧ hsz hp' ≤ 600130 ∧ htot hp' ≤ 7301080) := by
  refine wp_new dL_law_0 n_L_9 ?_
  refine wp_dup dL_law_3 rfl ?_
  refine wp_callI (N := mX5_init) (as := []) (i := 1) dL_law_4 l_L_11 v_X5_init rfl (by decide) rfl (Nat.le_of_ble_eq_true rfl) (s_xInit rfl rfl rfl) (fun v hp9 hq => ?_)
  obtain ⟨rfl, hI⟩ := hq
  have hF := hI.fr
  have hR := hF.1.1.1
  refine wp_astore_n (i := 1) dL_law_7 rfl (Nat.le_of_ble_eq_true rfl) ?_
  refine wp_iconst (v := 2) dL_law_8 rfl ?_
  refine wp_aload_n (i := 0) dL_law_9 rfl rfl ?_
  refine wp_iconst (v := 0) dL_law_10 rfl ?_
  refine wp_callS (N := mL_cell) (as := [.ref 0, .int (nI 0)]) dL_law_11 l_L_12 v_L_cell rfl rfl (Nat.le_of_ble_eq_true rfl) (s_cell (by decide) hL) (fun v hp9 hq => ?_)
  obtain ⟨rfl, rfl⟩ := hq
  refine wp_iconst (v := 3) dL_law_14 rfl ?_
  refine wp_callS (N := mL_below) (as := [.int _, .int (nI 3)]) dL_law_15 l_L_18 v_L_below rfl rfl (Nat.le_of_ble_eq_true rfl) (s_below _ (n := 3) (by decide) (by decide)) (fun v hp9 hq => ?_)
  obtain ⟨rfl, rfl⟩ := hq
  refine wp_iadd dL_law_18 ?_
  have hb := bel_lt (cel L xs 0) (n := 3) (by decide)
  rw [show (2 : Int32) + nI (bel (cel L xs 0) 3) = nI (2 + bel (cel L xs 0) 3) from nI_add 2 _]
  refine wp_istore_n (i := 2) dL_law_19 rfl (Nat.le_of_ble_eq_true rfl) ?_
  refine wp_iconst (v := 0) dL_law_20 rfl ?_
  refine wp_istore_n (i := 3) dL_law_21 rfl (Nat.le_of_ble_eq_true rfl) ?_
  exact w_lw_22 hL (by omega) (by omega) _ 0 rfl (Nat.zero_le _) _ _ _ _ _ _ _ _ _ _ _ _ hF
end LAW6
