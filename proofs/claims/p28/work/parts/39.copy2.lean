/-! ===== copies, II ===== -/
def PS (f : Nat) : Nat → Nat → Nat → Nat → Prop := fun g a b k => a = f ∧ b = 0 ∧ ((g = 4 ∧ (k < 2 ∨ k = 4)) ∨ (g = 5 ∧ k < 4))
def PC (c : Nat) : Nat → Nat → Nat → Nat → Prop := fun g a b k => a = c ∧ ((g = 2 ∧ b < 12 ∧ k < 8) ∨ (g = 3 ∧ b = 0 ∧ k < 12) ∨ (g = 1 ∧ b = 0 ∧ (k = 2 ∨ (4 ≤ k ∧ k < 12))))
section COPY2
variable {L : Nat} {xs : Nat → Int32} {d : Nat} {hp : AH} {M : MS} {n n' c f : Nat}
theorem w_shc_18 (hn : n < 2) (hn' : n' < 2) (hne : n' ≠ n) (hf : f < 12) {M0 : MS} : ∀ (m i : Nat), 4 - i = m → i ≤ 4 → ∀ (hp : AH) (M : MS), Rep hp M → CP n n' (fun g a b k => a = f ∧ b = 0 ∧ ((g = 4 ∧ k < 2) ∨ (g = 5 ∧ k < i))) (fun _ _ => False) M0 M → WP L xs (d + 2) mX3_copyFrom 18 [some (.ref (xi 4 n f 0)), some (.ref (xi 4 n' f 0)), some (.int (nI i))] [] hp (fun v hp' => retOk mX3_copyFrom.2.2.2 v ∧ v = none ∧ ∃ M', Rep hp' M' ∧ CP n n' (PS f) (fun y a => y = 1 ∧ a = f) M0 M') := by
  intro m
  induction m using Nat.strongRecOn with
  | ind m ih =>
    intro i hm hi0 hp M hR hM
    subst hm
    refine wp_iload_n (i := 2) dX3_copyFrom_18 rfl rfl ?_
    refine wp_iconst (v := 4) dX3_copyFrom_19 rfl ?_
    refine wp_icmp_ge (tgt := 41) dX3_copyFrom_20 (by decide) (fun c20 => ?_) (fun c20 => ?_)
    · skip
      refine wp_aload_n (i := 0) dX3_copyFrom_41 rfl rfl ?_
      refine wr_sheR (j := xt 1 n f) dX3_copyFrom_42 hR f_X3_20 hn hf (Or.inr ⟨rfl, rfl⟩) ?_
      refine wp_aload_n (i := 1) dX3_copyFrom_45 rfl rfl ?_
      refine wr_sheR (j := xt 1 n' f) dX3_copyFrom_46 hR f_X3_20 hn' hf (Or.inr ⟨rfl, rfl⟩) ?_
      refine wp_callV (N := mX4_copyFrom) (as := [.ref (xt 1 n' f)]) dX3_copyFrom_49 l_X3_54 v_X4_copyFrom rfl (hR.oT (vt1 hn hf)) rfl (by decide) (s_tabCopy hR (vt1 hn hf) (vt1 hn' hf) (fun q => hne q.1)) (fun v hp8 hq => ?_)
      obtain ⟨rfl, hR8⟩ := hq
      have hT8 := CP.tab (n := n) (n' := n') hR (vt1 hn hf) (vt1 hn' hf)
      refine wp_aload_n (i := 0) dX3_copyFrom_52 rfl rfl ?_
      refine wp_aload_n (i := 1) dX3_copyFrom_53 rfl rfl ?_
      refine wr_get (g := 4) (n := n') (a := f) (b := 0) (k := 4) dX3_copyFrom_54 hR8 f_X3_58 (vs4 hn' hf (by decide)) (by decide) (by decide) ?_
      refine wr_put (g := 4) (n := n) (a := f) (b := 0) (k := 4) dX3_copyFrom_57 hR8 (p_X3_58 rfl) (vs4 hn hf (by decide)) (by decide) (by decide) (okB rfl (hR8.bool (vs4 hn' hf (by decide)) rfl (by decide))) (fun hp2 hR1 => ?_)
      refine wp_ret (v := none) dX3_copyFrom_60 rfl ?_
      have e9 : i = 4 := by
        rcases Nat.lt_or_ge i 4 with q | q
        · exact absurd (nI_lt q (by decide)) c20
        · omega
      subst e9
      refine ⟨trivial, rfl, _, hR1, ?_⟩
      exact (hM.trans (P2 := fun g a b k => a = f ∧ b = 0 ∧ ((g = 4 ∧ k < 2) ∨ (g = 5 ∧ k < 4))) (Q2 := fun y a => y = 1 ∧ a = f) hne hT8 (fun g a b k => by simp) (fun y a => by simp)).trans hne (CP.one _ 4 f 0 4) (fun g a b k => by unfold PS; omega) (fun y a => by simp)
    · skip
      have hi9 : i < 4 := (nI_ltI (by omega) (by decide)).mp c20
      refine wp_aload_n (i := 0) dX3_copyFrom_23 rfl rfl ?_
      refine wr_sheR (j := xi 5 n f 0) dX3_copyFrom_24 hR f_X3_9 hn hf (Or.inl ⟨rfl, rfl⟩) ?_
      refine wp_iload_n (i := 2) dX3_copyFrom_27 rfl rfl ?_
      refine wp_aload_n (i := 1) dX3_copyFrom_28 rfl rfl ?_
      refine wr_sheR (j := xi 5 n' f 0) dX3_copyFrom_29 hR f_X3_9 hn' hf (Or.inl ⟨rfl, rfl⟩) ?_
      refine wp_iload_n (i := 2) dX3_copyFrom_32 rfl rfl ?_
      refine wr_untG (k := i) dX3_copyFrom_33 hR rfl (vs5 hn' hf hi9) ?_
      refine wr_untP (k := i) dX3_copyFrom_34 hR rfl (vs5 hn hf hi9) (fun hp4 hR3 => ?_)
      refine wp_iinc (v := nI (i + 1)) dX3_copyFrom_35 rfl (nI_1 _) ?_
      refine wp_goto (tgt := 18) dX3_copyFrom_38 (by decide) ?_
      exact ih (4 - (i + 1)) (by omega) (i + 1) rfl (by omega) _ _ hR3 (hM.trans hne (CP.one M 5 f 0 i) (fun g a b k => by omega) (fun y a => by simp))
theorem s_shCopy (hR : Rep hp M) (hn : n < 2) (hn' : n' < 2) (hne : n' ≠ n) (hf : f < 12) : WM L xs (d + 2) mX3_copyFrom [.ref (xi 4 n f 0), .ref (xi 4 n' f 0)] hp (fun v hp' => v = none ∧ ∃ M', Rep hp' M' ∧ CP n n' (PS f) (fun y a => y = 1 ∧ a = f) M M') := by
  refine WM.of [some (.ref _), some (.ref _), none] (by decide) rfl (Nat.le_of_ble_eq_true rfl) ?_
  refine wp_aload_n (i := 0) dX3_copyFrom_0 rfl rfl ?_
  refine wp_aload_n (i := 1) dX3_copyFrom_1 rfl rfl ?_
  refine wr_get (g := 4) (n := n') (a := f) (b := 0) (k := 0) dX3_copyFrom_2 hR f_X3_40 (vs4 hn' hf (by decide)) (by decide) (by decide) ?_
  refine wr_put (g := 4) (n := n) (a := f) (b := 0) (k := 0) dX3_copyFrom_5 hR (p_X3_40 rfl) (vs4 hn hf (by decide)) (by decide) (by decide) (okI rfl) (fun hp2 hR1 => ?_)
  refine wp_aload_n (i := 0) dX3_copyFrom_8 rfl rfl ?_
  refine wp_aload_n (i := 1) dX3_copyFrom_9 rfl rfl ?_
  refine wr_get (g := 4) (n := n') (a := f) (b := 0) (k := 1) dX3_copyFrom_10 hR1 f_X3_44 (vs4 hn' hf (by decide)) (by decide) (by decide) ?_
  refine wr_put (g := 4) (n := n) (a := f) (b := 0) (k := 1) dX3_copyFrom_13 hR1 (p_X3_44 rfl) (vs4 hn hf (by decide)) (by decide) (by decide) (okI rfl) (fun hp4 hR3 => ?_)
  refine wp_iconst (v := 0) dX3_copyFrom_16 rfl ?_
  refine wp_istore_n (i := 2) dX3_copyFrom_17 rfl (Nat.le_of_ble_eq_true rfl) ?_
  exact w_shc_18 hn hn' hne hf 4 0 rfl (by decide) _ _ hR3 ((CP.one M 4 f 0 0).trans hne (CP.one _ 4 f 0 1) (fun g a b k => by omega) (fun y a => by simp))
theorem w_clc_2 (hn : n < 2) (hn' : n' < 2) (hne : n' ≠ n) (hc : c < 4) {M0 : MS} : ∀ (m i : Nat), 12 - i = m → i ≤ 12 → ∀ (hp : AH) (M : MS), Rep hp M → CP n n' (fun g a b k => a = c ∧ ((g = 2 ∧ b < i ∧ k < 8) ∨ (g = 3 ∧ b = 0 ∧ k < i))) (fun _ _ => False) M0 M → WP L xs (d + 2) mX0_copyFrom 2 [some (.ref (xi 1 n c 0)), some (.ref (xi 1 n' c 0)), some (.int (nI i))] [] hp (fun v hp' => retOk mX0_copyFrom.2.2.2 v ∧ v = none ∧ ∃ M', Rep hp' M' ∧ CP n n' (PC c) (fun y a => y = 0 ∧ a = c) M0 M') := by
  intro m
  induction m using Nat.strongRecOn with
  | ind m ih =>
    intro i hm hi0 hp M hR hM
    subst hm
    refine wp_iload_n (i := 2) dX0_copyFrom_2 rfl rfl ?_
    refine wp_bipush (v := nI 12) dX0_copyFrom_3 (by decide) ?_
    refine wp_icmp_ge (tgt := 41) dX0_copyFrom_5 (by decide) (fun c5 => ?_) (fun c5 => ?_)
    · skip
      refine wp_aload_n (i := 0) dX0_copyFrom_41 rfl rfl ?_
      refine wp_aload_n (i := 1) dX0_copyFrom_42 rfl rfl ?_
      refine wr_get (g := 1) (n := n') (a := c) (b := 0) (k := 2) dX0_copyFrom_43 hR f_X0_52 (vs1 hn' hc (by decide)) (by decide) (by decide) ?_
      refine wr_put (g := 1) (n := n) (a := c) (b := 0) (k := 2) dX0_copyFrom_46 hR (p_X0_52 rfl) (vs1 hn hc (by decide)) (by decide) (by decide) (okI rfl) (fun hp2 hR1 => ?_)
      refine wp_aload_n (i := 0) dX0_copyFrom_49 rfl rfl ?_
      refine wr_cliR (j := xt 0 n c) dX0_copyFrom_50 hR1 f_X0_26 hn hc (Or.inr (Or.inr ⟨rfl, rfl⟩)) ?_
      refine wp_aload_n (i := 1) dX0_copyFrom_53 rfl rfl ?_
      refine wr_cliR (j := xt 0 n' c) dX0_copyFrom_54 hR1 f_X0_26 hn' hc (Or.inr (Or.inr ⟨rfl, rfl⟩)) ?_
      refine wp_callV (N := mX4_copyFrom) (as := [.ref (xt 0 n' c)]) dX0_copyFrom_57 l_X0_131 v_X4_copyFrom rfl (hR1.oT (vt0 hn hc)) rfl (by decide) (s_tabCopy hR1 (vt0 hn hc) (vt0 hn' hc) (fun q => hne q.1)) (fun v hp8 hq => ?_)
      obtain ⟨rfl, hR8⟩ := hq
      have hT8 := CP.tab (n := n) (n' := n') hR1 (vt0 hn hc) (vt0 hn' hc)
      refine wp_aload_n (i := 0) dX0_copyFrom_60 rfl rfl ?_
      refine wp_aload_n (i := 1) dX0_copyFrom_61 rfl rfl ?_
      refine wr_get (g := 1) (n := n') (a := c) (b := 0) (k := 4) dX0_copyFrom_62 hR8 f_X0_30 (vs1 hn' hc (by decide)) (by decide) (by decide) ?_
      refine wr_put (g := 1) (n := n) (a := c) (b := 0) (k := 4) dX0_copyFrom_65 hR8 (p_X0_30 rfl) (vs1 hn hc (by decide)) (by decide) (by decide) (okI rfl) (fun hp4 hR3 => ?_)
      refine wp_aload_n (i := 0) dX0_copyFrom_68 rfl rfl ?_
      refine wp_aload_n (i := 1) dX0_copyFrom_69 rfl rfl ?_
      refine wr_get (g := 1) (n := n') (a := c) (b := 0) (k := 5) dX0_copyFrom_70 hR3 f_X0_81 (vs1 hn' hc (by decide)) (by decide) (by decide) ?_
      refine wr_put (g := 1) (n := n) (a := c) (b := 0) (k := 5) dX0_copyFrom_73 hR3 (p_X0_81 rfl) (vs1 hn hc (by decide)) (by decide) (by decide) (okI rfl) (fun hp6 hR5 => ?_)
      refine wp_aload_n (i := 0) dX0_copyFrom_76 rfl rfl ?_
      refine wp_aload_n (i := 1) dX0_copyFrom_77 rfl rfl ?_
      refine wr_get (g := 1) (n := n') (a := c) (b := 0) (k := 6) dX0_copyFrom_78 hR5 f_X0_35 (vs1 hn' hc (by decide)) (by decide) (by decide) ?_
      refine wr_put (g := 1) (n := n) (a := c) (b := 0) (k := 6) dX0_copyFrom_81 hR5 (p_X0_35 rfl) (vs1 hn hc (by decide)) (by decide) (by decide) (okB rfl (hR5.bool (vs1 hn' hc (by decide)) rfl (by decide))) (fun hp8 hR7 => ?_)
      refine wp_aload_n (i := 0) dX0_copyFrom_84 rfl rfl ?_
      refine wp_aload_n (i := 1) dX0_copyFrom_85 rfl rfl ?_
      refine wr_get (g := 1) (n := n') (a := c) (b := 0) (k := 7) dX0_copyFrom_86 hR7 f_X0_110 (vs1 hn' hc (by decide)) (by decide) (by decide) ?_
      refine wr_put (g := 1) (n := n) (a := c) (b := 0) (k := 7) dX0_copyFrom_89 hR7 (p_X0_110 rfl) (vs1 hn hc (by decide)) (by decide) (by decide) (okI rfl) (fun hp10 hR9 => ?_)
      refine wp_aload_n (i := 0) dX0_copyFrom_92 rfl rfl ?_
      refine wp_aload_n (i := 1) dX0_copyFrom_93 rfl rfl ?_
      refine wr_get (g := 1) (n := n') (a := c) (b := 0) (k := 8) dX0_copyFrom_94 hR9 f_X0_113 (vs1 hn' hc (by decide)) (by decide) (by decide) ?_
      refine wr_put (g := 1) (n := n) (a := c) (b := 0) (k := 8) dX0_copyFrom_97 hR9 (p_X0_113 rfl) (vs1 hn hc (by decide)) (by decide) (by decide) (okI rfl) (fun hp12 hR11 => ?_)
      refine wp_aload_n (i := 0) dX0_copyFrom_100 rfl rfl ?_
      refine wp_aload_n (i := 1) dX0_copyFrom_101 rfl rfl ?_
      refine wr_get (g := 1) (n := n') (a := c) (b := 0) (k := 9) dX0_copyFrom_102 hR11 f_X0_78 (vs1 hn' hc (by decide)) (by decide) (by decide) ?_
      refine wr_put (g := 1) (n := n) (a := c) (b := 0) (k := 9) dX0_copyFrom_105 hR11 (p_X0_78 rfl) (vs1 hn hc (by decide)) (by decide) (by decide) (okI rfl) (fun hp14 hR13 => ?_)
      refine wp_aload_n (i := 0) dX0_copyFrom_108 rfl rfl ?_
      refine wp_aload_n (i := 1) dX0_copyFrom_109 rfl rfl ?_
      refine wr_get (g := 1) (n := n') (a := c) (b := 0) (k := 10) dX0_copyFrom_110 hR13 f_X0_75 (vs1 hn' hc (by decide)) (by decide) (by decide) ?_
      refine wr_put (g := 1) (n := n) (a := c) (b := 0) (k := 10) dX0_copyFrom_113 hR13 (p_X0_75 rfl) (vs1 hn hc (by decide)) (by decide) (by decide) (okI rfl) (fun hp16 hR15 => ?_)
      refine wp_aload_n (i := 0) dX0_copyFrom_116 rfl rfl ?_
      refine wp_aload_n (i := 1) dX0_copyFrom_117 rfl rfl ?_
      refine wr_get (g := 1) (n := n') (a := c) (b := 0) (k := 11) dX0_copyFrom_118 hR15 f_X0_116 (vs1 hn' hc (by decide)) (by decide) (by decide) ?_
      refine wr_put (g := 1) (n := n) (a := c) (b := 0) (k := 11) dX0_copyFrom_121 hR15 (p_X0_116 rfl) (vs1 hn hc (by decide)) (by decide) (by decide) (okI rfl) (fun hp18 hR17 => ?_)
      refine wp_ret (v := none) dX0_copyFrom_124 rfl ?_
      have e9 : i = 12 := by
        rcases Nat.lt_or_ge i 12 with q | q
        · exact absurd (nI_lt q (by decide)) c5
        · omega
      subst e9
      have k1 := hM.trans (P2 := fun g a b k => a = c ∧ ((g = 2 ∧ b < 12 ∧ k < 8) ∨ (g = 3 ∧ b = 0 ∧ k < 12) ∨ (g = 1 ∧ b = 0 ∧ k = 2))) (Q2 := fun _ _ => False) hne (CP.one M 1 c 0 2) (fun g a b k => by omega) (fun y a => by simp)
      have k2 := k1.trans (P2 := fun g a b k => a = c ∧ ((g = 2 ∧ b < 12 ∧ k < 8) ∨ (g = 3 ∧ b = 0 ∧ k < 12) ∨ (g = 1 ∧ b = 0 ∧ k = 2))) (Q2 := fun y a => y = 0 ∧ a = c) hne hT8 (fun g a b k => by simp) (fun y a => by simp)
      have k3 := k2.trans (P2 := fun g a b k => a = c ∧ ((g = 2 ∧ b < 12 ∧ k < 8) ∨ (g = 3 ∧ b = 0 ∧ k < 12) ∨ (g = 1 ∧ b = 0 ∧ (k = 2 ∨ (4 ≤ k ∧ k < 5))))) (Q2 := fun y a => y = 0 ∧ a = c) hne (CP.one _ 1 c 0 4) (fun g a b k => by omega) (fun y a => by simp)
      have k4 := k3.trans (P2 := fun g a b k => a = c ∧ ((g = 2 ∧ b < 12 ∧ k < 8) ∨ (g = 3 ∧ b = 0 ∧ k < 12) ∨ (g = 1 ∧ b = 0 ∧ (k = 2 ∨ (4 ≤ k ∧ k < 6))))) (Q2 := fun y a => y = 0 ∧ a = c) hne (CP.one _ 1 c 0 5) (fun g a b k => by omega) (fun y a => by simp)
      have k5 := k4.trans (P2 := fun g a b k => a = c ∧ ((g = 2 ∧ b < 12 ∧ k < 8) ∨ (g = 3 ∧ b = 0 ∧ k < 12) ∨ (g = 1 ∧ b = 0 ∧ (k = 2 ∨ (4 ≤ k ∧ k < 7))))) (Q2 := fun y a => y = 0 ∧ a = c) hne (CP.one _ 1 c 0 6) (fun g a b k => by omega) (fun y a => by simp)
      have k6 := k5.trans (P2 := fun g a b k => a = c ∧ ((g = 2 ∧ b < 12 ∧ k < 8) ∨ (g = 3 ∧ b = 0 ∧ k < 12) ∨ (g = 1 ∧ b = 0 ∧ (k = 2 ∨ (4 ≤ k ∧ k < 8))))) (Q2 := fun y a => y = 0 ∧ a = c) hne (CP.one _ 1 c 0 7) (fun g a b k => by omega) (fun y a => by simp)
      have k7 := k6.trans (P2 := fun g a b k => a = c ∧ ((g = 2 ∧ b < 12 ∧ k < 8) ∨ (g = 3 ∧ b = 0 ∧ k < 12) ∨ (g = 1 ∧ b = 0 ∧ (k = 2 ∨ (4 ≤ k ∧ k < 9))))) (Q2 := fun y a => y = 0 ∧ a = c) hne (CP.one _ 1 c 0 8) (fun g a b k => by omega) (fun y a => by simp)
      have k8 := k7.trans (P2 := fun g a b k => a = c ∧ ((g = 2 ∧ b < 12 ∧ k < 8) ∨ (g = 3 ∧ b = 0 ∧ k < 12) ∨ (g = 1 ∧ b = 0 ∧ (k = 2 ∨ (4 ≤ k ∧ k < 10))))) (Q2 := fun y a => y = 0 ∧ a = c) hne (CP.one _ 1 c 0 9) (fun g a b k => by omega) (fun y a => by simp)
      have k9 := k8.trans (P2 := fun g a b k => a = c ∧ ((g = 2 ∧ b < 12 ∧ k < 8) ∨ (g = 3 ∧ b = 0 ∧ k < 12) ∨ (g = 1 ∧ b = 0 ∧ (k = 2 ∨ (4 ≤ k ∧ k < 11))))) (Q2 := fun y a => y = 0 ∧ a = c) hne (CP.one _ 1 c 0 10) (fun g a b k => by omega) (fun y a => by simp)
      have k10 := k9.trans (P2 := fun g a b k => a = c ∧ ((g = 2 ∧ b < 12 ∧ k < 8) ∨ (g = 3 ∧ b = 0 ∧ k < 12) ∨ (g = 1 ∧ b = 0 ∧ (k = 2 ∨ (4 ≤ k ∧ k < 12))))) (Q2 := fun y a => y = 0 ∧ a = c) hne (CP.one _ 1 c 0 11) (fun g a b k => by omega) (fun y a => by simp)
      exact ⟨trivial, rfl, _, hR17, k10⟩
    · skip
      have hi9 : i < 12 := (nI_ltI (by omega) (by decide)).mp c5
      refine wp_aload_n (i := 0) dX0_copyFrom_8 rfl rfl ?_
      refine wr_cliR (j := rF n c) dX0_copyFrom_9 hR f_X0_11 hn hc (Or.inl ⟨rfl, rfl⟩) ?_
      refine wp_iload_n (i := 2) dX0_copyFrom_12 rfl rfl ?_
      refine wr_aF (f := i) dX0_copyFrom_13 hR rfl hn hc hi9 ?_
      refine wp_aload_n (i := 1) dX0_copyFrom_14 rfl rfl ?_
      refine wr_cliR (j := rF n' c) dX0_copyFrom_15 hR f_X0_11 hn' hc (Or.inl ⟨rfl, rfl⟩) ?_
      refine wp_iload_n (i := 2) dX0_copyFrom_18 rfl rfl ?_
      refine wr_aF (f := i) dX0_copyFrom_19 hR rfl hn' hc hi9 ?_
      refine wp_callV (N := mX1_copyFrom) (as := [.ref (xi 2 n' c i)]) dX0_copyFrom_20 l_X0_127 v_X1_copyFrom rfl (hR.oo (vs2 hn hc hi9 (k := 0) (by decide)) (by decide)) rfl (by decide) (s_heCopy hR hn hn' hne hc hi9) (fun v hp9 hq => ?_)
      obtain ⟨rfl, M9, hR9, hC9⟩ := hq
      have hM9 := hM.trans (P2 := fun g a b k => a = c ∧ ((g = 2 ∧ b < i + 1 ∧ k < 8) ∨ (g = 3 ∧ b = 0 ∧ k < i))) (Q2 := fun _ _ => False) hne hC9 (fun g a b k => by omega) (fun y a => by simp)
      refine wp_aload_n (i := 0) dX0_copyFrom_23 rfl rfl ?_
      refine wr_cliR (j := xi 3 n c 0) dX0_copyFrom_24 hR9 f_X0_17 hn hc (Or.inr (Or.inl ⟨rfl, rfl⟩)) ?_
      refine wp_iload_n (i := 2) dX0_copyFrom_27 rfl rfl ?_
      refine wp_aload_n (i := 1) dX0_copyFrom_28 rfl rfl ?_
      refine wr_cliR (j := xi 3 n' c 0) dX0_copyFrom_29 hR9 f_X0_17 hn' hc (Or.inr (Or.inl ⟨rfl, rfl⟩)) ?_
      refine wp_iload_n (i := 2) dX0_copyFrom_32 rfl rfl ?_
      refine wr_ordG (k := i) dX0_copyFrom_33 hR9 rfl (vs3 hn' hc hi9) ?_
      refine wr_ordP (k := i) dX0_copyFrom_34 hR9 rfl (vs3 hn hc hi9) (fun hp20 hR19 => ?_)
      refine wp_iinc (v := nI (i + 1)) dX0_copyFrom_35 rfl (nI_1 _) ?_
      refine wp_goto (tgt := 2) dX0_copyFrom_38 (by decide) ?_
      exact ih (12 - (i + 1)) (by omega) (i + 1) rfl (by omega) _ _ hR19 (hM9.trans hne (CP.one M9 3 c 0 i) (fun g a b k => by omega) (fun y a => by simp))
theorem s_clCopy (hR : Rep hp M) (hn : n < 2) (hn' : n' < 2) (hne : n' ≠ n) (hc : c < 4) : WM L xs (d + 2) mX0_copyFrom [.ref (xi 1 n c 0), .ref (xi 1 n' c 0)] hp (fun v hp' => v = none ∧ ∃ M', Rep hp' M' ∧ CP n n' (PC c) (fun y a => y = 0 ∧ a = c) M M') := by
  refine WM.of [some (.ref _), some (.ref _), none] (by decide) rfl (Nat.le_of_ble_eq_true rfl) ?_
  refine wp_iconst (v := 0) dX0_copyFrom_0 rfl ?_
  refine wp_istore_n (i := 2) dX0_copyFrom_1 rfl (Nat.le_of_ble_eq_true rfl) ?_
  exact w_clc_2 hn hn' hne hc 12 0 rfl (by decide) _ _ hR (CP.rfl' _ _ _ (fun g a b k => by omega) (fun _ _ q => q))
end COPY2
