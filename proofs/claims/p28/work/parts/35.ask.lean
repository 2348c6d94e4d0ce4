/-! ===== Net: asked ===== -/
section ASK
variable {L : Nat} {xs : Nat → Int32} {d : Nat} {hp : AH} {M : MS} {n c f cc : Nat}
/-- how many things are on their way -/
def TN (M : MS) (n i : Nat) : Nat := sN i (fun k => (gT M 2 n k).length)
theorem w_tc_4 (hR : Rep hp M) (hn : n < 2) : ∀ (m i : Nat), 9 - i = m → i ≤ 9 → WP L xs d mX2_thingCount 4 [some (.ref (xi 0 n 0 0)), some (.int (nI (TN M n i))), some (.int (nI i))] [] hp (fun v hp' => retOk mX2_thingCount.2.2.2 v ∧ hp' = hp ∧ v = some (.int (nI (TN M n 9)))) := by
  intro m
  induction m using Nat.strongRecOn with
  | ind m ih =>
    intro i hm hi0
    subst hm
    refine wp_iload_n (i := 2) dX2_thingCount_4 rfl rfl ?_
    refine wp_bipush (v := nI 9) dX2_thingCount_5 (by decide) ?_
    refine wp_icmp_ge (tgt := 28) dX2_thingCount_7 (by decide) (fun c7 => ?_) (fun c7 => ?_)
    · skip
      have e9 : i = 9 := by
        rcases Nat.lt_or_ge i 9 with q | q
        · exact absurd (nI_lt q (by decide)) c7
        · omega
      subst e9
      refine wp_iload_n (i := 1) dX2_thingCount_28 rfl rfl ?_
      refine wp_ret (v := some (.int _)) dX2_thingCount_29 rfl ?_
      exact ⟨trivial, rfl, rfl⟩
    · skip
      have hi9 : i < 9 := (nI_ltI (by omega) (by decide)).mp c7
      refine wp_iload_n (i := 1) dX2_thingCount_10 rfl rfl ?_
      refine wp_aload_n (i := 0) dX2_thingCount_11 rfl rfl ?_
      refine wr_netR (j := rT n) dX2_thingCount_12 hR f_X2_35 hn (Or.inr (Or.inr ⟨rfl, rfl⟩)) ?_
      refine wp_iload_n (i := 2) dX2_thingCount_15 rfl rfl ?_
      refine wr_aT (k := i) dX2_thingCount_16 hR rfl hn hi9 ?_
      refine wr_rows dX2_thingCount_17 hR f_X2_59 (vt2 hn hi9) ?_
      refine wp_iadd dX2_thingCount_20 ?_
      rw [show nI (TN M n i) + nI (gT M 2 n i).length = nI (TN M n (i + 1)) from nI_add _ _]
      refine wp_istore_n (i := 1) dX2_thingCount_21 rfl (Nat.le_of_ble_eq_true rfl) ?_
      refine wp_iinc (v := nI (i + 1)) dX2_thingCount_22 rfl (nI_1 _) ?_
      refine wp_goto (tgt := 4) dX2_thingCount_25 (by decide) ?_
      have h9 := ih (9 - (i + 1)) (by omega) (i + 1) rfl (by omega)
      exact h9
/-- how many things are on their way -/
theorem s_thingCount (hR : Rep hp M) (hn : n < 2) : WM L xs d mX2_thingCount [.ref (xi 0 n 0 0)] hp (fun v hp' => hp' = hp ∧ v = some (.int (nI (TN M n 9)))) := by
  refine WM.of [some (.ref _), none, none] (by decide) rfl (Nat.le_of_ble_eq_true rfl) ?_
  refine wp_iconst (v := 0) dX2_thingCount_0 rfl ?_
  refine wp_istore_n (i := 1) dX2_thingCount_1 rfl (Nat.le_of_ble_eq_true rfl) ?_
  refine wp_iconst (v := 0) dX2_thingCount_2 rfl ?_
  refine wp_istore_n (i := 2) dX2_thingCount_3 rfl (Nat.le_of_ble_eq_true rfl) ?_
  exact w_tc_4 hR hn 9 0 rfl (by decide)
/-- a pair that is stale -/
def stl (M : MS) (n c f : Nat) (x : Int32) : Nat := if tru M n c f x (gV M 1 n c 0 6) ∧ gV M 2 n c f 4 = 0 ∧ ¬ gV M 2 n c f 2 = gV M 4 n f 0 1 then 1 else 0
def stC (M : MS) (n c : Nat) (x : Int32) (i : Nat) : Nat := sN i (fun f => stl M n c f x)
def stA (M : MS) (n : Nat) (x : Int32) (i : Nat) : Nat := sN i (fun c => stC M n c x 12)
theorem w_st_14 (hR : Rep hp M) (hn : n < 2) (hc4 : c < 4) {x : Int32} (hx : gV M 0 n 0 0 0 = x) (kk : ∀ (l4 : Nat), WP L xs (d + 1) mX2_staleCount 88 [some (.ref (xi 0 n 0 0)), some (.int (nI (stA M n x c + stC M n c x 12))), some (.int (nI c)), some (.int (nI 12)), some (.ref l4)] [] hp (fun v hp' => retOk mX2_staleCount.2.2.2 v ∧ hp' = hp ∧ v = some (.int (nI (stA M n x cc))))) : ∀ (m i : Nat), 12 - i = m → i ≤ 12 → ∀ (l4 : Option Value), (0 < i → ∃ a, l4 = some (.ref a)) → WP L xs (d + 1) mX2_staleCount 14 [some (.ref (xi 0 n 0 0)), some (.int (nI (stA M n x c + stC M n c x i))), some (.int (nI c)), some (.int (nI i)), l4] [] hp (fun v hp' => retOk mX2_staleCount.2.2.2 v ∧ hp' = hp ∧ v = some (.int (nI (stA M n x cc)))) := by
  intro m
  induction m using Nat.strongRecOn with
  | ind m ih =>
    intro i hm hi0 l4 hl4
    subst hm
    refine wp_iload_n (i := 3) dX2_staleCount_14 rfl rfl ?_
    refine wp_bipush (v := nI 12) dX2_staleCount_15 (by decide) ?_
    refine wp_icmp_ge (tgt := 88) dX2_staleCount_17 (by decide) (fun c17 => ?_) (fun c17 => ?_)
    · skip
      have e9 : i = 12 := by
        rcases Nat.lt_or_ge i 12 with q | q
        · exact absurd (nI_lt q (by decide)) c17
        · omega
      subst e9
      obtain ⟨a, rfl⟩ := hl4 (by decide)
      exact kk a
    · skip
      have hi9 : i < 12 := (nI_ltI (by omega) (by decide)).mp c17
      refine wp_aload_n (i := 0) dX2_staleCount_20 rfl rfl ?_
      refine wr_netR (j := rC n) dX2_staleCount_21 hR f_X2_23 hn (Or.inl ⟨rfl, rfl⟩) ?_
      refine wp_iload_n (i := 2) dX2_staleCount_24 rfl rfl ?_
      refine wr_aC (c := c) dX2_staleCount_25 hR rfl hn hc4 ?_
      refine wr_cliR (j := rF n c) dX2_staleCount_26 hR f_X2_86 hn hc4 (Or.inl ⟨rfl, rfl⟩) ?_
      refine wp_iload_n (i := 3) dX2_staleCount_29 rfl rfl ?_
      refine wr_aF (f := i) dX2_staleCount_30 hR rfl hn hc4 hi9 ?_
      refine wp_astore dX2_staleCount_31 (Nat.le_of_ble_eq_true rfl) ?_
      refine wp_aload dX2_staleCount_33 rfl ?_
      refine wp_aload_n (i := 0) dX2_staleCount_35 rfl rfl ?_
      refine wr_get (g := 0) (n := n) (a := 0) (b := 0) (k := 0) dX2_staleCount_36 hR f_X2_62 (vs0 hn (by decide)) (by decide) (by decide) ?_
      refine wp_aload_n (i := 0) dX2_staleCount_39 rfl rfl ?_
      refine wr_netR (j := rC n) dX2_staleCount_40 hR f_X2_23 hn (Or.inl ⟨rfl, rfl⟩) ?_
      refine wp_iload_n (i := 2) dX2_staleCount_43 rfl rfl ?_
      refine wr_aC (c := c) dX2_staleCount_44 hR rfl hn hc4 ?_
      refine wr_get (g := 1) (n := n) (a := c) (b := 0) (k := 6) dX2_staleCount_45 hR f_X2_82 (vs1 hn hc4 (by decide)) (by decide) (by decide) ?_
      rw [hx]
      refine wp_callV (N := mX1_isTrusted) dX2_staleCount_48 l_X2_105 v_X1_isTrusted rfl (hR.oo (vs2 hn hc4 hi9 (k := 0) (by decide)) (by decide)) rfl (by decide) (s_isTrusted hR hn hc4 hi9 x (gV M 1 n c 0 6)) (fun v hp9 hq => ?_)
      obtain ⟨rfl, rfl⟩ := hq
      refine wp_if_eq (tgt := 82) dX2_staleCount_51 (by decide) (fun c51 => ?_) (fun c51 => ?_)
      · skip
        refine wp_iinc (v := nI (i + 1)) dX2_staleCount_82 rfl (nI_1 _) ?_
        refine wp_goto (tgt := 14) dX2_staleCount_85 (by decide) ?_
        have e9 : stC M n c x (i + 1) = stC M n c x i := congrArg (stC M n c x i + ·) (if_neg (fun q => bI_eq.mp c51 q.1))
        have h9 := ih (12 - (i + 1)) (by omega) (i + 1) rfl (by omega) (some (.ref (xi 2 n c i))) (fun _ => ⟨_, rfl⟩)
        rw [e9] at h9
        exact h9
      · skip
        refine wp_aload dX2_staleCount_54 rfl ?_
        refine wr_get (g := 2) (n := n) (a := c) (b := i) (k := 4) dX2_staleCount_56 hR f_X2_131 (vs2 hn hc4 hi9 (by decide)) (by decide) (by decide) ?_
        refine wp_if_ne (tgt := 82) dX2_staleCount_59 (by decide) (fun c59 => ?_) (fun c59 => ?_)
        · skip
          refine wp_iinc (v := nI (i + 1)) dX2_staleCount_82 rfl (nI_1 _) ?_
          refine wp_goto (tgt := 14) dX2_staleCount_85 (by decide) ?_
          have e9 : stC M n c x (i + 1) = stC M n c x i := congrArg (stC M n c x i + ·) (if_neg (fun q => c59 q.2.1))
          have h9 := ih (12 - (i + 1)) (by omega) (i + 1) rfl (by omega) (some (.ref (xi 2 n c i))) (fun _ => ⟨_, rfl⟩)
          rw [e9] at h9
          exact h9
        · skip
          refine wp_aload dX2_staleCount_62 rfl ?_
          refine wr_get (g := 2) (n := n) (a := c) (b := i) (k := 2) dX2_staleCount_64 hR f_X2_98 (vs2 hn hc4 hi9 (by decide)) (by decide) (by decide) ?_
          refine wp_aload_n (i := 0) dX2_staleCount_67 rfl rfl ?_
          refine wr_netR (j := rS n) dX2_staleCount_68 hR f_X2_29 hn (Or.inr (Or.inl ⟨rfl, rfl⟩)) ?_
          refine wp_iload_n (i := 3) dX2_staleCount_71 rfl rfl ?_
          refine wr_aS (f := i) dX2_staleCount_72 hR rfl hn hi9 ?_
          refine wr_get (g := 4) (n := n) (a := i) (b := 0) (k := 1) dX2_staleCount_73 hR f_X2_202 (vs4 hn hi9 (by decide)) (by decide) (by decide) ?_
          refine wp_icmp_eq (tgt := 82) dX2_staleCount_76 (by decide) (fun c76 => ?_) (fun c76 => ?_)
          · skip
            refine wp_iinc (v := nI (i + 1)) dX2_staleCount_82 rfl (nI_1 _) ?_
            refine wp_goto (tgt := 14) dX2_staleCount_85 (by decide) ?_
            have e9 : stC M n c x (i + 1) = stC M n c x i := congrArg (stC M n c x i + ·) (if_neg (fun q => q.2.2 c76))
            have h9 := ih (12 - (i + 1)) (by omega) (i + 1) rfl (by omega) (some (.ref (xi 2 n c i))) (fun _ => ⟨_, rfl⟩)
            rw [e9] at h9
            exact h9
          · skip
            refine wp_iinc (v := nI ((stA M n x c + stC M n c x i) + 1)) dX2_staleCount_79 rfl (nI_1 _) ?_
            refine wp_iinc (v := nI (i + 1)) dX2_staleCount_82 rfl (nI_1 _) ?_
            refine wp_goto (tgt := 14) dX2_staleCount_85 (by decide) ?_
            rw [show nI (stA M n x c + stC M n c x i + 1) = nI (stA M n x c + stC M n c x (i + 1)) from by
              have e9 : stC M n c x (i + 1) = stC M n c x i + 1 := congrArg (stC M n c x i + ·) (if_pos ⟨bI_ne.mp c51, c59, c76⟩)
              rw [e9]; rfl]
            exact ih (12 - (i + 1)) (by omega) (i + 1) rfl (by omega) _ (fun _ => ⟨_, rfl⟩)
theorem w_st_4 (hR : Rep hp M) (hn : n < 2) {x : Int32} (hx : gV M 0 n 0 0 0 = x) (hcc : gV M 0 n 0 0 4 = nI cc) (h4 : cc ≤ 4) : ∀ (m c : Nat), cc - c = m → c ≤ cc → ∀ (l3 l4 : Option Value), (l3 = none ∧ l4 = none ∨ ∃ y a, l3 = some (.int y) ∧ l4 = some (.ref a)) → WP L xs (d + 1) mX2_staleCount 4 [some (.ref (xi 0 n 0 0)), some (.int (nI (stA M n x c))), some (.int (nI c)), l3, l4] [] hp (fun v hp' => retOk mX2_staleCount.2.2.2 v ∧ hp' = hp ∧ v = some (.int (nI (stA M n x cc)))) := by
  intro m
  induction m using Nat.strongRecOn with
  | ind m ih =>
    intro c hm hc0 l3 l4 hl
    subst hm
    rcases hl with ⟨rfl, rfl⟩ | ⟨y, a, rfl, rfl⟩
    · skip
      refine wp_iload_n (i := 2) dX2_staleCount_4 rfl rfl ?_
      refine wp_aload_n (i := 0) dX2_staleCount_5 rfl rfl ?_
      refine wr_get (g := 0) (n := n) (a := 0) (b := 0) (k := 4) dX2_staleCount_6 hR f_X2_44 (vs0 hn (by decide)) (by decide) (by decide) ?_
      refine wp_icmp_ge (tgt := 94) dX2_staleCount_9 (by decide) (fun c9 => ?_) (fun c9 => ?_)
      · skip
        refine wp_iload_n (i := 1) dX2_staleCount_94 rfl rfl ?_
        refine wp_ret (v := some (.int _)) dX2_staleCount_95 rfl ?_
        have e9 : c = cc := by
          rcases Nat.lt_or_ge c cc with q | q
          · exact absurd (by rw [hcc]; exact nI_lt q (by omega)) c9
          · omega
        subst e9
        exact ⟨trivial, rfl, rfl⟩
      · skip
        have hcl : c < cc := by rw [hcc] at c9; exact (nI_ltI (by omega) (by omega)).mp c9
        refine wp_iconst (v := 0) dX2_staleCount_12 rfl ?_
        refine wp_istore_n (i := 3) dX2_staleCount_13 rfl (Nat.le_of_ble_eq_true rfl) ?_
        have hc4 : c < 4 := by omega
        exact w_st_14 hR hn hc4 hx (fun l9 => (by
          refine wp_iinc (v := nI (c + 1)) dX2_staleCount_88 rfl (nI_1 _) ?_
          refine wp_goto (tgt := 4) dX2_staleCount_91 (by decide) ?_
          exact ih (cc - (c + 1)) (by omega) (c + 1) rfl (by omega) _ _ (Or.inr ⟨_, _, rfl, rfl⟩))) 12 0 rfl (by decide) _ (fun q => absurd q (Nat.lt_irrefl _))
    · skip
      refine wp_iload_n (i := 2) dX2_staleCount_4 rfl rfl ?_
      refine wp_aload_n (i := 0) dX2_staleCount_5 rfl rfl ?_
      refine wr_get (g := 0) (n := n) (a := 0) (b := 0) (k := 4) dX2_staleCount_6 hR f_X2_44 (vs0 hn (by decide)) (by decide) (by decide) ?_
      refine wp_icmp_ge (tgt := 94) dX2_staleCount_9 (by decide) (fun c9 => ?_) (fun c9 => ?_)
      · skip
        refine wp_iload_n (i := 1) dX2_staleCount_94 rfl rfl ?_
        refine wp_ret (v := some (.int _)) dX2_staleCount_95 rfl ?_
        have e9 : c = cc := by
          rcases Nat.lt_or_ge c cc with q | q
          · exact absurd (by rw [hcc]; exact nI_lt q (by omega)) c9
          · omega
        subst e9
        exact ⟨trivial, rfl, rfl⟩
      · skip
        have hcl : c < cc := by rw [hcc] at c9; exact (nI_ltI (by omega) (by omega)).mp c9
        refine wp_iconst (v := 0) dX2_staleCount_12 rfl ?_
        refine wp_istore_n (i := 3) dX2_staleCount_13 rfl (Nat.le_of_ble_eq_true rfl) ?_
        have hc4 : c < 4 := by omega
        exact w_st_14 hR hn hc4 hx (fun l9 => (by
          refine wp_iinc (v := nI (c + 1)) dX2_staleCount_88 rfl (nI_1 _) ?_
          refine wp_goto (tgt := 4) dX2_staleCount_91 (by decide) ?_
          exact ih (cc - (c + 1)) (by omega) (c + 1) rfl (by omega) _ _ (Or.inr ⟨_, _, rfl, rfl⟩))) 12 0 rfl (by decide) _ (fun q => absurd q (Nat.lt_irrefl _))
/-- the pairs that are stale -/
theorem s_staleCount (hR : Rep hp M) (hn : n < 2) {x : Int32} (hx : gV M 0 n 0 0 0 = x) (hcc : gV M 0 n 0 0 4 = nI cc) (h4 : cc ≤ 4) : WM L xs (d + 1) mX2_staleCount [.ref (xi 0 n 0 0)] hp (fun v hp' => hp' = hp ∧ v = some (.int (nI (stA M n x cc)))) := by
  refine WM.of [some (.ref _), none, none, none, none] (by decide) rfl (Nat.le_of_ble_eq_true rfl) ?_
  refine wp_iconst (v := 0) dX2_staleCount_0 rfl ?_
  refine wp_istore_n (i := 1) dX2_staleCount_1 rfl (Nat.le_of_ble_eq_true rfl) ?_
  refine wp_iconst (v := 0) dX2_staleCount_2 rfl ?_
  refine wp_istore_n (i := 2) dX2_staleCount_3 rfl (Nat.le_of_ble_eq_true rfl) ?_
  exact w_st_4 hR hn hx hcc h4 cc 0 rfl (Nat.zero_le _) _ _ (Or.inl ⟨rfl, rfl⟩)
theorem sN_list {k : Nat} {g : Nat → Nat} (h : ∀ i, i < k → g i ≤ 1) : ∃ z : List Nat, z.length = sN k g ∧ z.Nodup ∧ ∀ i, i ∈ z → i < k ∧ g i = 1 := by
  induction k with
  | zero => exact ⟨[], rfl, List.nodup_nil, fun i hi => absurd hi List.not_mem_nil⟩
  | succ k ih =>
    obtain ⟨z, z1, z2, z3⟩ := ih (fun i hi => h i (by omega))
    have h9 := h k (Nat.lt_succ_self _)
    rcases (show g k = 0 ∨ g k = 1 by omega) with e | e
    · exact ⟨z, by show _ = sN k g + g k; omega, z2, fun i hi => ⟨by have := (z3 i hi).1; omega, (z3 i hi).2⟩⟩
    · refine ⟨k :: z, by show z.length + 1 = sN k g + g k; omega, List.nodup_cons.mpr ⟨fun hk => Nat.lt_irrefl _ (z3 k hk).1, z2⟩, fun i hi => ?_⟩
      rcases List.mem_cons.mp hi with rfl | hi
      · exact ⟨Nat.lt_succ_self _, e⟩
      · exact ⟨by have := (z3 i hi).1; omega, (z3 i hi).2⟩
theorem stl_le (M : MS) (n c f : Nat) (x : Int32) : stl M n c f x ≤ 1 := by unfold stl; split <;> omega
/-- a client has no more stale files than files -/
theorem stC_le {l : List Nat} (hI : CI M n c l) (x : Int32) : stC M n c x 12 ≤ 6 := by
  obtain ⟨z, z1, z2, z3⟩ := sN_list (k := 12) (g := fun f => stl M n c f x) (fun f _ => stl_le M n c f x)
  show sN 12 _ ≤ 6
  rw [← z1]
  refine Nat.le_trans (nodup_sub z2 (fun f hf => ?_)) hI.2.2.1
  obtain ⟨h1, h2⟩ := z3 f hf
  have h2 : stl M n c f x = 1 := h2
  unfold stl at h2
  by_cases h9 : tru M n c f x (gV M 1 n c 0 6) ∧ gV M 2 n c f 4 = 0 ∧ ¬ gV M 2 n c f 2 = gV M 4 n f 0 1
  · exact (hI.2.2.2.1 f h1).mp h9.1.1
  · rw [if_neg h9] at h2; exact absurd h2 (by decide)
theorem stA_le (h : ∀ c, c < cc → ∃ l, CI M n c l) (x : Int32) : stA M n x cc ≤ 6 * cc := by
  rw [Nat.mul_comm]
  exact sN_bd (fun c hc => by obtain ⟨l, hI⟩ := h c hc; exact stC_le hI x)
end ASK
