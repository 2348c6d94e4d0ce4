/-! ===== Net: asked, II ===== -/
section ASK2
variable {L : Nat} {xs : Nat → Int32} {d : Nat} {hp : AH} {M : MS} {n c f cc clk : Nat}
theorem w_calm_33 (hR : Rep hp M) (hn : n < 2) (hcc : gV M 0 n 0 0 4 = nI cc) (h4 : cc ≤ 4) : ∀ (m i : Nat), cc - i = m → i ≤ cc → WP L xs (d + 1) mX2_isCalm 33 [some (.ref (xi 0 n 0 0)), some (.int (nI i))] [] hp (fun v hp' => retOk mX2_isCalm.2.2.2 v ∧ hp' = hp ∧ ∃ r, v = some (.int r) ∧ (r = 0 ∨ r = 1)) := by
  intro m
  induction m using Nat.strongRecOn with
  | ind m ih =>
    intro i hm hi0
    subst hm
    refine wp_iload_n (i := 1) dX2_isCalm_33 rfl rfl ?_
    refine wp_aload_n (i := 0) dX2_isCalm_34 rfl rfl ?_
    refine wr_get (g := 0) (n := n) (a := 0) (b := 0) (k := 4) dX2_isCalm_35 hR f_X2_44 (vs0 hn (by decide)) (by decide) (by decide) ?_
    refine wp_icmp_ge (tgt := 73) dX2_isCalm_38 (by decide) (fun c38 => ?_) (fun c38 => ?_)
    · skip
      refine wp_aload_n (i := 0) dX2_isCalm_73 rfl rfl ?_
      refine wp_callV (N := mX2_thingCount) (as := []) dX2_isCalm_74 l_X2_208 v_X2_thingCount rfl (hR.oo (vs0 hn (k := 0) (by decide)) (by decide)) rfl (by decide) (s_thingCount hR hn) (fun v hp9 hq => ?_)
      obtain ⟨rfl, rfl⟩ := hq
      refine wp_if_ne (tgt := 84) dX2_isCalm_77 (by decide) (fun c77 => ?_) (fun c77 => ?_)
      · skip
        refine wp_iconst (v := 0) dX2_isCalm_84 rfl ?_
        refine wp_ret (v := some (.int _)) dX2_isCalm_85 rfl ?_
        exact ⟨by first | exact Or.inl rfl | exact Or.inr rfl, rfl, _, rfl, by first | exact Or.inl rfl | exact Or.inr rfl⟩
      · skip
        refine wp_iconst (v := 1) dX2_isCalm_80 rfl ?_
        refine wp_goto (tgt := 85) dX2_isCalm_81 (by decide) ?_
        refine wp_ret (v := some (.int _)) dX2_isCalm_85 rfl ?_
        exact ⟨by first | exact Or.inl rfl | exact Or.inr rfl, rfl, _, rfl, by first | exact Or.inl rfl | exact Or.inr rfl⟩
    · skip
      have hil : i < cc := by rw [hcc] at c38; exact (nI_ltI (by omega) (by omega)).mp c38
      have hi9 : i < 4 := by omega
      refine wp_aload_n (i := 0) dX2_isCalm_41 rfl rfl ?_
      refine wr_netR (j := rC n) dX2_isCalm_42 hR f_X2_23 hn (Or.inl ⟨rfl, rfl⟩) ?_
      refine wp_iload_n (i := 1) dX2_isCalm_45 rfl rfl ?_
      refine wr_aC (c := i) dX2_isCalm_46 hR rfl hn hi9 ?_
      refine wr_get (g := 1) (n := n) (a := i) (b := 0) (k := 6) dX2_isCalm_47 hR f_X2_82 (vs1 hn hi9 (by decide)) (by decide) (by decide) ?_
      refine wp_if_ne (tgt := 67) dX2_isCalm_50 (by decide) (fun c50 => ?_) (fun c50 => ?_)
      · skip
        refine wp_iinc (v := nI (i + 1)) dX2_isCalm_67 rfl (nI_1 _) ?_
        refine wp_goto (tgt := 33) dX2_isCalm_70 (by decide) ?_
        exact ih (cc - (i + 1)) (by omega) (i + 1) rfl (by omega)
      · skip
        refine wp_aload_n (i := 0) dX2_isCalm_53 rfl rfl ?_
        refine wr_netR (j := rC n) dX2_isCalm_54 hR f_X2_23 hn (Or.inl ⟨rfl, rfl⟩) ?_
        refine wp_iload_n (i := 1) dX2_isCalm_57 rfl rfl ?_
        refine wr_aC (c := i) dX2_isCalm_58 hR rfl hn hi9 ?_
        refine wp_callV (N := mX0_isClean) (as := []) dX2_isCalm_59 l_X2_204 v_X0_isClean rfl (hR.oo (vs1 hn hi9 (k := 2) (by decide)) (by decide)) rfl (by decide) (s_isClean hR hn hi9) (fun v hp9 hq => ?_)
        obtain ⟨rfl, rr, rfl, hrr⟩ := hq
        refine wp_if_ne (tgt := 67) dX2_isCalm_62 (by decide) (fun c62 => ?_) (fun c62 => ?_)
        · skip
          refine wp_iinc (v := nI (i + 1)) dX2_isCalm_67 rfl (nI_1 _) ?_
          refine wp_goto (tgt := 33) dX2_isCalm_70 (by decide) ?_
          exact ih (cc - (i + 1)) (by omega) (i + 1) rfl (by omega)
        · skip
          refine wp_iconst (v := 0) dX2_isCalm_65 rfl ?_
          refine wp_ret (v := some (.int _)) dX2_isCalm_66 rfl ?_
          exact ⟨by first | exact Or.inl rfl | exact Or.inr rfl, rfl, _, rfl, by first | exact Or.inl rfl | exact Or.inr rfl⟩
theorem w_calm_2 (hR : Rep hp M) (hn : n < 2) (hcc : gV M 0 n 0 0 4 = nI cc) (h4 : cc ≤ 4) : ∀ (m i : Nat), 12 - i = m → i ≤ 12 → WP L xs (d + 1) mX2_isCalm 2 [some (.ref (xi 0 n 0 0)), some (.int (nI i))] [] hp (fun v hp' => retOk mX2_isCalm.2.2.2 v ∧ hp' = hp ∧ ∃ r, v = some (.int r) ∧ (r = 0 ∨ r = 1)) := by
  intro m
  induction m using Nat.strongRecOn with
  | ind m ih =>
    intro i hm hi0
    subst hm
    refine wp_iload_n (i := 1) dX2_isCalm_2 rfl rfl ?_
    refine wp_bipush (v := nI 12) dX2_isCalm_3 (by decide) ?_
    refine wp_icmp_ge (tgt := 31) dX2_isCalm_5 (by decide) (fun c5 => ?_) (fun c5 => ?_)
    · skip
      refine wp_iconst (v := 0) dX2_isCalm_31 rfl ?_
      refine wp_istore_n (i := 1) dX2_isCalm_32 rfl (Nat.le_of_ble_eq_true rfl) ?_
      exact w_calm_33 hR hn hcc h4 cc 0 rfl (Nat.zero_le _)
    · skip
      have hi9 : i < 12 := (nI_ltI (by omega) (by decide)).mp c5
      refine wp_aload_n (i := 0) dX2_isCalm_8 rfl rfl ?_
      refine wr_netR (j := rS n) dX2_isCalm_9 hR f_X2_29 hn (Or.inr (Or.inl ⟨rfl, rfl⟩)) ?_
      refine wp_iload_n (i := 1) dX2_isCalm_12 rfl rfl ?_
      refine wr_aS (f := i) dX2_isCalm_13 hR rfl hn hi9 ?_
      refine wr_sheR (j := xt 1 n i) dX2_isCalm_14 hR f_X2_179 hn hi9 (Or.inr ⟨rfl, rfl⟩) ?_
      refine wr_rows dX2_isCalm_17 hR f_X2_59 (vt1 hn hi9) ?_
      refine wp_if_le (tgt := 25) dX2_isCalm_20 (by decide) (fun c20 => ?_) (fun c20 => ?_)
      · skip
        refine wp_iinc (v := nI (i + 1)) dX2_isCalm_25 rfl (nI_1 _) ?_
        refine wp_goto (tgt := 2) dX2_isCalm_28 (by decide) ?_
        exact ih (12 - (i + 1)) (by omega) (i + 1) rfl (by omega)
      · skip
        refine wp_iconst (v := 0) dX2_isCalm_23 rfl ?_
        refine wp_ret (v := some (.int _)) dX2_isCalm_24 rfl ?_
        exact ⟨by first | exact Or.inl rfl | exact Or.inr rfl, rfl, _, rfl, by first | exact Or.inl rfl | exact Or.inr rfl⟩
/-- whether all is calm -/
theorem s_isCalm (hR : Rep hp M) (hn : n < 2) (hcc : gV M 0 n 0 0 4 = nI cc) (h4 : cc ≤ 4) : WM L xs (d + 1) mX2_isCalm [.ref (xi 0 n 0 0)] hp (fun v hp' => hp' = hp ∧ ∃ r, v = some (.int r) ∧ (r = 0 ∨ r = 1)) := by
  refine WM.of [some (.ref _), none] (by decide) rfl (Nat.le_of_ble_eq_true rfl) ?_
  refine wp_iconst (v := 0) dX2_isCalm_0 rfl ?_
  refine wp_istore_n (i := 1) dX2_isCalm_1 rfl (Nat.le_of_ble_eq_true rfl) ?_
  exact w_calm_2 hR hn hcc h4 12 0 rfl (by decide)
/-- the rows that come at the next clocks -/
def LU (M : MS) (n clk u : Nat) : Nat := sN u (fun i => (gT M 2 n ((clk + (i + 1)) % 9)).length)
def tTh (M : MS) (n clk p k : Nat) (x : Int32) : Prop := LU M n clk 8 ≤ p ∨ ∃ u, u < 8 ∧ LU M n clk u ≤ p ∧ p < LU M n clk (u + 1) ∧ x = gC M 2 n ((clk + (u + 1)) % 9) (p - LU M n clk u) k
theorem w_tt_5 (hR : Rep hp M) (hn : n < 2) (hclk : gV M 0 n 0 0 0 = nI clk) (hb : clk < 1000) {p k : Nat} (hp0 : p < 2 ^ 30) (hk : k < 8) : ∀ (m u : Nat), 8 - u = m → u ≤ 8 → LU M n clk u ≤ p → ∀ (l5 : Option Value), WP L xs (d + 2) mX2_tellThing 5 [some (.ref (xi 0 n 0 0)), some (.int (nI p)), some (.int (nI k)), some (.int (nI (p - LU M n clk u))), some (.int (nI (u + 1))), l5] [] hp (fun v hp' => retOk mX2_tellThing.2.2.2 v ∧ hp' = hp ∧ ∃ x, v = some (.int x) ∧ tTh M n clk p k x) := by
  intro m
  induction m using Nat.strongRecOn with
  | ind m ih =>
    intro u hm hu0 hle l5
    have hk9 : (clk + (u + 1)) % 9 < 9 := Nat.mod_lt _ (by decide)
    subst hm
    refine wp_iload dX2_tellThing_5 rfl ?_
    refine wp_bipush (v := nI 8) dX2_tellThing_7 (by decide) ?_
    refine wp_icmp_gt (tgt := 56) dX2_tellThing_9 (by decide) (fun c9 => ?_) (fun c9 => ?_)
    · skip
      refine wp_iconst (v := 0) dX2_tellThing_56 rfl ?_
      refine wp_ret (v := some (.int _)) dX2_tellThing_57 rfl ?_
      have e9 : u = 8 := by
        have := (nI_ltI (show 8 < 2 ^ 31 by decide) (show u + 1 < 2 ^ 31 by omega)).mp c9
        omega
      subst e9
      exact ⟨trivial, rfl, _, rfl, Or.inl hle⟩
    · skip
      refine wp_aload_n (i := 0) dX2_tellThing_12 rfl rfl ?_
      refine wp_aload_n (i := 0) dX2_tellThing_13 rfl rfl ?_
      refine wr_get (g := 0) (n := n) (a := 0) (b := 0) (k := 0) dX2_tellThing_14 hR f_X2_62 (vs0 hn (by decide)) (by decide) (by decide) ?_
      refine wp_iload dX2_tellThing_17 rfl ?_
      refine wp_iadd dX2_tellThing_19 ?_
      have hu8 : u < 8 := by
        rcases Nat.lt_or_ge u 8 with q | q
        · exact q
        · exact absurd (show nI 8 < nI (u + 1) from nI_lt (by omega) (by omega)) c9
      rw [hclk, nI_add]
      refine wp_callV (N := mX2_slotAt) (as := [.int (nI (clk + (u + 1)))]) dX2_tellThing_20 l_X2_65 v_X2_slotAt rfl (hR.oo (vs0 hn (k := 0) (by decide)) (by decide)) rfl (by decide) (s_slotAt hR hn (by omega)) (fun v hp6 hq => ?_)
      obtain ⟨rfl, rfl⟩ := hq
      refine wp_astore dX2_tellThing_23 (Nat.le_of_ble_eq_true rfl) ?_
      refine wp_iload_n (i := 3) dX2_tellThing_25 rfl rfl ?_
      refine wp_aload dX2_tellThing_26 rfl ?_
      refine wr_rows dX2_tellThing_28 hR f_X2_59 (vt2 hn hk9) ?_
      refine wp_icmp_ge (tgt := 42) dX2_tellThing_31 (by decide) (fun c31 => ?_) (fun c31 => ?_)
      · skip
        refine wp_iload_n (i := 3) dX2_tellThing_42 rfl rfl ?_
        refine wp_aload dX2_tellThing_43 rfl ?_
        refine wr_rows dX2_tellThing_45 hR f_X2_59 (vt2 hn hk9) ?_
        refine wp_isub dX2_tellThing_48 ?_
        have hcl : (gT M 2 n ((clk + (u + 1)) % 9)).length ≤ p - LU M n clk u := by
          rcases Nat.lt_or_ge (p - LU M n clk u) (gT M 2 n ((clk + (u + 1)) % 9)).length with q | q
          · exact absurd (nI_lt q (by have := (hR.T (vt2 hn hk9)).2.2.2.2.2.2.2; omega)) c31
          · exact q
        have e9 : LU M n clk (u + 1) = LU M n clk u + (gT M 2 n ((clk + (u + 1)) % 9)).length := rfl
        rw [pk_sub hcl, show p - LU M n clk u - (gT M 2 n ((clk + (u + 1)) % 9)).length = p - LU M n clk (u + 1) from by omega]
        refine wp_istore_n (i := 3) dX2_tellThing_49 rfl (Nat.le_of_ble_eq_true rfl) ?_
        refine wp_iinc (v := nI ((u + 1) + 1)) dX2_tellThing_50 rfl (nI_1 _) ?_
        refine wp_goto (tgt := 5) dX2_tellThing_53 (by decide) ?_
        exact ih (8 - (u + 1)) (by omega) (u + 1) rfl (by omega) (by omega) _
      · skip
        refine wp_aload dX2_tellThing_34 rfl ?_
        refine wp_iload_n (i := 3) dX2_tellThing_36 rfl rfl ?_
        refine wp_iload_n (i := 2) dX2_tellThing_37 rfl rfl ?_
        have hlr : p - LU M n clk u < (gT M 2 n ((clk + (u + 1)) % 9)).length := (nI_ltI (by omega) (by have := (hR.T (vt2 hn hk9)).2.2.2.2.2.2.2; omega)).mp c31
        refine wp_callV (N := mX4_get) (as := [.int (nI (p - LU M n clk u)), .int (nI k)]) dX2_tellThing_38 l_X2_69 v_X4_get rfl (hR.oT (vt2 hn hk9)) rfl (by decide) (s_get hR (vt2 hn hk9) hlr (c := k) hk) (fun v hp9 hq => ?_)
        obtain ⟨rfl, rfl⟩ := hq
        refine wp_ret (v := some (.int _)) dX2_tellThing_41 rfl ?_
        have e9 : LU M n clk (u + 1) = LU M n clk u + (gT M 2 n ((clk + (u + 1)) % 9)).length := rfl
        exact ⟨trivial, rfl, _, rfl, Or.inr ⟨u, hu8, hle, by omega, rfl⟩⟩
/-- a thing on its way, told -/
theorem s_tellThing (hR : Rep hp M) (hn : n < 2) (hclk : gV M 0 n 0 0 0 = nI clk) (hb : clk < 1000) {p k : Nat} (hp0 : p < 2 ^ 30) (hk : k < 8) : WM L xs (d + 2) mX2_tellThing [.ref (xi 0 n 0 0), .int (nI p), .int (nI k)] hp (fun v hp' => hp' = hp ∧ ∃ x, v = some (.int x) ∧ tTh M n clk p k x) := by
  refine WM.of [some (.ref _), some (.int (nI p)), some (.int (nI k)), none, none, none] (by decide) rfl (Nat.le_of_ble_eq_true rfl) ?_
  refine wp_iload_n (i := 1) dX2_tellThing_0 rfl rfl ?_
  refine wp_istore_n (i := 3) dX2_tellThing_1 rfl (Nat.le_of_ble_eq_true rfl) ?_
  refine wp_iconst (v := 1) dX2_tellThing_2 rfl ?_
  refine wp_istore dX2_tellThing_3 (Nat.le_of_ble_eq_true rfl) ?_
  exact w_tt_5 hR hn hclk hb hp0 hk 8 0 rfl (by decide) (Nat.zero_le _) _
end ASK2
