/-! ===== what would be ===== -/
/-- net 0 is as it was -/
def K0 (M M' : MS) : Prop := (∀ g a b k, gV M' g 0 a b k = gV M g 0 a b k) ∧ (∀ y a, gT M' y 0 a = gT M y 0 a) ∧ ∀ i, gX M' i = gX M i
theorem K0.rfl' (M : MS) : K0 M M := ⟨fun _ _ _ _ => rfl, fun _ _ => rfl, fun _ => rfl⟩
theorem K0.trans {M M' M'' : MS} (h : K0 M M') (h' : K0 M' M'') : K0 M M'' := ⟨fun g a b k => (h'.1 g a b k).trans (h.1 g a b k), fun y a => (h'.2.1 y a).trans (h.2.1 y a), fun i => (h'.2.2 i).trans (h.2.2 i)⟩
theorem K0.of {M M' : MS} (h : G0 M M' 1) : K0 M M' := ⟨fun g a b k => h.1 g 0 a b k (by decide), fun y a => (h.2.1 y 0 a (by decide)).1, h.2.2⟩
theorem K0.cp {M M' : MS} {P : Nat → Nat → Nat → Nat → Prop} {Q : Nat → Nat → Prop} (h : CP 1 0 P Q M M') : K0 M M' := ⟨fun g a b k => h.2.1 g 0 a b k (fun q => absurd q.1 (by decide)), fun y a => (h.2.2.2.1 y 0 a (fun q => absurd q.1 (by decide))).1, h.2.2.2.2.1⟩
theorem K0.vrs {M M' : MS} (h : K0 M M') : vrs M' 0 = vrs M 0 := funext (fun f => by show vN _ = vN _; rw [h.1])
/-- what holds of a net that is as it was -/
theorem S0.keep {hp hp' : AH} {M M' : MS} {zB tB zB' tB' clk cc K : Nat} {D : Nat → Nat} {ev : Bool} (h : S0 hp M zB tB clk cc K D ev) (hK : K0 M M') (hR : Rep hp' M') (hI : RI zB' tB' M') : S0 hp' M' zB' tB' clk cc K D ev := by
  obtain ⟨⟨hR0, hI0, ⟨⟨b1, b2, b3, b4, b5⟩, n2, n3, n4⟩, hB⟩, hE⟩ := h
  have hv := hK.vrs
  obtain ⟨k1, k2, k3⟩ := hK
  refine ⟨⟨hR, hI, ⟨⟨b1, b2, by rw [k1]; exact b3, by rw [k1]; exact b4, by rw [k1]; exact b5⟩, fun c hc => ?_, fun f hf => ?_, fun k hk q hq => ?_⟩, ?_⟩, by rw [k2]; exact hE⟩
  · obtain ⟨⟨l, a1⟩, a2, a3, a4, a5, a6, a7⟩ := n2 c hc
    refine ⟨⟨l, a1.of (k1 _ _ _ _) (fun _ => k1 _ _ _ _) (fun _ => ⟨k1 _ _ _ _, k1 _ _ _ _⟩)⟩, by rw [k1]; exact a2, a3, ?_, by rw [k2]; exact a5, fun f hf => ?_, ?_⟩
    · rw [k1]; intro q f hf; rw [k1, k1]; exact a4 q f hf
    · unfold HJ; rw [hv, k1, k1]; exact a6 f hf
    · rw [k1, k1]; exact a7
  · unfold SJ; rw [hv, k1, k1, k2]; exact n3 f hf
  · rw [k2] at hq; rw [hv]; exact n4 k hk q hq
  · unfold BJ at hB ⊢
    rw [RQ_eq (M := M) (M' := M') (fun f' _ => k2 _ _), FL_eq (M := M) (M' := M') (fun c' f' _ _ => ⟨k1 _ _ _ _, k1 _ _ _ _⟩), FF_eq (M := M) (M' := M') (fun f' _ => k1 _ _ _ _), hv, show (fun k => gT M' 2 0 k) = (fun k => gT M 2 0 k) from funext (fun k => k2 _ _), show (fun c => gV M' 1 0 c 0 9) = (fun c => gV M 1 0 c 0 9) from funext (fun c => k1 _ _ _ _)]
    exact hB
section AHEAD
variable {L : Nat} {xs : Nat → Int32} {d : Nat} {hp : AH} {M : MS} {zB tB clk cc K : Nat} {D : Nat → Nat} {ev : Bool} {c f p q : Nat}
/-- the trial, i ticks ahead -/
abbrev S1 (hp : AH) (M : MS) (zB tB clk cc K : Nat) (D : Nat → Nat) (ev : Bool) : Prop := ST hp M zB tB 1 clk cc K D ev 0 0 0 (fun _ => 0) ∧ gT M 2 1 (clk % 9) = []
theorem w_calm_19 (h : S0 hp M zB tB clk cc K D ev) (hb : clk + q < 1000) : ∀ (m i : Nat), q - i = m → i ≤ q → ∀ (hp1 : AH) (M1 : MS), S1 hp1 M1 zB tB (clk + i) cc K D ev → K0 M M1 → WP L xs (d + 7) mX5_calmIn 19 [some (.ref 1), some (.int (nI q)), some (.int (nI i))] [] hp1 (fun v hp' => retOk mX5_calmIn.2.2.2 v ∧ ∃ M' r, v = some (.int r) ∧ (r = -1 ∨ ∃ g, g ≤ q ∧ r = nI g) ∧ S0 hp' M' zB tB clk cc K D ev ∧ K0 M M') := by
  intro m
  induction m using Nat.strongRecOn with
  | ind m ih =>
    intro i hm hi hp1 M1 hS hK
    subst hm
    have hR := hS.1.1
    obtain ⟨b1, b2, b3, b4, b5⟩ := hS.1.2.2.1.1
    refine wp_iload_n (i := 2) dX5_calmIn_19 rfl rfl ?_
    refine wp_iload_n (i := 1) dX5_calmIn_20 rfl rfl ?_
    refine wp_icmp_ge (tgt := 47) dX5_calmIn_21 (by decide) (fun c21 => ?_) (fun c21 => ?_)
    · skip
      refine wp_aload_n (i := 0) dX5_calmIn_47 rfl rfl ?_
      refine wr_trial dX5_calmIn_48 hR f_X5_16 ?_
      refine wp_callV (N := mX2_isCalm) (as := []) dX5_calmIn_51 l_X5_175 v_X2_isCalm rfl (hR.oo (vs0 (n := 1) (by decide) (k := 0) (by decide)) (by decide)) rfl (by decide) (s_isCalm hR (by decide) b4 b2) (fun v hp9 hq => ?_)
      obtain ⟨rfl, r, rfl, hr⟩ := hq
      refine wp_if_eq (tgt := 61) dX5_calmIn_54 (by decide) (fun c54 => ?_) (fun c54 => ?_)
      · skip
        refine wp_iconst (v := (-1)) dX5_calmIn_61 rfl ?_
        refine wp_ret (v := some (.int _)) dX5_calmIn_62 rfl ?_
        exact ⟨trivial, M1, _, rfl, Or.inl rfl, h.keep hK hR hS.1.2.1, hK⟩
      · skip
        refine wp_iload_n (i := 2) dX5_calmIn_57 rfl rfl ?_
        refine wp_goto (tgt := 62) dX5_calmIn_58 (by decide) ?_
        refine wp_ret (v := some (.int _)) dX5_calmIn_62 rfl ?_
        exact ⟨trivial, M1, _, rfl, Or.inr ⟨i, hi, rfl⟩, h.keep hK hR hS.1.2.1, hK⟩
    · skip
      have hiq : i < q := (nI_ltI (by omega) (by omega)).mp c21
      refine wp_aload_n (i := 0) dX5_calmIn_24 rfl rfl ?_
      refine wr_trial dX5_calmIn_25 hR f_X5_16 ?_
      refine wp_callV (N := mX2_isCalm) (as := []) dX5_calmIn_28 l_X5_175 v_X2_isCalm rfl (hR.oo (vs0 (n := 1) (by decide) (k := 0) (by decide)) (by decide)) rfl (by decide) (s_isCalm hR (by decide) b4 b2) (fun v hp9 hq => ?_)
      obtain ⟨rfl, r, rfl, hr⟩ := hq
      refine wp_if_ne (tgt := 47) dX5_calmIn_31 (by decide) (fun c31 => ?_) (fun c31 => ?_)
      · skip
        refine wp_aload_n (i := 0) dX5_calmIn_47 rfl rfl ?_
        refine wr_trial dX5_calmIn_48 hR f_X5_16 ?_
        refine wp_callV (N := mX2_isCalm) (as := []) dX5_calmIn_51 l_X5_175 v_X2_isCalm rfl (hR.oo (vs0 (n := 1) (by decide) (k := 0) (by decide)) (by decide)) rfl (by decide) (s_isCalm hR (by decide) b4 b2) (fun v hp9 hq => ?_)
        obtain ⟨rfl, r, rfl, hr⟩ := hq
        refine wp_if_eq (tgt := 61) dX5_calmIn_54 (by decide) (fun c54 => ?_) (fun c54 => ?_)
        · skip
          refine wp_iconst (v := (-1)) dX5_calmIn_61 rfl ?_
          refine wp_ret (v := some (.int _)) dX5_calmIn_62 rfl ?_
          exact ⟨trivial, M1, _, rfl, Or.inl rfl, h.keep hK hR hS.1.2.1, hK⟩
        · skip
          refine wp_iload_n (i := 2) dX5_calmIn_57 rfl rfl ?_
          refine wp_goto (tgt := 62) dX5_calmIn_58 (by decide) ?_
          refine wp_ret (v := some (.int _)) dX5_calmIn_62 rfl ?_
          exact ⟨trivial, M1, _, rfl, Or.inr ⟨i, hi, rfl⟩, h.keep hK hR hS.1.2.1, hK⟩
      · skip
        refine wp_aload_n (i := 0) dX5_calmIn_34 rfl rfl ?_
        refine wr_trial dX5_calmIn_35 hR f_X5_16 ?_
        refine wp_callV (N := mX2_passTick) (as := []) dX5_calmIn_38 l_X5_100 v_X2_passTick rfl (hR.oo (vs0 (n := 1) (by decide) (k := 0) (by decide)) (by decide)) rfl (by decide) (s_passTick hS.1 (by decide) hS.2 (by omega)) (fun v hp8 hq => ?_)
        obtain ⟨rfl, M8, hS8, hM8, hE8⟩ := hq
        have hR8 := hS8.1
        refine wp_iinc (v := nI (i + 1)) dX5_calmIn_41 rfl (nI_1 _) ?_
        refine wp_goto (tgt := 19) dX5_calmIn_44 (by decide) ?_
        exact ih (q - (i + 1)) (by omega) (i + 1) rfl (by omega) _ M8 ⟨hS8, hE8⟩ (hK.trans (K0.of hM8.1))
/-- calm -/
theorem s_calmIn (h : S0 hp M zB tB clk cc K D ev) (h1 : 1 ≤ q) (h2 : q ≤ 100) (hb : clk + q < 1000) : WM L xs (d + 7) mX5_calmIn [.ref 1, .int (nI q)] hp (fun v hp' => ∃ M' r, v = some (.int r) ∧ (r = -1 ∨ ∃ g, g ≤ q ∧ r = nI g) ∧ S0 hp' M' zB tB clk cc K D ev ∧ K0 M M') := by
  have hR := h.1.1
  obtain ⟨b1, b2, b3, b4, b5⟩ := h.1.2.2.1.1
  refine WM.of [some (.ref _), some (.int (nI q)), none] (by decide) rfl (Nat.le_of_ble_eq_true rfl) ?_
  refine wp_iload_n (i := 1) dX5_calmIn_0 rfl rfl ?_
  refine wp_bipush (v := nI 100) dX5_calmIn_1 (by decide) ?_
  refine wp_callS (N := mX5_checkTicks) (as := [.int (nI q), .int (nI 100)]) dX5_calmIn_3 (by first | exact Or.inl l_X5_97 | exact Or.inr n_X5_97 | exact l_X5_97) v_X5_checkTicks rfl rfl (by decide) (s_checkTicks (p := q) (q := 100) h1 h2 (by decide)) (fun v hp9 hq => ?_)
  obtain ⟨rfl, rfl⟩ := hq
  refine wp_aload_n (i := 0) dX5_calmIn_6 rfl rfl ?_
  refine wr_trial dX5_calmIn_7 hR f_X5_16 ?_
  refine wp_aload_n (i := 0) dX5_calmIn_10 rfl rfl ?_
  refine wr_net dX5_calmIn_11 hR f_X5_10 ?_
  refine wp_callV (N := mX2_copyFrom) (as := [.ref (xi 0 0 0 0)]) dX5_calmIn_14 l_X5_171 v_X2_copyFrom rfl (hR.oo (vs0 (n := 1) (by decide) (k := 0) (by decide)) (by decide)) rfl (by decide) (s_netCopy hR (n := 1) (n' := 0) (by decide) (by decide) (by decide)) (fun v hp8 hq => ?_)
  obtain ⟨rfl, M8, hR8, hC8⟩ := hq
  have hS8 : S1 hp8 M8 zB tB clk cc K D ev := ⟨h.1.copy hC8 hR8, by rw [hC8.2.2.1 2 _ (Or.inr (Or.inr ⟨rfl, Nat.mod_lt _ (by decide)⟩))]; exact h.2⟩
  refine wp_iconst (v := 0) dX5_calmIn_17 rfl ?_
  refine wp_istore_n (i := 2) dX5_calmIn_18 rfl (Nat.le_of_ble_eq_true rfl) ?_
  exact w_calm_19 h hb q 0 rfl (Nat.zero_le _) _ M8 hS8 (K0.cp hC8)
theorem w_cont_23 (h : S0 hp M zB tB clk cc K D ev) (hf : f < 12) (hb : clk + q < 1000) : ∀ (m i : Nat), q - i = m → i ≤ q → ∀ (hp1 : AH) (M1 : MS), S1 hp1 M1 zB tB (clk + i) cc K D ev → K0 M M1 → WP L xs (d + 7) mX5_contentIn 23 [some (.ref 1), some (.int (nI f)), some (.int (nI q)), some (.int (nI i))] [] hp1 (fun v hp' => retOk mX5_contentIn.2.2.2 v ∧ ∃ M' r, v = some (.int r) ∧ ¬ r < 0 ∧ S0 hp' M' zB tB clk cc K D ev ∧ K0 M M') := by
  intro m
  induction m using Nat.strongRecOn with
  | ind m ih =>
    intro i hm hi hp1 M1 hS hK
    subst hm
    have hR := hS.1.1
    obtain ⟨b1, b2, b3, b4, b5⟩ := hS.1.2.2.1.1
    refine wp_iload_n (i := 3) dX5_contentIn_23 rfl rfl ?_
    refine wp_iload_n (i := 2) dX5_contentIn_24 rfl rfl ?_
    refine wp_icmp_ge (tgt := 41) dX5_contentIn_25 (by decide) (fun c25 => ?_) (fun c25 => ?_)
    · skip
      refine wp_aload_n (i := 0) dX5_contentIn_41 rfl rfl ?_
      refine wr_trial dX5_contentIn_42 hR f_X5_16 ?_
      refine wr_netR (j := rS 1) dX5_contentIn_45 hR f_X5_110 (by decide) (Or.inr (Or.inl ⟨rfl, rfl⟩)) ?_
      refine wp_iload_n (i := 1) dX5_contentIn_48 rfl rfl ?_
      refine wr_aS (f := f) dX5_contentIn_49 hR rfl (by decide) hf ?_
      refine wr_get (g := 4) (n := 1) (a := f) (b := 0) (k := 0) dX5_contentIn_50 hR f_X5_179 (vs4 (by decide) hf (by decide)) (by decide) (by decide) ?_
      refine wp_ret (v := some (.int _)) dX5_contentIn_53 rfl ?_
      have h9 := (hS.1.2.2.1.2.2.1 f hf).1
      exact ⟨trivial, M1, _, rfl, by rw [h9.1]; exact nI_pos (by have := h9.2; omega), h.keep hK hR hS.1.2.1, hK⟩
    · skip
      have hiq : i < q := (nI_ltI (by omega) (by omega)).mp c25
      refine wp_aload_n (i := 0) dX5_contentIn_28 rfl rfl ?_
      refine wr_trial dX5_contentIn_29 hR f_X5_16 ?_
      refine wp_callV (N := mX2_passTick) (as := []) dX5_contentIn_32 l_X5_100 v_X2_passTick rfl (hR.oo (vs0 (n := 1) (by decide) (k := 0) (by decide)) (by decide)) rfl (by decide) (s_passTick hS.1 (by decide) hS.2 (by omega)) (fun v hp8 hq => ?_)
      obtain ⟨rfl, M8, hS8, hM8, hE8⟩ := hq
      have hR8 := hS8.1
      refine wp_iinc (v := nI (i + 1)) dX5_contentIn_35 rfl (nI_1 _) ?_
      refine wp_goto (tgt := 23) dX5_contentIn_38 (by decide) ?_
      exact ih (q - (i + 1)) (by omega) (i + 1) rfl (by omega) _ M8 ⟨hS8, hE8⟩ (hK.trans (K0.of hM8.1))
/-- a content ahead -/
theorem s_contentIn (h : S0 hp M zB tB clk cc K D ev) (hf : f < 12) (h1 : 1 ≤ q) (h2 : q ≤ 100) (hb : clk + q < 1000) : WM L xs (d + 7) mX5_contentIn [.ref 1, .int (nI f), .int (nI q)] hp (fun v hp' => ∃ M' r, v = some (.int r) ∧ ¬ r < 0 ∧ S0 hp' M' zB tB clk cc K D ev ∧ K0 M M') := by
  have hR := h.1.1
  obtain ⟨b1, b2, b3, b4, b5⟩ := h.1.2.2.1.1
  refine WM.of [some (.ref _), some (.int (nI f)), some (.int (nI q)), none] (by decide) rfl (Nat.le_of_ble_eq_true rfl) ?_
  refine wp_iload_n (i := 1) dX5_contentIn_0 rfl rfl ?_
  refine wp_callS (N := mX5_checkFile) (as := [.int (nI f)]) dX5_contentIn_1 (by first | exact Or.inl l_X5_69 | exact Or.inr n_X5_69 | exact l_X5_69) v_X5_checkFile rfl rfl (by decide) (s_checkFile hf) (fun v hp9 hq => ?_)
  obtain ⟨rfl, rfl⟩ := hq
  refine wp_iload_n (i := 2) dX5_contentIn_4 rfl rfl ?_
  refine wp_bipush (v := nI 100) dX5_contentIn_5 (by decide) ?_
  refine wp_callS (N := mX5_checkTicks) (as := [.int (nI q), .int (nI 100)]) dX5_contentIn_7 (by first | exact Or.inl l_X5_97 | exact Or.inr n_X5_97 | exact l_X5_97) v_X5_checkTicks rfl rfl (by decide) (s_checkTicks (p := q) (q := 100) h1 h2 (by decide)) (fun v hp9 hq => ?_)
  obtain ⟨rfl, rfl⟩ := hq
  refine wp_aload_n (i := 0) dX5_contentIn_10 rfl rfl ?_
  refine wr_trial dX5_contentIn_11 hR f_X5_16 ?_
  refine wp_aload_n (i := 0) dX5_contentIn_14 rfl rfl ?_
  refine wr_net dX5_contentIn_15 hR f_X5_10 ?_
  refine wp_callV (N := mX2_copyFrom) (as := [.ref (xi 0 0 0 0)]) dX5_contentIn_18 l_X5_171 v_X2_copyFrom rfl (hR.oo (vs0 (n := 1) (by decide) (k := 0) (by decide)) (by decide)) rfl (by decide) (s_netCopy hR (n := 1) (n' := 0) (by decide) (by decide) (by decide)) (fun v hp8 hq => ?_)
  obtain ⟨rfl, M8, hR8, hC8⟩ := hq
  have hS8 : S1 hp8 M8 zB tB clk cc K D ev := ⟨h.1.copy hC8 hR8, by rw [hC8.2.2.1 2 _ (Or.inr (Or.inr ⟨rfl, Nat.mod_lt _ (by decide)⟩))]; exact h.2⟩
  refine wp_iconst (v := 0) dX5_contentIn_21 rfl ?_
  refine wp_istore_n (i := 3) dX5_contentIn_22 rfl (Nat.le_of_ble_eq_true rfl) ?_
  exact w_cont_23 h hf hb q 0 rfl (Nat.zero_le _) _ M8 hS8 (K0.cp hC8)
theorem w_conf_33 (h : S0 hp M zB tB clk cc K D ev) (hc : c < cc) (hc4 : c < 4) (hb : clk + q < 1000) : ∀ (m i : Nat), q - i = m → i ≤ q → ∀ (hp1 : AH) (M1 : MS), S1 hp1 M1 zB tB (clk + i) cc K D ev → K0 M M1 → vN (gV M 1 0 c 0 9) ≤ vN (gV M1 1 1 c 0 9) → WP L xs (d + 7) mX5_conflictsIn 33 [some (.ref 1), some (.int (nI c)), some (.int (nI q)), some (.int (nI i))] [] hp1 (fun v hp' => retOk mX5_conflictsIn.2.2.2 v ∧ ∃ M' r, v = some (.int r) ∧ ¬ r < 0 ∧ S0 hp' M' zB tB clk cc K D ev ∧ K0 M M') := by
  intro m
  induction m using Nat.strongRecOn with
  | ind m ih =>
    intro i hm hi hp1 M1 hS hK hG
    subst hm
    have hR := hS.1.1
    obtain ⟨b1, b2, b3, b4, b5⟩ := hS.1.2.2.1.1
    refine wp_iload_n (i := 3) dX5_conflictsIn_33 rfl rfl ?_
    refine wp_iload_n (i := 2) dX5_conflictsIn_34 rfl rfl ?_
    refine wp_icmp_ge (tgt := 51) dX5_conflictsIn_35 (by decide) (fun c35 => ?_) (fun c35 => ?_)
    · skip
      refine wp_aload_n (i := 0) dX5_conflictsIn_51 rfl rfl ?_
      refine wr_trial dX5_conflictsIn_52 hR f_X5_16 ?_
      refine wr_netR (j := rC 1) dX5_conflictsIn_55 hR f_X5_60 (by decide) (Or.inl ⟨rfl, rfl⟩) ?_
      refine wp_iload_n (i := 1) dX5_conflictsIn_58 rfl rfl ?_
      refine wr_aC (c := c) dX5_conflictsIn_59 hR rfl (by decide) hc4 ?_
      refine wr_get (g := 1) (n := 1) (a := c) (b := 0) (k := 9) dX5_conflictsIn_60 hR f_X5_180 (vs1 (by decide) hc4 (by decide)) (by decide) (by decide) ?_
      refine wp_aload_n (i := 0) dX5_conflictsIn_63 rfl rfl ?_
      refine wr_net dX5_conflictsIn_64 hR f_X5_10 ?_
      refine wr_netR (j := rC 0) dX5_conflictsIn_67 hR f_X5_60 (by decide) (Or.inl ⟨rfl, rfl⟩) ?_
      refine wp_iload_n (i := 1) dX5_conflictsIn_70 rfl rfl ?_
      refine wr_aC (c := c) dX5_conflictsIn_71 hR rfl (by decide) hc4 ?_
      refine wr_get (g := 1) (n := 0) (a := c) (b := 0) (k := 9) dX5_conflictsIn_72 hR f_X5_180 (vs1 (by decide) hc4 (by decide)) (by decide) (by decide) ?_
      refine wp_isub dX5_conflictsIn_75 ?_
      refine wp_ret (v := some (.int _)) dX5_conflictsIn_76 rfl ?_
      obtain ⟨y1, y2⟩ := hS.1.2.2.2.2.2.2.2.2 c hc4
      obtain ⟨y3, y4⟩ := h.1.2.2.2.2.2.2.2.2 c hc4
      have h9 := hK.1 1 c 0 9
      refine ⟨trivial, M1, _, rfl, ?_, h.keep hK hR hS.1.2.1, hK⟩
      show ¬ gV M1 1 1 c 0 9 - gV M1 1 0 c 0 9 < 0
      rw [h9, show gV M1 1 1 c 0 9 = nI (vN (gV M1 1 1 c 0 9)) from y1, show gV M 1 0 c 0 9 = nI (vN (gV M 1 0 c 0 9)) from y3, pk_sub hG]
      exact nI_pos (by have y2 : vN (gV M1 1 1 c 0 9) + _ ≤ _ := y2; omega)
    · skip
      have hiq : i < q := (nI_ltI (by omega) (by omega)).mp c35
      refine wp_aload_n (i := 0) dX5_conflictsIn_38 rfl rfl ?_
      refine wr_trial dX5_conflictsIn_39 hR f_X5_16 ?_
      refine wp_callV (N := mX2_passTick) (as := []) dX5_conflictsIn_42 l_X5_100 v_X2_passTick rfl (hR.oo (vs0 (n := 1) (by decide) (k := 0) (by decide)) (by decide)) rfl (by decide) (s_passTick hS.1 (by decide) hS.2 (by omega)) (fun v hp8 hq => ?_)
      obtain ⟨rfl, M8, hS8, hM8, hE8⟩ := hq
      have hR8 := hS8.1
      refine wp_iinc (v := nI (i + 1)) dX5_conflictsIn_45 rfl (nI_1 _) ?_
      refine wp_goto (tgt := 33) dX5_conflictsIn_48 (by decide) ?_
      exact ih (q - (i + 1)) (by omega) (i + 1) rfl (by omega) _ M8 ⟨hS8, hE8⟩ (hK.trans (K0.of hM8.1)) (Nat.le_trans hG (hM8.2.1 c hc4).2.2)
/-- conflicts ahead -/
theorem s_conflictsIn (h : S0 hp M zB tB clk cc K D ev) (hc : c < cc) (h1 : 1 ≤ q) (h2 : q ≤ 100) (hb : clk + q < 1000) : WM L xs (d + 7) mX5_conflictsIn [.ref 1, .int (nI c), .int (nI q)] hp (fun v hp' => ∃ M' r, v = some (.int r) ∧ ¬ r < 0 ∧ S0 hp' M' zB tB clk cc K D ev ∧ K0 M M') := by
  have hR := h.1.1
  obtain ⟨b1, b2, b3, b4, b5⟩ := h.1.2.2.1.1
  have hc4 : c < 4 := by omega
  refine WM.of [some (.ref _), some (.int (nI c)), some (.int (nI q)), none] (by decide) rfl (Nat.le_of_ble_eq_true rfl) ?_
  refine wp_aload_n (i := 0) dX5_conflictsIn_0 rfl rfl ?_
  refine wp_iload_n (i := 1) dX5_conflictsIn_1 rfl rfl ?_
  refine wp_callV (N := mX5_checkClient) (as := [.int (nI c)]) dX5_conflictsIn_2 l_X5_52 v_X5_checkClient rfl hR.top.1 rfl (by decide) (s_checkClient hR b4 b2 hc) (fun v hp9 hq => ?_)
  obtain ⟨rfl, rfl⟩ := hq
  refine wp_iload_n (i := 2) dX5_conflictsIn_5 rfl rfl ?_
  refine wp_bipush (v := nI 100) dX5_conflictsIn_6 (by decide) ?_
  refine wp_callS (N := mX5_checkTicks) (as := [.int (nI q), .int (nI 100)]) dX5_conflictsIn_8 (by first | exact Or.inl l_X5_97 | exact Or.inr n_X5_97 | exact l_X5_97) v_X5_checkTicks rfl rfl (by decide) (s_checkTicks (p := q) (q := 100) h1 h2 (by decide)) (fun v hp9 hq => ?_)
  obtain ⟨rfl, rfl⟩ := hq
  refine wp_aload_n (i := 0) dX5_conflictsIn_11 rfl rfl ?_
  refine wr_trial dX5_conflictsIn_12 hR f_X5_16 ?_
  refine wp_aload_n (i := 0) dX5_conflictsIn_15 rfl rfl ?_
  refine wr_net dX5_conflictsIn_16 hR f_X5_10 ?_
  refine wp_callV (N := mX2_copyFrom) (as := [.ref (xi 0 0 0 0)]) dX5_conflictsIn_19 l_X5_171 v_X2_copyFrom rfl (hR.oo (vs0 (n := 1) (by decide) (k := 0) (by decide)) (by decide)) rfl (by decide) (s_netCopy hR (n := 1) (n' := 0) (by decide) (by decide) (by decide)) (fun v hp8 hq => ?_)
  obtain ⟨rfl, M8, hR8, hC8⟩ := hq
  have hS8 : S1 hp8 M8 zB tB clk cc K D ev := ⟨h.1.copy hC8 hR8, by rw [hC8.2.2.1 2 _ (Or.inr (Or.inr ⟨rfl, Nat.mod_lt _ (by decide)⟩))]; exact h.2⟩
  refine wp_aload_n (i := 0) dX5_conflictsIn_22 rfl rfl ?_
  refine wr_trial dX5_conflictsIn_23 hR8 f_X5_16 ?_
  refine wp_iload_n (i := 1) dX5_conflictsIn_26 rfl rfl ?_
  refine wp_callV (N := mX2_mendLine) (as := [.int (nI c)]) dX5_conflictsIn_27 l_X5_56 v_X2_mendLine rfl (hR8.oo (vs0 (n := 1) (by decide) (k := 0) (by decide)) (by decide)) rfl (by decide) (s_mendLine hS8.1 (by decide) hc) (fun v hp7 hq => ?_)
  obtain ⟨M7, hS7, hM7, h67, m, rfl, hm, hml⟩ := hq
  have hR7 := hS7.1
  refine wp_pop dX5_conflictsIn_30 rfl ?_
  refine wp_iconst (v := 0) dX5_conflictsIn_31 rfl ?_
  refine wp_istore_n (i := 3) dX5_conflictsIn_32 rfl (Nat.le_of_ble_eq_true rfl) ?_
  exact w_conf_33 h hc hc4 hb q 0 rfl (Nat.zero_le _) _ M7 ⟨hS7, hM7.e0 hS8.2⟩ ((K0.cp hC8).trans (K0.of hM7.1.1)) (Nat.le_trans (Nat.le_of_eq (by rw [hC8.1 1 c 0 9 (Or.inr (Or.inl ⟨hc4, Or.inr (Or.inr ⟨rfl, rfl, by decide⟩)⟩))])) (hM7.1.2.1 c hc4).2.2)
end AHEAD
