/-! ===== Client, VI: what is kept aside; CLASH ===== -/
/-- a table's room, and what it has cost so far -/
def Gr (w c0 z0 t0 c z t : Nat) : Prop := (c = c0 ∧ z = z0 ∧ t = t0) ∨ (c = 2 * (c0 + 1) ∧ z = z0 + 1 ∧ t = t0 + w * c)
def Gk (c0 z0 t0 c z t : Nat) : Prop := Gr 2 c0 z0 t0 c z t ∧ (c0 < c → c ≤ 40)
theorem Gr.add {hp : AH} {M : MS} (hR : Rep hp M) {y n a : Nat} (ht : vt y n a) : Gr (tw y) (gP M y n a) (mz M) (mt M) (aP M y n a) (aZ M y n a) (aT M y n a) := by
  have hle := (hR.T ht).2.2.2.2.2.2.2.1
  by_cases h : (gT M y n a).length < gP M y n a
  · rw [aP, aZ, aT, if_pos h, if_pos h, if_pos h]; exact Or.inl ⟨rfl, rfl, rfl⟩
  · rw [aP, aZ, aT, if_neg h, if_neg h, if_neg h]
    have e : (gT M y n a).length = gP M y n a := by omega
    exact Or.inr ⟨by rw [e], rfl, rfl⟩
theorem given_ne {M : MS} {n c f : Nat} {x w u : Int32} {g n' a b k : Nat} (h : g ≠ 2) : gV (mGiven M n c f x w u) g n' a b k = gV M g n' a b k := by
  unfold mGiven
  rw [sV_ne (by omega), sV_ne (by omega), sV_ne (by omega), sV_ne (by omega), sV_ne (by omega)]
section CLIENT6
variable {L : Nat} {xs : Nat → Int32} {d : Nat} {hp : AH} {M : MS} {n c : Nat} {Q : Option Value → AH → Prop}

theorem w_keep_20 (hR : Rep hp M) (hn : n < 2) (hc : c < 4) {f : Nat} {x : Int32} (hl : (gT M 0 n c).length < 10) : WP L xs (d + 2) mX0_keepAside 20 [some (.ref (xi 1 n c 0)), some (.int (nI f)), some (.int x), none] [] hp (fun v hp' => retOk mX0_keepAside.2.2.2 v ∧ v = none ∧ ∃ r' c' z t, Rep hp' (sW M z t 0 n c r' c') ∧ r'.length ≤ 10 ∧ Gk (gP M 0 n c) (mz M) (mt M) c' z t) := by
  have hT0 : vt 0 n c := vt0 hn hc
  refine wp_aload_n (i := 0) dX0_keepAside_20 rfl rfl ?_
  refine wr_cliR (j := xt 0 n c) dX0_keepAside_21 hR f_X0_26 hn hc (Or.inr (Or.inr ⟨rfl, rfl⟩)) ?_
  refine wp_callV (N := mX4_addRow) (as := []) dX0_keepAside_24 l_X0_100 v_X4_addRow rfl (hR.oT (vt0 hn hc)) rfl (by decide) (s_addRow hR (vt0 hn hc) (by omega)) (fun v hp1 hq => ?_)
  obtain ⟨rfl, q, hR1⟩ := hq
  refine wp_istore_n (i := 3) dX0_keepAside_27 rfl (Nat.le_of_ble_eq_true rfl) ?_
  refine wp_aload_n (i := 0) dX0_keepAside_28 rfl rfl ?_
  refine wr_cliR (j := xt 0 n c) dX0_keepAside_29 hR1 f_X0_26 hn hc (Or.inr (Or.inr ⟨rfl, rfl⟩)) ?_
  refine wp_iload_n (i := 3) dX0_keepAside_32 rfl rfl ?_
  refine wp_iconst (v := 0) dX0_keepAside_33 rfl ?_
  refine wp_iload_n (i := 1) dX0_keepAside_34 rfl rfl ?_
  refine wp_callV (N := mX4_put) (as := [.int (nI (gT M 0 n c).length), .int (nI 0), .int (nI f)]) dX0_keepAside_35 l_X0_104 v_X4_put rfl (hR1.oT (vt0 hn hc)) rfl (by decide) (s_put hR1 (vt0 hn hc) (r := (gT M 0 n c).length) (c := 0) (by rw [gT_sW, List.length_append]; exact Nat.lt_succ_self _) (by decide) (nI f)) (fun v hp1 hq => ?_)
  obtain ⟨rfl, hR2⟩ := hq
  refine wp_aload_n (i := 0) dX0_keepAside_38 rfl rfl ?_
  refine wr_cliR (j := xt 0 n c) dX0_keepAside_39 hR2 f_X0_26 hn hc (Or.inr (Or.inr ⟨rfl, rfl⟩)) ?_
  refine wp_iload_n (i := 3) dX0_keepAside_42 rfl rfl ?_
  refine wp_iconst (v := 1) dX0_keepAside_43 rfl ?_
  refine wp_iload_n (i := 2) dX0_keepAside_44 rfl rfl ?_
  refine wp_callV (N := mX4_put) (as := [.int (nI (gT M 0 n c).length), .int (nI 1), .int x]) dX0_keepAside_45 l_X0_104 v_X4_put rfl (hR2.oT (vt0 hn hc)) rfl (by decide) (s_put hR2 (vt0 hn hc) (r := (gT M 0 n c).length) (c := 1) (by rw [gT_sW, List.length_set, gT_sW, List.length_append]; exact Nat.lt_succ_self _) (by decide) x) (fun v hp1 hq => ?_)
  obtain ⟨rfl, hR3⟩ := hq
  refine wp_ret (v := none) dX0_keepAside_48 rfl ?_
  rw [sW_sW, sW_sW] at hR3
  have hg : Gk (gP M 0 n c) (mz M) (mt M) (aP M 0 n c) (aZ M 0 n c) (aT M 0 n c) := ⟨Gr.add hR hT0, fun hlt => by
    unfold aP at hlt ⊢
    by_cases h9 : (gT M 0 n c).length < gP M 0 n c
    · rw [if_pos h9] at hlt; omega
    · rw [if_neg h9]; omega⟩
  rw [gP_sW, gP_sW] at hR3
  refine ⟨trivial, rfl, _, _, _, _, hR3, ?_, hg⟩
  rw [List.length_set, gT_sW, List.length_set, gT_sW, List.length_append]
  exact hl
/-- what a client had is kept aside, the latest ten -/
theorem s_keepAside (hR : Rep hp M) (hn : n < 2) (hc : c < 4) {f : Nat} {x : Int32} (hl : (gT M 0 n c).length ≤ 10) : WM L xs (d + 2) mX0_keepAside [.ref (xi 1 n c 0), .int (nI f), .int x] hp (fun v hp' => v = none ∧ ∃ r' c' z t, Rep hp' (sW M z t 0 n c r' c') ∧ r'.length ≤ 10 ∧ Gk (gP M 0 n c) (mz M) (mt M) c' z t) := by
  refine WM.of [some (.ref _), some (.int (nI f)), some (.int x), none] (by decide) rfl (Nat.le_of_ble_eq_true rfl) ?_
  refine wp_aload_n (i := 0) dX0_keepAside_0 rfl rfl ?_
  refine wr_cliR (j := xt 0 n c) dX0_keepAside_1 hR f_X0_26 hn hc (Or.inr (Or.inr ⟨rfl, rfl⟩)) ?_
  refine wr_rows dX0_keepAside_4 hR f_X0_94 (vt0 hn hc) ?_
  refine wp_bipush (v := nI 10) dX0_keepAside_7 (by decide) ?_
  refine wp_icmp_lt (tgt := 20) dX0_keepAside_9 (by decide) (fun c9 => ?_) (fun c9 => ?_)
  · skip
    rw [nI_ltI (by omega) (by decide)] at c9
    refine WP.mono (w_keep_20 hR hn hc (by omega)) (fun v hp' hq => ?_)
    obtain ⟨q1, q2, r', c', z, t, q3, q4, q5⟩ := hq
    exact ⟨q1, q2, r', c', z, t, q3, q4, q5⟩
  · skip
    refine wp_aload_n (i := 0) dX0_keepAside_12 rfl rfl ?_
    refine wr_cliR (j := xt 0 n c) dX0_keepAside_13 hR f_X0_26 hn hc (Or.inr (Or.inr ⟨rfl, rfl⟩)) ?_
    refine wp_iconst (v := 1) dX0_keepAside_16 rfl ?_
    refine wp_callV (N := mX4_dropFirst) (as := [.int (nI 1)]) dX0_keepAside_17 l_X0_97 v_X4_dropFirst rfl (hR.oT (vt0 hn hc)) rfl (by decide) (s_dropFirst hR (vt0 hn hc) (m := 1) (by rw [nI_ltI (by omega) (by decide)] at c9; omega)) (fun v hp1 hq => ?_)
    obtain ⟨rfl, hR1⟩ := hq
    rw [nI_ltI (by omega) (by decide)] at c9
    refine WP.mono (w_keep_20 hR1 hn hc (by rw [gT_sW, List.length_drop]; omega)) (fun v hp' hq => ?_)
    obtain ⟨q1, q2, r', c', z, t, q3, q4, q5⟩ := hq
    rw [sW_sW] at q3
    rw [gP_sW] at q5
    exact ⟨q1, q2, r', c', z, t, q3, q4, q5⟩
/-- behind a CLASH: its client's files, what it kept aside -/
def ClR (M M' : MS) (n c f : Nat) (x w : Int32) : Prop := (∃ l', CI M' n c l') ∧ HR M M' n c f x w ∧ gV M' 2 n c f 6 = gV M 2 n c f 6 ∧ gV M' 2 n c f 7 = 0 ∧
  (∀ g n' a b k, ¬ (n' = n ∧ a = c ∧ (g = 2 ∨ g = 3 ∨ (g = 1 ∧ b = 0 ∧ k = 2))) → gV M' g n' a b k = gV (sV M 1 n c 0 9 (gV M 1 n c 0 9 + 1)) g n' a b k) ∧
  (∀ y n' a, ¬ (y = 0 ∧ n' = n ∧ a = c) → gT M' y n' a = gT M y n' a ∧ gP M' y n' a = gP M y n' a) ∧ (∀ i, gX M' i = gX M i) ∧ (gT M' 0 n c).length ≤ 10 ∧ Gk (gP M 0 n c) (mz M) (mt M) (gP M' 0 n c) (mz M') (mt M')
theorem gV_sW (M : MS) (z t y n a : Nat) (r : List Row) (cap g n' a' b k : Nat) : gV (sW M z t y n a r cap) g n' a' b k = gV M g n' a' b k := rfl
theorem CI.of {M M' : MS} {n c : Nat} {l : List Nat} (h : CI M n c l) (h1 : gV M' 1 n c 0 2 = gV M 1 n c 0 2) (h3 : ∀ k, gV M' 3 n c 0 k = gV M 3 n c 0 k) (h2 : ∀ f, gV M' 2 n c f 0 = gV M 2 n c f 0 ∧ gV M' 2 n c f 4 = gV M 2 n c f 4) : CI M' n c l :=
  ⟨h.1.oth h1 h3, h.2.1, h.2.2.1, fun f hf => by rw [(h2 f).1]; exact h.2.2.2.1 f hf, fun f hf => by rw [(h2 f).2]; exact h.2.2.2.2 f hf⟩
/-- CLASH comes; the answer: whether the file is to be sent again -/
theorem s_takeClash (hR : Rep hp M) (hn : n < 2) (hc : c < 4) {l : List Nat} (hI : CI M n c l) {f : Nat} (hf : f < 12) (x w : Int32) (hl : (gT M 0 n c).length ≤ 10) : WM L xs (d + 3) mX0_takeClash [.ref (xi 1 n c 0), .int (nI f), .int x, .int w] hp (fun v hp' => ∃ M', Rep hp' M' ∧ ClR M M' n c f x w ∧ (v = some (.int 0) ∨ v = some (.int 1))) := by
  have hB : ∀ g n' a b k, ¬ (n' = n ∧ a = c ∧ (g = 2 ∨ g = 3 ∨ (g = 1 ∧ b = 0 ∧ k = 2))) → gV (sV (sV M 2 n c f 7 0) 1 n c 0 9 (gV (sV M 2 n c f 7 0) 1 n c 0 9 + 1)) g n' a b k = gV (sV M 1 n c 0 9 (gV M 1 n c 0 9 + 1)) g n' a b k := by
    intro g n' a b k hq
    simp only [gV_sV]
    repeat' split
    all_goals first | rfl | (exfalso; omega) | skip
  refine WM.of [some (.ref _), some (.int (nI f)), some (.int x), some (.int w), none] (by decide) rfl (Nat.le_of_ble_eq_true rfl) ?_
  refine wp_aload_n (i := 0) dX0_takeClash_0 rfl rfl ?_
  refine wr_cliR (j := rF n c) dX0_takeClash_1 hR f_X0_11 hn hc (Or.inl ⟨rfl, rfl⟩) ?_
  refine wp_iload_n (i := 1) dX0_takeClash_4 rfl rfl ?_
  refine wr_aF (f := f) dX0_takeClash_5 hR rfl hn hc hf ?_
  refine wp_astore dX0_takeClash_6 (Nat.le_of_ble_eq_true rfl) ?_
  refine wp_aload dX0_takeClash_8 rfl ?_
  refine wp_iconst (v := 0) dX0_takeClash_10 rfl ?_
  refine wr_put (g := 2) (n := n) (a := c) (b := f) (k := 7) dX0_takeClash_11 hR (p_X0_42 rfl) (vs2 hn hc hf (by decide)) (by decide) (by decide) (okB rfl (by decide)) (fun hp2 hR1 => ?_)
  refine wp_aload_n (i := 0) dX0_takeClash_14 rfl rfl ?_
  refine wp_dup dX0_takeClash_15 rfl ?_
  refine wr_get (g := 1) (n := n) (a := c) (b := 0) (k := 9) dX0_takeClash_16 hR1 f_X0_78 (vs1 hn hc (by decide)) (by decide) (by decide) ?_
  refine wp_iconst (v := 1) dX0_takeClash_19 rfl ?_
  refine wp_iadd dX0_takeClash_20 ?_
  refine wr_put (g := 1) (n := n) (a := c) (b := 0) (k := 9) dX0_takeClash_21 hR1 (p_X0_78 rfl) (vs1 hn hc (by decide)) (by decide) (by decide) (okI rfl) (fun hp4 hR3 => ?_)
  refine wp_aload dX0_takeClash_24 rfl ?_
  refine wr_get (g := 2) (n := n) (a := c) (b := f) (k := 0) dX0_takeClash_26 hR3 f_X0_55 (vs2 hn hc hf (by decide)) (by decide) (by decide) ?_
  refine wp_if_ne (tgt := 34) dX0_takeClash_29 (by decide) (fun c29 => ?_) (fun c29 => ?_)
  · skip
    refine wp_aload_n (i := 0) dX0_takeClash_34 rfl rfl ?_
    refine wr_get (g := 1) (n := n) (a := c) (b := 0) (k := 5) dX0_takeClash_35 hR3 f_X0_81 (vs1 hn hc (by decide)) (by decide) (by decide) ?_
    refine wp_iconst (v := 1) dX0_takeClash_38 rfl ?_
    refine wp_icmp_ne (tgt := 50) dX0_takeClash_39 (by decide) (fun c39 => ?_) (fun c39 => ?_)
    · skip
      refine wp_aload_n (i := 0) dX0_takeClash_50 rfl rfl ?_
      refine wr_get (g := 1) (n := n) (a := c) (b := 0) (k := 5) dX0_takeClash_51 hR3 f_X0_81 (vs1 hn hc (by decide)) (by decide) (by decide) ?_
      refine wp_iconst (v := 2) dX0_takeClash_54 rfl ?_
      refine wp_icmp_ne (tgt := 68) dX0_takeClash_55 (by decide) (fun c55 => ?_) (fun c55 => ?_)
      · skip
        refine wp_aload dX0_takeClash_68 rfl ?_
        refine wp_iload_n (i := 2) dX0_takeClash_70 rfl rfl ?_
        refine wp_iload_n (i := 3) dX0_takeClash_71 rfl rfl ?_
        refine wp_iconst (v := (-1)) dX0_takeClash_72 rfl ?_
        refine wp_callV (N := mX1_beGiven) (as := [.int x, .int w, .int (-1)]) dX0_takeClash_73 l_X0_65 v_X1_beGiven rfl (hR3.oo (vs2 hn hc hf (k := 0) (by decide)) (by decide)) rfl (by decide) (s_beGiven hR3 hn hc hf x w (-1)) (fun v hp3 hq => ?_)
        obtain ⟨rfl, hR6⟩ := hq
        refine wp_iconst (v := 0) dX0_takeClash_76 rfl ?_
        refine wp_ret (v := some (.int _)) dX0_takeClash_77 rfl ?_
        have hhe : ¬ gV M 2 n c f 0 = 0 := by rw [sV_ne (by omega), sV_ne (by omega)] at c29; exact c29
        have hfl : f ∈ l := (hI.2.2.2.1 f hf).mp hhe
        have hO := Oth.given (sV (sV M 2 n c f 7 0) 1 n c 0 9 (gV (sV M 2 n c f 7 0) 1 n c 0 9 + 1)) n c f x w (-1)
        refine ⟨Or.inl rfl, _, hR6, ⟨⟨l, ?_, hI.2.1, hI.2.2.1, fun g hg => ?_, fun g hg hd => ?_⟩, HR.trans (M' := sV (sV M 2 n c f 7 0) 1 n c 0 9 (gV (sV M 2 n c f 7 0) 1 n c 0 9 + 1)) ⟨fun g => Or.inl (by rw [sV_ne (by omega), sV_ne (by omega)]), fun g => Or.inl (by rw [sV_ne (by omega), sV_ne (by omega)]), fun g hg => ⟨by rw [sV_ne (by omega), sV_ne (by omega)], by rw [sV_ne (by omega), sV_ne (by omega)]⟩⟩ (HR.given _ n c f x w (-1)), ?_, ?_, fun g n' a b k hq => (hO.1 g n' a b k hq).trans (hB g n' a b k hq), fun _ _ _ _ => ⟨rfl, rfl⟩, fun _ => rfl, hl, ⟨Or.inl ⟨rfl, rfl, rfl⟩, fun q => absurd q (Nat.lt_irrefl _)⟩⟩, Or.inl rfl⟩
        · refine hI.1.oth ?_ (fun k => ?_)
          · rw [given_ne (by decide)]; rw [sV_ne (by omega), sV_ne (by omega)]
          · rw [given_ne (by decide)]; rw [sV_ne (by omega), sV_ne (by omega)]
        · rw [given_get]
          by_cases h : g = f
          · rw [if_pos h]; subst h; exact ⟨fun _ => hfl, fun _ q => absurd q (show ¬ (1 : Int32) = 0 by decide)⟩
          · rw [if_neg h]; rw [sV_ne (by omega), sV_ne (by omega)]; exact hI.2.2.2.1 g hg
        · rw [given_get] at hd
          by_cases h : g = f
          · subst h; exact hfl
          · rw [if_neg h] at hd; refine hI.2.2.2.2 g hg (fun q => hd ?_); rw [sV_ne (by omega), sV_ne (by omega)]; exact q
        · rw [given_get, if_pos rfl]; show gV (sV (sV M 2 n c f 7 0) 1 n c 0 9 (gV (sV M 2 n c f 7 0) 1 n c 0 9 + 1)) 2 n c f 6 = _; rw [sV_ne (by omega), sV_ne (by omega)]
        · rw [given_get, if_pos rfl]; show gV (sV (sV M 2 n c f 7 0) 1 n c 0 9 (gV (sV M 2 n c f 7 0) 1 n c 0 9 + 1)) 2 n c f 7 = 0; rw [sV_ne (by omega), sV_self]
      · skip
        refine wp_aload_n (i := 0) dX0_takeClash_58 rfl rfl ?_
        refine wp_iload_n (i := 1) dX0_takeClash_59 rfl rfl ?_
        refine wp_aload dX0_takeClash_60 rfl ?_
        refine wr_get (g := 2) (n := n) (a := c) (b := f) (k := 1) dX0_takeClash_62 hR3 f_X0_87 (vs2 hn hc hf (by decide)) (by decide) (by decide) ?_
        refine wp_callV (N := mX0_keepAside) dX0_takeClash_65 l_X0_90 v_X0_keepAside rfl (hR3.oo (vs1 hn hc (k := 2) (by decide)) (by decide)) rfl (by decide) (s_keepAside hR3 hn hc hl) (fun v hp1 hq => ?_)
        obtain ⟨rfl, r', c', z, t, hR5, hr', hg⟩ := hq
        refine wp_aload dX0_takeClash_68 rfl ?_
        refine wp_iload_n (i := 2) dX0_takeClash_70 rfl rfl ?_
        refine wp_iload_n (i := 3) dX0_takeClash_71 rfl rfl ?_
        refine wp_iconst (v := (-1)) dX0_takeClash_72 rfl ?_
        refine wp_callV (N := mX1_beGiven) (as := [.int x, .int w, .int (-1)]) dX0_takeClash_73 l_X0_65 v_X1_beGiven rfl (hR5.oo (vs2 hn hc hf (k := 0) (by decide)) (by decide)) rfl (by decide) (s_beGiven hR5 hn hc hf x w (-1)) (fun v hp3 hq => ?_)
        obtain ⟨rfl, hR6⟩ := hq
        refine wp_iconst (v := 0) dX0_takeClash_76 rfl ?_
        refine wp_ret (v := some (.int _)) dX0_takeClash_77 rfl ?_
        have hhe : ¬ gV M 2 n c f 0 = 0 := by rw [sV_ne (by omega), sV_ne (by omega)] at c29; exact c29
        have hfl : f ∈ l := (hI.2.2.2.1 f hf).mp hhe
        have hO := Oth.given (sW (sV (sV M 2 n c f 7 0) 1 n c 0 9 (gV (sV M 2 n c f 7 0) 1 n c 0 9 + 1)) z t 0 n c r' c') n c f x w (-1)
        refine ⟨Or.inl rfl, _, hR6, ⟨⟨l, ?_, hI.2.1, hI.2.2.1, fun g hg => ?_, fun g hg hd => ?_⟩, HR.trans (M' := sW (sV (sV M 2 n c f 7 0) 1 n c 0 9 (gV (sV M 2 n c f 7 0) 1 n c 0 9 + 1)) z t 0 n c r' c') ⟨fun g => Or.inl (by rw [gV_sW, sV_ne (by omega), sV_ne (by omega)]), fun g => Or.inl (by rw [gV_sW, sV_ne (by omega), sV_ne (by omega)]), fun g hg => ⟨by rw [gV_sW, sV_ne (by omega), sV_ne (by omega)], by rw [gV_sW, sV_ne (by omega), sV_ne (by omega)]⟩⟩ (HR.given _ n c f x w (-1)), ?_, ?_, fun g n' a b k hq => (hO.1 g n' a b k hq).trans (hB g n' a b k hq), fun y n' a hq => ⟨gT_sWn (z := z) (t := t) hq, gP_sWn (z := z) (t := t) hq⟩, fun _ => rfl, by show (gT (sW (sV (sV M 2 n c f 7 0) 1 n c 0 9 (gV (sV M 2 n c f 7 0) 1 n c 0 9 + 1)) z t 0 n c r' c') 0 n c).length ≤ 10; rw [gT_sW]; exact hr', by show Gk (gP M 0 n c) (mz M) (mt M) (gP (sW (sV (sV M 2 n c f 7 0) 1 n c 0 9 (gV (sV M 2 n c f 7 0) 1 n c 0 9 + 1)) z t 0 n c r' c') 0 n c) z t; rw [gP_sW]; exact hg⟩, Or.inl rfl⟩
        · refine hI.1.oth ?_ (fun k => ?_)
          · rw [given_ne (by decide)]; rw [gV_sW, sV_ne (by omega), sV_ne (by omega)]
          · rw [given_ne (by decide)]; rw [gV_sW, sV_ne (by omega), sV_ne (by omega)]
        · rw [given_get]
          by_cases h : g = f
          · rw [if_pos h]; subst h; exact ⟨fun _ => hfl, fun _ q => absurd q (show ¬ (1 : Int32) = 0 by decide)⟩
          · rw [if_neg h]; rw [gV_sW, sV_ne (by omega), sV_ne (by omega)]; exact hI.2.2.2.1 g hg
        · rw [given_get] at hd
          by_cases h : g = f
          · subst h; exact hfl
          · rw [if_neg h] at hd; refine hI.2.2.2.2 g hg (fun q => hd ?_); rw [gV_sW, sV_ne (by omega), sV_ne (by omega)]; exact q
        · rw [given_get, if_pos rfl]; show gV (sW (sV (sV M 2 n c f 7 0) 1 n c 0 9 (gV (sV M 2 n c f 7 0) 1 n c 0 9 + 1)) z t 0 n c r' c') 2 n c f 6 = _; rw [gV_sW, sV_ne (by omega), sV_ne (by omega)]
        · rw [given_get, if_pos rfl]; show gV (sW (sV (sV M 2 n c f 7 0) 1 n c 0 9 (gV (sV M 2 n c f 7 0) 1 n c 0 9 + 1)) z t 0 n c r' c') 2 n c f 7 = 0; rw [gV_sW, sV_ne (by omega), sV_self]
    · skip
      refine wp_aload dX0_takeClash_42 rfl ?_
      refine wp_iload_n (i := 3) dX0_takeClash_44 rfl rfl ?_
      refine wr_put (g := 2) (n := n) (a := c) (b := f) (k := 2) dX0_takeClash_45 hR3 (p_X0_84 rfl) (vs2 hn hc hf (by decide)) (by decide) (by decide) (okI rfl) (fun hp6 hR5 => ?_)
      refine wp_iconst (v := 1) dX0_takeClash_48 rfl ?_
      refine wp_ret (v := some (.int _)) dX0_takeClash_49 rfl ?_
      exact ⟨Or.inr rfl, _, hR5, ⟨⟨l, hI.of (by rw [sV_ne (by omega), sV_ne (by omega), sV_ne (by omega)]) (fun k => by rw [sV_ne (by omega), sV_ne (by omega), sV_ne (by omega)]) (fun g => ⟨by rw [sV_ne (by omega), sV_ne (by omega), sV_ne (by omega)], by rw [sV_ne (by omega), sV_ne (by omega), sV_ne (by omega)]⟩)⟩, ⟨fun g => Or.inl (by rw [sV_ne (by omega), sV_ne (by omega), sV_ne (by omega)]), fun g => by
        by_cases hg : g = f
        · subst hg; right; exact ⟨rfl, by rw [sV_self]⟩
        · left; rw [sV_ne (by omega), sV_ne (by omega), sV_ne (by omega)], fun g hg => ⟨by rw [sV_ne (by omega), sV_ne (by omega), sV_ne (by omega)], by rw [sV_ne (by omega), sV_ne (by omega), sV_ne (by omega)]⟩⟩, by rw [sV_ne (by omega), sV_ne (by omega), sV_ne (by omega)], by rw [sV_ne (by omega), sV_ne (by omega), sV_self], fun g n' a b k hq => by
        rw [sV_ne (by omega)]
        exact hB g n' a b k hq, fun _ _ _ _ => ⟨rfl, rfl⟩, fun _ => rfl, hl, ⟨Or.inl ⟨rfl, rfl, rfl⟩, fun q => absurd q (Nat.lt_irrefl _)⟩⟩, Or.inr rfl⟩
  · skip
    refine wp_iconst (v := 0) dX0_takeClash_32 rfl ?_
    refine wp_ret (v := some (.int _)) dX0_takeClash_33 rfl ?_
    exact ⟨Or.inl rfl, _, hR3, ⟨⟨l, hI.of (by rw [sV_ne (by omega), sV_ne (by omega)]) (fun k => by rw [sV_ne (by omega), sV_ne (by omega)]) (fun g => ⟨by rw [sV_ne (by omega), sV_ne (by omega)], by rw [sV_ne (by omega), sV_ne (by omega)]⟩)⟩, ⟨fun g => Or.inl (by rw [sV_ne (by omega), sV_ne (by omega)]), fun g => Or.inl (by rw [sV_ne (by omega), sV_ne (by omega)]), fun g hg => ⟨by rw [sV_ne (by omega), sV_ne (by omega)], by rw [sV_ne (by omega), sV_ne (by omega)]⟩⟩, by rw [sV_ne (by omega), sV_ne (by omega)], by rw [sV_ne (by omega), sV_self], fun g n' a b k hq => hB g n' a b k hq, fun _ _ _ _ => ⟨rfl, rfl⟩, fun _ => rfl, hl, ⟨Or.inl ⟨rfl, rfl, rfl⟩, fun q => absurd q (Nat.lt_irrefl _)⟩⟩, Or.inl rfl⟩
end CLIENT6
