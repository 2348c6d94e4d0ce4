/-! ===== a tick ===== -/
/-- a table is emptied -/
theorem Rep.wipe {hp : AH} {M : MS} (h : Rep hp M) {y n a : Nat} (ht : vt y n a) : Rep (hset hp (xt y n a) 2 (.int 0)) (sW M (mz M) (mt M) y n a [] (gP M y n a)) := by
  have hT := h.T ht
  have hne := hT.apart (xt_le ht).2
  have hz := h.2.1
  have htt := h.2.2.1
  obtain ⟨a1, a2, a3, a4, a5, a6, a7, a8, a9, a10, a11⟩ := id hT
  have e : aix (hset hp (xt y n a) 2 (.int 0)) (xt y n a) = aix hp (xt y n a) := aix_ne (fun q => by have := q.2; omega)
  have hh := Rep.tab (hp' := hset hp (xt y n a) 2 (.int 0)) h ht (r := []) (cap := gP M y n a) (Nat.le_refl _) (fun i _ h2 _ => ⟨rfl, fun k => hv_ne (fun q => h2 q.1)⟩) ?_ (Or.inl e)
  · rw [← hz, ← htt]; exact hh
  · unfold TabAt
    rw [e]
    refine ⟨a1, ?_, ?_, ?_, a5, a6, a7, Nat.zero_le _, a9, fun j hj => ?_, fun k q hq c hc => ?_⟩
    · rw [hv_ne (fun q => by have := q.2; omega)]; exact a2
    · rw [hv_set, if_pos ⟨rfl, rfl⟩]; rfl
    · rw [hv_ne (fun q => by have := q.2; omega)]; exact a4
    · rw [hv_ne (fun q => hne q.1)]; exact a10 j hj
    · rw [List.getElem?_nil] at hq; exact absurd hq (by simp)
section TICK
variable {L : Nat} {xs : Nat → Int32} {d : Nat} {hp : AH} {M : MS} {zB tB n clk cc K : Nat} {D : Nat → Nat} {ev : Bool} {r j s : Nat} {e : Nat → Nat} {c f p : Nat}
/-- what has come is gone -/
theorem ST.gone {hp' : AH} {w : Nat} (h : ST hp M zB tB n clk cc K D ev w 0 0 (fun _ => 0)) (hn : n < 2) (hw : (gT M 2 n (clk % 9)).length = w) (hR : Rep hp' (sW M (mz M) (mt M) 2 n (clk % 9) [] (gP M 2 n (clk % 9)))) : ST hp' (sW M (mz M) (mt M) 2 n (clk % 9) [] (gP M 2 n (clk % 9))) zB tB n clk cc K D ev 0 0 0 (fun _ => 0) ∧ FR M (sW M (mz M) (mt M) 2 n (clk % 9) [] (gP M 2 n (clk % 9))) n ∧ gT (sW M (mz M) (mt M) 2 n (clk % 9) [] (gP M 2 n (clk % 9))) 2 n (clk % 9) = [] := by
  have hk9 : clk % 9 < 9 := Nat.mod_lt _ (by decide)
  have hT1 : ∀ y a, y ≠ 2 → gT (sW M (mz M) (mt M) 2 n (clk % 9) [] (gP M 2 n (clk % 9))) y n a = gT M y n a := fun y a hy => gT_sWn (fun q => hy q.1)
  have hT2 : ∀ k, k ≠ clk % 9 → gT (sW M (mz M) (mt M) 2 n (clk % 9) [] (gP M 2 n (clk % 9))) 2 n k = gT M 2 n k := fun k hk => gT_sWn (fun q => hk q.2.2)
  obtain ⟨hR0, hI, ⟨n1, n2, n3, n4⟩, hB⟩ := h
  refine ⟨⟨hR, hI.gr (vt2 hn hk9) (Or.inl ⟨rfl, rfl, rfl⟩) (fun q => absurd q (Nat.lt_irrefl _)), ⟨n1, fun c hc => ?_, fun f hf => ?_, fun k hk q hq => ?_⟩, ?_⟩, ⟨G0.sw _ _ _ _ _ _ _ _, FC.rfl' _ _, FV.rfl' _ _⟩, gT_sW _ _ _ _ _ _ _ _⟩
  · obtain ⟨⟨l, a1⟩, a2, a3, a4, a5, a6, a7⟩ := n2 c hc
    exact ⟨⟨l, a1.of rfl (fun _ => rfl) (fun _ => ⟨rfl, rfl⟩)⟩, a2, a3, a4, by rw [hT1 0 c (by decide)]; exact a5, a6, a7⟩
  · obtain ⟨a1, a2, a3⟩ := n3 f hf
    exact ⟨a1, a2, by rw [hT1 1 f (by decide)]; exact a3⟩
  · by_cases hkk : k = clk % 9
    · subst hkk; rw [gT_sW] at hq; exact absurd hq List.not_mem_nil
    · rw [hT2 k hkk] at hq; exact n4 k hk q hq
  · subst hw
    unfold BJ at hB ⊢
    rw [show RQ (sW M (mz M) (mt M) 2 n (clk % 9) [] (gP M 2 n (clk % 9))) n = RQ M n from RQ_eq (fun f _ => hT1 1 f (by decide))]
    exact BB.gone hB (gT_sW _ _ _ _ _ _ _ _) (fun k _ hk => hT2 k hk) (fun c hc => by have := (n2 c hc).2.2.1; omega)
/-- the clock goes on -/
theorem ST.tick {hp' : AH} (h : ST hp M zB tB n clk cc K D ev 0 0 0 (fun _ => 0)) (h0 : gT M 2 n (clk % 9) = []) (hb : clk + 1 < 1000) (hR : Rep hp' (sV M 0 n 0 0 0 (nI (clk + 1)))) : ST hp' (sV M 0 n 0 0 0 (nI (clk + 1))) zB tB n (clk + 1) cc K D ev 0 0 0 (fun _ => 0) ∧ FR M (sV M 0 n 0 0 0 (nI (clk + 1))) n := by
  have hx : ∀ g n' a b k', ¬ (g = 0 ∧ k' = 0) → gV (sV M 0 n 0 0 0 (nI (clk + 1))) g n' a b k' = gV M g n' a b k' := fun g n' a b k' q => sV_ne (fun p => q ⟨p.1, p.2.2.2.2⟩)
  obtain ⟨hR0, hI, ⟨⟨b1, b2, b3, b4, rm, b6, b5⟩, n2, n3, n4⟩, hB⟩ := h
  have hv : vrs (sV M 0 n 0 0 0 (nI (clk + 1))) n = vrs M n := funext (fun f => by show vN _ = vN _; rw [hx _ _ _ _ _ (by omega)])
  have hw : ∀ k, k < 9 → ∀ q, q ∈ gT M 2 n k → ∃ c w, c < cc ∧ q 0 = nI c ∧ q 3 = nI w ∧ w % 9 = k ∧ clk + 1 ≤ w ∧ w ≤ clk + D c := fun k hk q hq => by
    obtain ⟨⟨c, w, t1, t2, t3, t4, t5, t6⟩, -⟩ := n4 k hk q hq
    refine ⟨c, w, t1, t2, t3, t4, ?_, t6⟩
    rcases Nat.lt_or_ge clk w with q9 | q9
    · exact q9
    · have e9 : w = clk := by omega
      rw [e9] at t4
      rw [← t4, h0] at hq
      exact absurd hq List.not_mem_nil
  have hz : ∀ c, c < 4 → ∀ q, q ∈ gT M 2 n ((clk + 1 + D c) % 9) → kdC c q = false ∧ kdA c q = false := fun c hc q hq => by
    obtain ⟨c', w, t1, t2, t3, t4, t5, t6⟩ := hw _ (Nat.mod_lt _ (by decide)) q hq
    have hD := (n2 c hc).2.2.1
    have hne : ¬ q 0 = nI c := fun e9 => by
      rw [t2] at e9
      have e8 := (nI_eq (by omega) (by omega)).mp e9
      subst e8
      omega
    refine ⟨?_, ?_⟩
    · rcases h9 : kdC c q with - | -
      · rfl
      · exact absurd (kdC_th h9).2.2.2 hne
    · rcases h9 : kdA c q with - | -
      · rfl
      · exact absurd (kdA_th h9).2.2.2 hne
  refine ⟨⟨hR, hI.of rfl rfl (fun _ _ _ => rfl), ⟨⟨hb, b2, sV_self _ _ _ _ _ _ _, by rw [hx _ _ _ _ _ (by omega)]; exact b4, rm, b6, by rw [hx _ _ _ _ _ (by omega)]; exact b5⟩, fun c hc => ?_, fun f hf => ?_, fun k hk q hq => ?_⟩, ?_⟩, ⟨G0.sv _ _ _ _ _ _ _, fun c _ => ⟨hx _ _ _ _ _ (by omega), hx _ _ _ _ _ (by omega), by rw [hx _ _ _ _ _ (by omega)]; exact Nat.le_refl _⟩, fun f _ => ⟨by rw [hv]; exact Nat.le_refl _, fun _ => hx _ _ _ _ _ (by omega)⟩⟩⟩
  · obtain ⟨⟨l, a1⟩, a2, a3, a4, a5, a6, a7⟩ := n2 c hc
    refine ⟨⟨l, a1.of (hx _ _ _ _ _ (by omega)) (fun _ => hx _ _ _ _ _ (by omega)) (fun _ => ⟨hx _ _ _ _ _ (by omega), hx _ _ _ _ _ (by omega)⟩)⟩, by rw [hx _ _ _ _ _ (by omega)]; exact a2, a3, ?_, a5, fun f hf => ?_, ?_⟩
    · rw [hx _ _ _ _ _ (by omega)]; intro q f hf; rw [hx _ _ _ _ _ (by omega), hx _ _ _ _ _ (by omega)]; exact a4 q f hf
    · unfold HJ; rw [hv, hx _ _ _ _ _ (by omega), hx _ _ _ _ _ (by omega)]; exact a6 f hf
    · rw [hx _ _ _ _ _ (by omega), hx _ _ _ _ _ (by omega)]; exact a7
  · unfold SJ; rw [hv, hx _ _ _ _ _ (by omega), hx _ _ _ _ _ (by omega)]; exact n3 f hf
  · rw [hv]
    have hq' : q ∈ gT M 2 n k := hq
    obtain ⟨c, w, t1, t2, t3, t4, t5, t6⟩ := hw k hk q hq'
    exact ⟨⟨c, w, t1, t2, t3, t4, t5, by omega⟩, (n4 k hk q hq').2⟩
  · unfold BJ at hB ⊢
    rw [show RQ (sV M 0 n 0 0 0 (nI (clk + 1))) n = RQ M n from rfl, FL_eq (M := M) (M' := sV M 0 n 0 0 0 (nI (clk + 1))) (fun c' f' _ _ => ⟨hx _ _ _ _ _ (by omega), hx _ _ _ _ _ (by omega)⟩), FF_eq (M := M) (M' := sV M 0 n 0 0 0 (nI (clk + 1))) (fun f' _ => hx _ _ _ _ _ (by omega)), hv, show (fun c => gV (sV M 0 n 0 0 0 (nI (clk + 1))) 1 n c 0 9) = (fun c => gV M 1 n c 0 9) from funext (fun c => hx _ _ _ _ _ (by omega))]
    exact BB.tick hB h0 hz (fun q hq => (n4 _ (Nat.mod_lt _ (by decide)) q hq).cover b2)
theorem w_tick_69 (hn : n < 2) {M0 : MS} (la : Nat) (lb : Int32) : ∀ (m c : Nat), cc - c = m → c ≤ cc → ∀ (hp : AH) (M : MS), ST hp M zB tB n clk cc K D ev 0 0 0 (fun _ => 0) → FR M0 M n → gT M 2 n (clk % 9) = [] → WP L xs (d + 6) mX2_passTick 69 [some (.ref (xi 0 n 0 0)), some (.ref la), some (.int lb), some (.int (nI c))] [] hp (fun v hp' => retOk mX2_passTick.2.2.2 v ∧ v = none ∧ ∃ M', ST hp' M' zB tB n clk cc K D ev 0 0 0 (fun _ => 0) ∧ FR M0 M' n ∧ gT M' 2 n (clk % 9) = []) := by
  intro m
  induction m using Nat.strongRecOn with
  | ind m ih =>
    intro c hm hc0 hp M h hM hE
    obtain ⟨b1, b2, b3, b4, b5⟩ := h.2.2.1.1
    subst hm
    refine wp_iload_n (i := 3) dX2_passTick_69 rfl rfl ?_
    refine wp_aload_n (i := 0) dX2_passTick_70 rfl rfl ?_
    refine wr_get (g := 0) (n := n) (a := 0) (b := 0) (k := 4) dX2_passTick_71 h.1 f_X2_44 (vs0 hn (by decide)) (by decide) (by decide) ?_
    refine wp_icmp_ge (tgt := 93) dX2_passTick_74 (by decide) (fun c74 => ?_) (fun c74 => ?_)
    · skip
      refine wp_ret (v := none) dX2_passTick_93 rfl ?_
      exact ⟨trivial, rfl, _, h, hM, hE⟩
    · skip
      refine wp_aload_n (i := 0) dX2_passTick_77 rfl rfl ?_
      refine wp_iload_n (i := 3) dX2_passTick_78 rfl rfl ?_
      refine wp_aload_n (i := 0) dX2_passTick_79 rfl rfl ?_
      refine wr_get (g := 0) (n := n) (a := 0) (b := 0) (k := 2) dX2_passTick_80 h.1 f_X2_15 (vs0 hn (by decide)) (by decide) (by decide) ?_
      rw [b4] at c74
      have hcc : c < cc := (nI_ltI (by omega) (by omega)).mp c74
      refine wp_callV (N := mX2_sendDirty) (as := [.int (nI c), .int _]) dX2_passTick_83 l_X2_144 v_X2_sendDirty rfl (h.1.oo (vs0 hn (k := 0) (by decide)) (by decide)) rfl (by decide) (s_sendDirty h hn hcc _) (fun v hp7 hq => ?_)
      obtain ⟨M7, hS7, hM7, mm, rfl, -⟩ := hq
      refine wp_pop dX2_passTick_86 rfl ?_
      refine wp_iinc (v := nI (c + 1)) dX2_passTick_87 rfl (nI_1 _) ?_
      refine wp_goto (tgt := 69) dX2_passTick_90 (by decide) ?_
      exact ih (cc - (c + 1)) (by omega) (c + 1) rfl (by omega) _ _ hS7 (hM.trans hM7.1) (by rw [hM7.2]; exact hE)
theorem w_tick_50 (hn : n < 2) {M0 : MS} (la : Nat) (lb : Int32) : ∀ (m f : Nat), 12 - f = m → f ≤ 12 → ∀ (hp : AH) (M : MS), ST hp M zB tB n clk cc K D ev 0 0 0 (fun _ => 0) → FR M0 M n → gT M 2 n (clk % 9) = [] → WP L xs (d + 6) mX2_passTick 50 [some (.ref (xi 0 n 0 0)), some (.ref la), some (.int lb), some (.int (nI f))] [] hp (fun v hp' => retOk mX2_passTick.2.2.2 v ∧ v = none ∧ ∃ M', ST hp' M' zB tB n clk cc K D ev 0 0 0 (fun _ => 0) ∧ FR M0 M' n ∧ gT M' 2 n (clk % 9) = []) := by
  intro m
  induction m using Nat.strongRecOn with
  | ind m ih =>
    intro f hm hf0 hp M h hM hE
    subst hm
    refine wp_iload_n (i := 3) dX2_passTick_50 rfl rfl ?_
    refine wp_bipush (v := nI 12) dX2_passTick_51 (by decide) ?_
    refine wp_icmp_ge (tgt := 67) dX2_passTick_53 (by decide) (fun c53 => ?_) (fun c53 => ?_)
    · skip
      refine wp_iconst (v := 0) dX2_passTick_67 rfl ?_
      refine wp_istore_n (i := 3) dX2_passTick_68 rfl (Nat.le_of_ble_eq_true rfl) ?_
      exact w_tick_69 hn _ _ cc 0 rfl (Nat.zero_le _) _ _ h hM hE
    · skip
      refine wp_aload_n (i := 0) dX2_passTick_56 rfl rfl ?_
      refine wp_iload_n (i := 3) dX2_passTick_57 rfl rfl ?_
      have hf : f < 12 := (nI_ltI (by omega) (by decide)).mp c53
      refine wp_callV (N := mX2_lookAtFirst) (as := [.int (nI f)]) dX2_passTick_58 l_X2_141 v_X2_lookAtFirst rfl (h.1.oo (vs0 hn (k := 0) (by decide)) (by decide)) rfl (by decide) (s_lookAtFirst h hn hf) (fun v hp7 hq => ?_)
      obtain ⟨rfl, M7, hS7, hM7⟩ := hq
      refine wp_iinc (v := nI (f + 1)) dX2_passTick_61 rfl (nI_1 _) ?_
      refine wp_goto (tgt := 50) dX2_passTick_64 (by decide) ?_
      exact ih (12 - (f + 1)) (by omega) (f + 1) rfl (by omega) _ _ hS7 (hM.trans hM7.1) (by rw [hM7.2]; exact hE)
theorem w_tick_26 (hn : n < 2) {M0 : MS} {w : Nat} (hw2 : w < 65536) : ∀ (m r : Nat), w - r = m → r ≤ w → ∀ (hp : AH) (M : MS), ST hp M zB tB n clk cc K D ev r 0 0 (fun _ => 0) → FR M0 M n → (gT M 2 n (clk % 9)).length = w → WP L xs (d + 6) mX2_passTick 26 [some (.ref (xi 0 n 0 0)), some (.ref (xt 2 n (clk % 9))), some (.int (nI w)), some (.int (nI r))] [] hp (fun v hp' => retOk mX2_passTick.2.2.2 v ∧ v = none ∧ ∃ M', ST hp' M' zB tB n clk cc K D ev 0 0 0 (fun _ => 0) ∧ FR M0 M' n ∧ gT M' 2 n (clk % 9) = []) := by
  have hk9 : clk % 9 < 9 := Nat.mod_lt _ (by decide)
  intro m
  induction m using Nat.strongRecOn with
  | ind m ih =>
    intro r hm hr0 hp M h hM hw
    subst hm
    refine wp_iload_n (i := 3) dX2_passTick_26 rfl rfl ?_
    refine wp_iload_n (i := 2) dX2_passTick_27 rfl rfl ?_
    refine wp_icmp_ge (tgt := 43) dX2_passTick_28 (by decide) (fun c28 => ?_) (fun c28 => ?_)
    · skip
      refine wp_aload_n (i := 1) dX2_passTick_43 rfl rfl ?_
      refine wp_iconst (v := 0) dX2_passTick_44 rfl ?_
      have hrw : r = w := by
        rcases Nat.lt_or_ge r w with q | q
        · exact absurd (nI_lt q (by omega)) c28
        · omega
      subst hrw
      refine wp_put dX2_passTick_45 (h.1.oT (vt2 hn hk9)) (p_X2_59 rfl) (okI rfl) (by decide) ?_
      have hR1 := h.1.wipe (vt2 hn hk9)
      obtain ⟨hS9, hM9, hE9⟩ := h.gone hn hw hR1
      refine wp_iconst (v := 0) dX2_passTick_48 rfl ?_
      refine wp_istore_n (i := 3) dX2_passTick_49 rfl (Nat.le_of_ble_eq_true rfl) ?_
      exact w_tick_50 hn _ _ 12 0 rfl (by decide) _ _ hS9 (hM.trans hM9) hE9
    · skip
      refine wp_aload_n (i := 0) dX2_passTick_31 rfl rfl ?_
      refine wp_aload_n (i := 1) dX2_passTick_32 rfl rfl ?_
      refine wp_iload_n (i := 3) dX2_passTick_33 rfl rfl ?_
      have hrw : r < w := (nI_ltI (by omega) (by omega)).mp c28
      refine wp_callV (N := mX2_bring) (as := [.ref (xt 2 n (clk % 9)), .int (nI r)]) dX2_passTick_34 l_X2_137 v_X2_bring rfl (h.1.oo (vs0 hn (k := 0) (by decide)) (by decide)) rfl (by decide) (s_bring h hn (by omega)) (fun v hp7 hq => ?_)
      obtain ⟨rfl, M7, hS7, hM7⟩ := hq
      refine wp_iinc (v := nI (r + 1)) dX2_passTick_37 rfl (nI_1 _) ?_
      refine wp_goto (tgt := 26) dX2_passTick_40 (by decide) ?_
      exact ih (w - (r + 1)) (by omega) (r + 1) rfl (by omega) _ _ hS7 (hM.trans hM7.1) (by rw [hM7.2]; exact hw)
/-- a tick -/
theorem s_passTick (h : ST hp M zB tB n clk cc K D ev 0 0 0 (fun _ => 0)) (hn : n < 2) (hE : gT M 2 n (clk % 9) = []) (hb : clk + 1 < 1000) : WM L xs (d + 6) mX2_passTick [.ref (xi 0 n 0 0)] hp (fun v hp' => v = none ∧ ∃ M', ST hp' M' zB tB n (clk + 1) cc K D ev 0 0 0 (fun _ => 0) ∧ FR M M' n ∧ gT M' 2 n ((clk + 1) % 9) = []) := by
  have hk9 : (clk + 1) % 9 < 9 := Nat.mod_lt _ (by decide)
  obtain ⟨b1, b2, b3, b4, b5⟩ := h.2.2.1.1
  refine WM.of [some (.ref _), none, none, none] (by decide) rfl (Nat.le_of_ble_eq_true rfl) ?_
  refine wp_aload_n (i := 0) dX2_passTick_0 rfl rfl ?_
  refine wp_dup dX2_passTick_1 rfl ?_
  refine wr_get (g := 0) (n := n) (a := 0) (b := 0) (k := 0) dX2_passTick_2 h.1 f_X2_62 (vs0 hn (by decide)) (by decide) (by decide) ?_
  refine wp_iconst (v := 1) dX2_passTick_5 rfl ?_
  refine wp_iadd dX2_passTick_6 ?_
  rw [show gV M 0 n 0 0 0 + 1 = nI (clk + 1) from by rw [b3]; exact nI_add clk 1]
  refine wr_put (g := 0) (n := n) (a := 0) (b := 0) (k := 0) dX2_passTick_7 h.1 (p_X2_62 rfl) (vs0 hn (by decide)) (by decide) (by decide) (okI rfl) (fun hp2 hR1 => ?_)
  obtain ⟨hS1, hM1⟩ := h.tick hE hb hR1
  refine wp_aload_n (i := 0) dX2_passTick_10 rfl rfl ?_
  refine wp_aload_n (i := 0) dX2_passTick_11 rfl rfl ?_
  refine wr_get (g := 0) (n := n) (a := 0) (b := 0) (k := 0) dX2_passTick_12 hR1 f_X2_62 (vs0 hn (by decide)) (by decide) (by decide) ?_
  rw [sV_self]
  refine wp_callV (N := mX2_slotAt) (as := [.int (nI (clk + 1))]) dX2_passTick_15 l_X2_65 v_X2_slotAt rfl (hR1.oo (vs0 hn (k := 0) (by decide)) (by decide)) rfl (by decide) (s_slotAt hR1 hn (by omega)) (fun v hp6 hq => ?_)
  obtain ⟨rfl, rfl⟩ := hq
  refine wp_astore_n (i := 1) dX2_passTick_18 rfl (Nat.le_of_ble_eq_true rfl) ?_
  refine wp_aload_n (i := 1) dX2_passTick_19 rfl rfl ?_
  refine wr_rows dX2_passTick_20 hR1 f_X2_59 (vt2 hn hk9) ?_
  refine wp_istore_n (i := 2) dX2_passTick_23 rfl (Nat.le_of_ble_eq_true rfl) ?_
  refine wp_iconst (v := 0) dX2_passTick_24 rfl ?_
  refine wp_istore_n (i := 3) dX2_passTick_25 rfl (Nat.le_of_ble_eq_true rfl) ?_
  have hlen : (gT M 2 n ((clk + 1) % 9)).length ≤ 11328 := h.2.2.1.len h.2.2.2 (Nat.zero_le _) hk9 (by omega)
  exact w_tick_26 hn (by show (gT M 2 n ((clk + 1) % 9)).length < 65536; omega) _ 0 rfl (Nat.zero_le _) _ _ hS1 hM1 rfl
end TICK
