/-! ===== the law: a round of its loop ===== -/
theorem lg_self (x : Int64) : lg_cmp x x = 0 := by
  unfold lg_cmp
  rw [if_neg Int64.lt_irrefl, if_pos rfl]
section LAW5
variable {L : Nat} {xs : Nat → Int32} {d : Nat} {hp : AH} {M : MS} {zB tB clk cc K T t c f : Nat} {D : Nat → Nat} {ev : Bool} {Q : Option Value → AH → Prop} {nh nm : Nat → Nat} {F : Nat → Int32} {e X tI : Int32}
/-- the next round -/
theorem w_lw_616 (hI : LI hp M T cc (t + 1) e) (k7 : ∀ (hp : AH) (M : MS) (e : Int32) (l6 l7 l8 l9 l10 l11 l12 : Option Value), LI hp M T cc (t + 1) e → WP L xs (d + 9) mL_law 77 [some (.ref 0), some (.ref 1), some (.int (nI cc)), some (.ref T), some (.int e), some (.int (nI (t + 1))), l6, l7, l8, l9, l10, l11, l12] [] hp Q) {l6 l7 l8 l9 l10 l11 l12 : Option Value} : WP L xs (d + 9) mL_law 616 [some (.ref 0), some (.ref 1), some (.int (nI cc)), some (.ref T), some (.int e), some (.int (nI t)), l6, l7, l8, l9, l10, l11, l12] [] hp Q := by
  refine wp_iinc (v := nI (t + 1)) dL_law_616 rfl (nI_1 _) ?_
  refine wp_goto (tgt := 77) dL_law_619 (by decide) ?_
  exact k7 hp M e _ _ _ _ _ _ _ hI
/-- behind each call -/
theorem w_lw_523 (hI : LI hp M T cc (t + 1) e) (ht : t < 48) (hc : c < cc) (hf : f < 12) (k7 : ∀ (hp : AH) (M : MS) (e : Int32) (l6 l7 l8 l9 l10 l11 l12 : Option Value), LI hp M T cc (t + 1) e → WP L xs (d + 9) mL_law 77 [some (.ref 0), some (.ref 1), some (.int (nI cc)), some (.ref T), some (.int e), some (.int (nI (t + 1))), l6, l7, l8, l9, l10, l11, l12] [] hp Q) {l10 l11 l12 : Option Value} : WP L xs (d + 9) mL_law 523 [some (.ref 0), some (.ref 1), some (.int (nI cc)), some (.ref T), some (.int (e)), some (.int (nI t)), some (.int X), some (.int (nI c)), some (.int (nI f)), some (.int tI), l10, l11, l12] [] hp Q := by
  obtain ⟨zB, tB, clk, K, D, ev, nh, nm, F, h, hc2, hclk, hK, hzB, htB, he, hT⟩ := id hI
  have hR := h.1.1
  obtain ⟨b1, b2, b3, b4, b5⟩ := h.1.2.2.1.1
  have hee : e = 0 → ev = false := fun z => by
    cases ev
    · rfl
    · rw [he] at z; exact absurd z (by decide)
  refine wp_aload_n (i := 1) dL_law_523 rfl rfl ?_
  refine wp_aload_n (i := 3) dL_law_524 rfl rfl ?_
  refine wp_iload dL_law_525 rfl ?_
  refine wp_callS (N := mL_areClientsRight) (as := [.ref 1, .ref T, .int e]) dL_law_527 l_L_60 v_L_areClientsRight rfl rfl (Nat.le_of_ble_eq_true rfl) (s_clientsRight h hT (by omega) hee) (fun v hp9 hq => ?_)
  obtain ⟨rfl, rfl⟩ := hq
  refine wp_if_ne (tgt := 535) dL_law_530 (by decide) (fun c530 => ?_) (fun c530 => ?_)
  · skip
    refine wp_iload dL_law_535 rfl ?_
    refine wp_bipush (v := nI 12) dL_law_537 (by decide) ?_
    refine wp_irem dL_law_539 (nI_ne0 (n := 12) (by decide) (by decide)) ?_
    rw [pk_rem (by omega) (by decide) (by decide)]
    refine wp_bipush (v := nI 11) dL_law_540 (by decide) ?_
    refine wp_icmp_eq (tgt := 548) dL_law_542 (by decide) (fun c542 => ?_) (fun c542 => ?_)
    · skip
      refine wp_aload_n (i := 1) dL_law_548 rfl rfl ?_
      refine wp_callV (N := mX5_digest) (as := []) dL_law_549 l_L_64 v_X5_digest rfl hR.top.1 rfl (Nat.le_of_ble_eq_true rfl) (s_digest h) (fun v hp9 hq => ?_)
      obtain ⟨rfl, rfl⟩ := hq
      refine wp_lstore dL_law_552 (Nat.le_of_ble_eq_true rfl) ?_
      refine wp_aload_n (i := 1) dL_law_554 rfl rfl ?_
      refine wp_bipush (v := nI 40) dL_law_555 (by decide) ?_
      refine wp_callV (N := mX5_calmIn) (as := [.int (nI 40)]) dL_law_557 l_L_68 v_X5_calmIn rfl hR.top.1 rfl (Nat.le_of_ble_eq_true rfl) (s_calmIn h (by decide) (by decide) (by omega)) (fun v hp9 hq => ?_)
      obtain ⟨M1, r1, rfl, hr1, h1, k1⟩ := hq
      have hR1 := h1.1.1
      refine wp_istore dL_law_560 (Nat.le_of_ble_eq_true rfl) ?_
      refine wp_aload_n (i := 1) dL_law_562 rfl rfl ?_
      refine wp_iload dL_law_563 rfl ?_
      refine wp_bipush (v := nI 10) dL_law_565 (by decide) ?_
      refine wp_callV (N := mX5_contentIn) (as := [.int (nI f), .int (nI 10)]) dL_law_567 l_L_71 v_X5_contentIn rfl hR1.top.1 rfl (Nat.le_of_ble_eq_true rfl) (s_contentIn h1 hf (by decide) (by decide) (by omega)) (fun v hp9 hq => ?_)
      obtain ⟨M2, r2, rfl, hr2, h2, k2⟩ := hq
      have hR2 := h2.1.1
      refine wp_if_lt (tgt := 614) dL_law_570 (by decide) (fun c570 => ?_) (fun c570 => ?_)
      · skip
        exact absurd c570 hr2
      · skip
        refine wp_aload_n (i := 1) dL_law_573 rfl rfl ?_
        refine wp_iload dL_law_574 rfl ?_
        refine wp_bipush (v := nI 20) dL_law_576 (by decide) ?_
        refine wp_callV (N := mX5_conflictsIn) (as := [.int (nI c), .int (nI 20)]) dL_law_578 l_L_74 v_X5_conflictsIn rfl hR2.top.1 rfl (Nat.le_of_ble_eq_true rfl) (s_conflictsIn h2 hc (by decide) (by decide) (by omega)) (fun v hp9 hq => ?_)
        obtain ⟨M3, r3, rfl, hr3, h3, k3⟩ := hq
        have hR3 := h3.1.1
        have kk := (k1.trans k2).trans k3
        refine wp_if_lt (tgt := 614) dL_law_581 (by decide) (fun c581 => ?_) (fun c581 => ?_)
        · skip
          exact absurd c581 hr3
        · skip
          refine wp_iload dL_law_584 rfl ?_
          refine wp_iconst (v := (-1)) dL_law_586 rfl ?_
          refine wp_icmp_lt (tgt := 614) dL_law_587 (by decide) (fun c587 => ?_) (fun c587 => ?_)
          · skip
            rcases hr1 with rfl | ⟨g, hg, rfl⟩
            · exact absurd c587 (by decide)
            · exact absurd (Int32.lt_trans c587 (show (-1 : Int32) < 0 by decide)) (nI_pos (by omega))
          · skip
            refine wp_iload dL_law_590 rfl ?_
            refine wp_bipush (v := nI 40) dL_law_592 (by decide) ?_
            refine wp_icmp_gt (tgt := 614) dL_law_594 (by decide) (fun c594 => ?_) (fun c594 => ?_)
            · skip
              rcases hr1 with rfl | ⟨g, hg, rfl⟩
              · exact absurd c594 (by decide)
              · exact absurd c594 (nI_nlt hg (by decide))
            · skip
              refine wp_aload_n (i := 1) dL_law_597 rfl rfl ?_
              refine wp_callS (N := mL_isWayRight) (as := [.ref 1]) dL_law_598 l_L_77 v_L_isWayRight rfl rfl (Nat.le_of_ble_eq_true rfl) (s_wayRight h3) (fun v hp9 hq => ?_)
              obtain ⟨rfl, rfl⟩ := hq
              refine wp_if_eq (tgt := 614) dL_law_601 (by decide) (fun c601 => ?_) (fun c601 => ?_)
              · skip
                exact absurd c601 (by decide)
              · skip
                refine wp_aload_n (i := 1) dL_law_604 rfl rfl ?_
                refine wp_callV (N := mX5_digest) (as := []) dL_law_605 l_L_64 v_X5_digest rfl hR3.top.1 rfl (Nat.le_of_ble_eq_true rfl) (s_digest h3) (fun v hp9 hq => ?_)
                obtain ⟨rfl, rfl⟩ := hq
                refine wp_lload dL_law_608 rfl ?_
                refine wp_lcmp dL_law_610 ?_
                refine wp_if_eq (tgt := 616) dL_law_611 (by decide) (fun c611 => ?_) (fun c611 => ?_)
                · skip
                  exact w_lw_616 ⟨zB, tB, clk, K, D, ev, nh, nm, F, h3, hc2, hclk, hK, hzB, htB, he, hT.k0 kk⟩ k7
                · skip
                  exact absurd (by rw [kk.dA]; exact lg_self _) c611
    · skip
      refine wp_goto (tgt := 616) dL_law_545 (by decide) ?_
      exact w_lw_616 hI k7
  · skip
    exact absurd c530 (by decide)
/-- the call that is drawn -/
theorem w_lw_160 (h : S0 hp M zB tB clk cc K D ev) (hc2 : 2 ≤ cc) (hclk : clk ≤ 6 * t) (hK : K ≤ t) (hzB : zB ≤ 1 + 12 * t) (htB : tB ≤ 4 + 144 * t) (he : e = (if ev then 1 else 0)) (hT : Tr M T cc t nh nm F) (ht : t < 48) (hc : c < cc) (hf : f < 12) (htI : tI = bI (tru M 0 c f (nI clk) (gV M 1 0 c 0 6))) (k7 : ∀ (hp : AH) (M : MS) (e : Int32) (l6 l7 l8 l9 l10 l11 l12 : Option Value), LI hp M T cc (t + 1) e → WP L xs (d + 9) mL_law 77 [some (.ref 0), some (.ref 1), some (.int (nI cc)), some (.ref T), some (.int e), some (.int (nI (t + 1))), l6, l7, l8, l9, l10, l11, l12] [] hp Q) {l10 l11 l12 : Option Value} : WP L xs (d + 9) mL_law 160 [some (.ref 0), some (.ref 1), some (.int (nI cc)), some (.ref T), some (.int (e)), some (.int (nI t)), some (.int X), some (.int (nI c)), some (.int (nI f)), some (.int tI), l10, l11, l12] [] hp Q := by
  have hR := h.1.1
  refine wp_iload dL_law_160 rfl ?_
  refine wp_bipush (v := nI 10) dL_law_162 (by decide) ?_
  refine wp_callS (N := mL_below) (as := [.int _, .int (nI 10)]) dL_law_164 l_L_18 v_L_below rfl rfl (Nat.le_of_ble_eq_true rfl) (s_below _ (n := 10) (by decide) (by decide)) (fun v hp9 hq => ?_)
  obtain ⟨rfl, rfl⟩ := hq
  have hb := bel_lt X (n := 10) (by decide)
  have key : ∀ b, b < 10 → WP L xs (d + 9) mL_law 167 [some (.ref 0), some (.ref 1), some (.int (nI cc)), some (.ref T), some (.int (e)), some (.int (nI t)), some (.int X), some (.int (nI c)), some (.int (nI f)), some (.int tI), l10, l11, l12] [.int (nI b)] hp9 Q := fun b hb => by
    rcases (show b = 0 ∨ b = 1 ∨ b = 2 ∨ b = 3 ∨ b = 4 ∨ b = 5 ∨ b = 6 ∨ b = 7 ∨ b = 8 ∨ b = 9 by omega) with rfl | rfl | rfl | rfl | rfl | rfl | rfl | rfl | rfl | rfl
    · refine wp_tabIn dL_law_167 (by decide) (by decide) (off := 45) (tgt := 212) (by decide) (by decide) ?_
      exact w_lw_212 h hc2 hclk hK hzB htB he hT ht hc hf htI (fun hp M e hI => w_lw_523 hI ht hc hf k7)
    · refine wp_tabIn dL_law_167 (by decide) (by decide) (off := 45) (tgt := 212) (by decide) (by decide) ?_
      exact w_lw_212 h hc2 hclk hK hzB htB he hT ht hc hf htI (fun hp M e hI => w_lw_523 hI ht hc hf k7)
    · refine wp_tabIn dL_law_167 (by decide) (by decide) (off := 45) (tgt := 212) (by decide) (by decide) ?_
      exact w_lw_212 h hc2 hclk hK hzB htB he hT ht hc hf htI (fun hp M e hI => w_lw_523 hI ht hc hf k7)
    · refine wp_tabIn dL_law_167 (by decide) (by decide) (off := 101) (tgt := 268) (by decide) (by decide) ?_
      exact w_lw_268 h hc2 hclk hK hzB htB he hT ht hc hf htI (fun hp M e hI => w_lw_523 hI ht hc hf k7)
    · refine wp_tabIn dL_law_167 (by decide) (by decide) (off := 101) (tgt := 268) (by decide) (by decide) ?_
      exact w_lw_268 h hc2 hclk hK hzB htB he hT ht hc hf htI (fun hp M e hI => w_lw_523 hI ht hc hf k7)
    · refine wp_tabIn dL_law_167 (by decide) (by decide) (off := 172) (tgt := 339) (by decide) (by decide) ?_
      exact w_lw_339 h hc2 hclk hK hzB htB he hT ht hc hf (fun hp M e hI => w_lw_523 hI ht hc hf k7)
    · refine wp_tabIn dL_law_167 (by decide) (by decide) (off := 257) (tgt := 424) (by decide) (by decide) ?_
      exact w_lw_424 h hc2 hclk hK hzB htB he hT ht hc hf (fun hp M e hI => w_lw_523 hI ht hc hf k7)
    · refine wp_tabIn dL_law_167 (by decide) (by decide) (off := 275) (tgt := 442) (by decide) (by decide) ?_
      exact w_lw_442 h hc2 hclk hK hzB htB he hT ht hc hf (fun hp M e hI => w_lw_523 hI ht hc hf k7)
    · refine wp_tabOut dL_law_167 (Or.inr (by decide)) (tgt := 502) (by decide) ?_
      exact w_lw_502 h hc2 hclk hK hzB htB he hT ht hc hf (fun hp M e hI => w_lw_523 hI ht hc hf k7)
    · refine wp_tabOut dL_law_167 (Or.inr (by decide)) (tgt := 502) (by decide) ?_
      exact w_lw_502 h hc2 hclk hK hzB htB he hT ht hc hf (fun hp M e hI => w_lw_523 hI ht hc hf k7)
  exact key _ hb
/-- the loop -/
theorem w_lw_77 (hL : L ≤ 260) : ∀ (m t : Nat), 48 - t = m → t ≤ 48 → ∀ (hp : AH) (M : MS) (e : Int32) (l6 l7 l8 l9 l10 l11 l12 : Option Value), LI hp M T cc t e → WP L xs (d + 9) mL_law 77 [some (.ref 0), some (.ref 1), some (.int (nI cc)), some (.ref T), some (.int e), some (.int (nI t)), l6, l7, l8, l9, l10, l11, l12] [] hp (fun v hp' => v = some (.int 1) ∧ hsz hp' ≤ 600130 ∧ htot hp' ≤ 7301080) := by
  intro m
  induction m using Nat.strongRecOn with
  | ind m ih =>
    intro t hm ht0 hp M e l6 l7 l8 l9 l10 l11 l12 hI
    obtain ⟨zB, tB, clk, K, D, ev, nh, nm, F, h, hc2, hclk, hK, hzB, htB, he, hT⟩ := id hI
    have hR := h.1.1
    obtain ⟨b1, b2, b3, b4, b5⟩ := h.1.2.2.1.1
    subst hm
    refine wp_iload dL_law_77 rfl ?_
    refine wp_bipush (v := nI 48) dL_law_79 (by decide) ?_
    refine wp_icmp_ge (tgt := 622) dL_law_81 (by decide) (fun c81 => ?_) (fun c81 => ?_)
    · skip
      refine wp_iconst (v := 1) dL_law_622 rfl ?_
      refine wp_ret (v := some (.int _)) dL_law_623 rfl ?_
      have hz := hR.2.1
      have hy := hR.2.2.1
      obtain ⟨x1, x2⟩ := h.1.2.1.bound
      exact ⟨rfl, by omega, by omega⟩
    · skip
      have ht : t < 48 := (nI_ltI (by omega) (by decide)).mp c81
      refine wp_aload_n (i := 0) dL_law_84 rfl rfl ?_
      refine wp_iconst (v := 2) dL_law_85 rfl ?_
      refine wp_iload dL_law_86 rfl ?_
      refine wp_bipush (v := nI 28) dL_law_88 (by decide) ?_
      refine wp_irem dL_law_90 (nI_ne0 (n := 28) (by decide) (by decide)) ?_
      rw [pk_rem (by omega) (by decide) (by decide)]
      refine wp_iadd dL_law_91 ?_
      rw [show (2 : Int32) + nI (t % 28) = nI (2 + t % 28) from nI_add 2 _]
      refine wp_callS (N := mL_cell) (as := [.ref 0, .int (nI (2 + t % 28))]) dL_law_92 l_L_12 v_L_cell rfl rfl (Nat.le_of_ble_eq_true rfl) (s_cell (by omega) hL) (fun v hp9 hq => ?_)
      obtain ⟨rfl, rfl⟩ := hq
      refine wp_iload dL_law_95 rfl ?_
      refine wp_bipush (v := nI 28) dL_law_97 (by decide) ?_
      refine wp_idiv dL_law_99 (nI_ne0 (n := 28) (by decide) (by decide)) ?_
      refine wp_bipush (v := nI 9) dL_law_100 (by decide) ?_
      refine wp_imul dL_law_102 ?_
      refine wp_ishr dL_law_103 ?_
      generalize cel L xs (2 + t % 28) >>> (nI t / nI 28 * nI 9 &&& 31) = X
      refine wp_istore dL_law_104 (Nat.le_of_ble_eq_true rfl) ?_
      refine wp_iload dL_law_106 rfl ?_
      refine wp_iconst (v := 3) dL_law_108 rfl ?_
      refine wp_ishr dL_law_109 ?_
      refine wp_iload_n (i := 2) dL_law_110 rfl rfl ?_
      refine wp_callS (N := mL_below) (as := [.int _, .int (nI cc)]) dL_law_111 l_L_18 v_L_below rfl rfl (Nat.le_of_ble_eq_true rfl) (s_below _ (n := cc) (by omega) (by omega)) (fun v hp9 hq => ?_)
      obtain ⟨rfl, rfl⟩ := hq
      have hc := bel_lt (X >>> (3 &&& 31)) (n := cc) (by omega)
      revert hc
      generalize bel (X >>> (3 &&& 31)) cc = c
      intro hc
      refine wp_istore dL_law_114 (Nat.le_of_ble_eq_true rfl) ?_
      refine wp_iload dL_law_116 rfl ?_
      refine wp_iconst (v := 5) dL_law_118 rfl ?_
      refine wp_ishr dL_law_119 ?_
      refine wp_iload dL_law_120 rfl ?_
      refine wp_iconst (v := 4) dL_law_122 rfl ?_
      refine wp_callS (N := mL_below) (as := [.int _, .int (nI 4)]) dL_law_123 l_L_18 v_L_below rfl rfl (Nat.le_of_ble_eq_true rfl) (s_below _ (n := 4) (by decide) (by decide)) (fun v hp9 hq => ?_)
      obtain ⟨rfl, rfl⟩ := hq
      refine wp_if_ne (tgt := 134) dL_law_126 (by decide) (fun c126 => ?_) (fun c126 => ?_)
      · skip
        refine wp_iconst (v := 3) dL_law_134 rfl ?_
        refine wp_callS (N := mL_below) (as := [.int _, .int (nI 3)]) dL_law_135 l_L_18 v_L_below rfl rfl (Nat.le_of_ble_eq_true rfl) (s_below _ (n := 3) (by decide) (by decide)) (fun v hp9 hq => ?_)
        obtain ⟨rfl, rfl⟩ := hq
        have hf0 := bel_lt (X >>> (5 &&& 31)) (n := 3) (by decide)
        revert hf0
        generalize bel (X >>> (5 &&& 31)) 3 = f
        intro hf0
        have hf : f < 12 := by omega
        refine wp_istore dL_law_138 (Nat.le_of_ble_eq_true rfl) ?_
        refine wp_aload_n (i := 1) dL_law_140 rfl rfl ?_
        refine wp_iload dL_law_141 rfl ?_
        refine wp_iload dL_law_143 rfl ?_
        refine wp_iconst (v := 4) dL_law_145 rfl ?_
        refine wp_callV (N := mX5_has) (as := [.int (nI c), .int (nI f), .int (nI 4)]) dL_law_146 l_L_25 v_X5_has rfl hR.top.1 rfl (Nat.le_of_ble_eq_true rfl) (s_has h hc hf (p := 4) (by decide)) (fun v hp9 hq => ?_)
        obtain ⟨rfl, rfl⟩ := hq
        refine wp_iconst (v := 1) dL_law_149 rfl ?_
        refine wp_icmp_ne (tgt := 157) dL_law_150 (by decide) (fun c150 => ?_) (fun c150 => ?_)
        · skip
          refine wp_iconst (v := 0) dL_law_157 rfl ?_
          refine wp_istore dL_law_158 (Nat.le_of_ble_eq_true rfl) ?_
          exact w_lw_160 h hc2 hclk hK hzB htB he hT ht hc hf (by exact (bI_f (fun z => c150 (hT4_1.mpr z))).symm) (fun hp M e l6 l7 l8 l9 l10 l11 l12 hI => ih (48 - (t + 1)) (by omega) (t + 1) rfl (by omega) hp M e l6 l7 l8 l9 l10 l11 l12 hI)
        · skip
          refine wp_iconst (v := 1) dL_law_153 rfl ?_
          refine wp_goto (tgt := 158) dL_law_154 (by decide) ?_
          refine wp_istore dL_law_158 (Nat.le_of_ble_eq_true rfl) ?_
          exact w_lw_160 h hc2 hclk hK hzB htB he hT ht hc hf (by exact (bI_t (hT4_1.mp (by first | exact c150 | exact Classical.not_not.mp c150))).symm) (fun hp M e l6 l7 l8 l9 l10 l11 l12 hI => ih (48 - (t + 1)) (by omega) (t + 1) rfl (by omega) hp M e l6 l7 l8 l9 l10 l11 l12 hI)
      · skip
        refine wp_bipush (v := nI 12) dL_law_129 (by decide) ?_
        refine wp_goto (tgt := 135) dL_law_131 (by decide) ?_
        refine wp_callS (N := mL_below) (as := [.int _, .int (nI 12)]) dL_law_135 l_L_18 v_L_below rfl rfl (Nat.le_of_ble_eq_true rfl) (s_below _ (n := 12) (by decide) (by decide)) (fun v hp9 hq => ?_)
        obtain ⟨rfl, rfl⟩ := hq
        have hf0 := bel_lt (X >>> (5 &&& 31)) (n := 12) (by decide)
        revert hf0
        generalize bel (X >>> (5 &&& 31)) 12 = f
        intro hf0
        have hf : f < 12 := by omega
        refine wp_istore dL_law_138 (Nat.le_of_ble_eq_true rfl) ?_
        refine wp_aload_n (i := 1) dL_law_140 rfl rfl ?_
        refine wp_iload dL_law_141 rfl ?_
        refine wp_iload dL_law_143 rfl ?_
        refine wp_iconst (v := 4) dL_law_145 rfl ?_
        refine wp_callV (N := mX5_has) (as := [.int (nI c), .int (nI f), .int (nI 4)]) dL_law_146 l_L_25 v_X5_has rfl hR.top.1 rfl (Nat.le_of_ble_eq_true rfl) (s_has h hc hf (p := 4) (by decide)) (fun v hp9 hq => ?_)
        obtain ⟨rfl, rfl⟩ := hq
        refine wp_iconst (v := 1) dL_law_149 rfl ?_
        refine wp_icmp_ne (tgt := 157) dL_law_150 (by decide) (fun c150 => ?_) (fun c150 => ?_)
        · skip
          refine wp_iconst (v := 0) dL_law_157 rfl ?_
          refine wp_istore dL_law_158 (Nat.le_of_ble_eq_true rfl) ?_
          exact w_lw_160 h hc2 hclk hK hzB htB he hT ht hc hf (by exact (bI_f (fun z => c150 (hT4_1.mpr z))).symm) (fun hp M e l6 l7 l8 l9 l10 l11 l12 hI => ih (48 - (t + 1)) (by omega) (t + 1) rfl (by omega) hp M e l6 l7 l8 l9 l10 l11 l12 hI)
        · skip
          refine wp_iconst (v := 1) dL_law_153 rfl ?_
          refine wp_goto (tgt := 158) dL_law_154 (by decide) ?_
          refine wp_istore dL_law_158 (Nat.le_of_ble_eq_true rfl) ?_
          exact w_lw_160 h hc2 hclk hK hzB htB he hT ht hc hf (by exact (bI_t (hT4_1.mp (by first | exact c150 | exact Classical.not_not.mp c150))).symm) (fun hp M e l6 l7 l8 l9 l10 l11 l12 hI => ih (48 - (t + 1)) (by omega) (t + 1) rfl (by omega) hp M e l6 l7 l8 l9 l10 l11 l12 hI)
end LAW5
