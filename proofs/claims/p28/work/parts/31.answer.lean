/-! ===== Net: requests are answered ===== -/
section SERVER2
variable {L : Nat} {xs : Nat → Int32} {d : Nat} {hp : AH} {M : MS} {zB tB n clk cc K : Nat} {D : Nat → Nat} {ev : Bool} {r j s : Nat} {e : Nat → Nat} {c f p : Nat}
theorem MU_sv (M : MS) {M' : MS} {n clk : Nat} (h : MR M M' n clk) (hT : ∀ a, gT M' 1 n a = gT M 1 n a) : MU M M' n clk := ⟨h, hT⟩
theorem rows_RQ (M : MS) (n : Nat) (hf : f < 12) : (gT M 1 n f).length ≤ RQ M n := sN_get (f := fun f => (gT M 1 n f).length) hf
/-- a request is answered -/
theorem s_answer (h : ST hp M zB tB n clk cc K D ev r p 0 (fun _ => 0)) (hn : n < 2) (hf : f < 12) (hp0 : p < (gT M 1 n f).length) : WM L xs (d + 3) mX2_answer [.ref (xi 0 n 0 0), .int (nI f), .int (nI p)] hp (fun v hp' => v = none ∧ ∃ M', ST hp' M' zB tB n clk cc K D ev r (p + 1) 0 (fun _ => 1) ∧ MU M M' n clk) := by
  have hrows := rows_RQ M n hf
  have hj : p ≤ RQ M n := by omega
  have hj1 : p + 1 ≤ RQ M n := by omega
  obtain ⟨b1, b2, b3, b4, b5⟩ := h.2.2.1.1
  obtain ⟨q0, hqm, hqc⟩ := gC_row hp0
  have hQ0 := (h.sj hf).2.2 q0 hqm
  unfold QJ at hQ0
  rw [← hqc 0, ← hqc 1, ← hqc 2] at hQ0
  obtain ⟨⟨c, hc, hq0⟩, hQ⟩ := hQ0
  have hc4 : c < 4 := by omega
  refine WM.of [some (.ref _), some (.int (nI f)), some (.int (nI p)), none, none, none] (by decide) rfl (Nat.le_of_ble_eq_true rfl) ?_
  refine wp_aload_n (i := 0) dX2_answer_0 rfl rfl ?_
  refine wr_netR (j := rS n) dX2_answer_1 h.1 f_X2_29 hn (Or.inr (Or.inl ⟨rfl, rfl⟩)) ?_
  refine wp_iload_n (i := 1) dX2_answer_4 rfl rfl ?_
  refine wr_aS (f := f) dX2_answer_5 h.1 rfl hn hf ?_
  refine wp_astore_n (i := 3) dX2_answer_6 rfl (Nat.le_of_ble_eq_true rfl) ?_
  refine wp_aload_n (i := 3) dX2_answer_7 rfl rfl ?_
  refine wr_sheR (j := xt 1 n f) dX2_answer_8 h.1 f_X2_179 hn hf (Or.inr ⟨rfl, rfl⟩) ?_
  refine wp_iload_n (i := 2) dX2_answer_11 rfl rfl ?_
  refine wp_iconst (v := 0) dX2_answer_12 rfl ?_
  refine wp_callV (N := mX4_get) dX2_answer_13 l_X2_69 v_X4_get rfl (h.1.oT (vt1 hn hf)) rfl (by decide) (s_get h.1 (vt1 hn hf) hp0 (c := 0) (by decide)) (fun v hp9 hq => ?_)
  obtain ⟨rfl, rfl⟩ := hq
  rw [hq0]
  refine wp_istore dX2_answer_16 (Nat.le_of_ble_eq_true rfl) ?_
  refine wp_aload_n (i := 0) dX2_answer_18 rfl rfl ?_
  refine wp_iload dX2_answer_19 rfl ?_
  refine wp_callV (N := mX2_isClient) dX2_answer_21 l_X2_147 v_X2_isClient rfl (h.1.oo (vs0 hn (k := 0) (by decide)) (by decide)) rfl (by decide) (s_isClient h.1 hn b4 hc b2) (fun v hp9 hq => ?_)
  obtain ⟨rfl, rfl⟩ := hq
  refine wp_if_ne (tgt := 28) dX2_answer_24 (by decide) (fun c24 => ?_) (fun c24 => ?_)
  · skip
    refine wp_aload_n (i := 3) dX2_answer_28 rfl rfl ?_
    refine wr_sheR (j := xt 1 n f) dX2_answer_29 h.1 f_X2_179 hn hf (Or.inr ⟨rfl, rfl⟩) ?_
    refine wp_iload_n (i := 2) dX2_answer_32 rfl rfl ?_
    refine wp_iconst (v := 1) dX2_answer_33 rfl ?_
    refine wp_callV (N := mX4_get) dX2_answer_34 l_X2_69 v_X4_get rfl (h.1.oT (vt1 hn hf)) rfl (by decide) (s_get h.1 (vt1 hn hf) hp0 (c := 1) (by decide)) (fun v hp9 hq => ?_)
    obtain ⟨rfl, rfl⟩ := hq
    refine wp_if_ne (tgt := 44) dX2_answer_37 (by decide) (fun c37 => ?_) (fun c37 => ?_)
    · skip
      refine wp_iconst (v := 0) dX2_answer_44 rfl ?_
      refine wp_istore dX2_answer_45 (Nat.le_of_ble_eq_true rfl) ?_
      refine wp_iload dX2_answer_47 rfl ?_
      refine wp_if_ne (tgt := 86) dX2_answer_49 (by decide) (fun c49 => ?_) (fun c49 => ?_)
      · skip
        exact absurd rfl c49
      · skip
        refine wp_aload_n (i := 3) dX2_answer_52 rfl rfl ?_
        refine wr_sheR (j := xt 1 n f) dX2_answer_53 h.1 f_X2_179 hn hf (Or.inr ⟨rfl, rfl⟩) ?_
        refine wp_iload_n (i := 2) dX2_answer_56 rfl rfl ?_
        refine wp_iconst (v := 3) dX2_answer_57 rfl ?_
        refine wp_callV (N := mX4_get) dX2_answer_58 l_X2_69 v_X4_get rfl (h.1.oT (vt1 hn hf)) rfl (by decide) (s_get h.1 (vt1 hn hf) hp0 (c := 3) (by decide)) (fun v hp9 hq => ?_)
        obtain ⟨rfl, rfl⟩ := hq
        refine wp_aload_n (i := 3) dX2_answer_61 rfl rfl ?_
        refine wr_get (g := 4) (n := n) (a := f) (b := 0) (k := 1) dX2_answer_62 h.1 f_X2_202 (vs4 hn hf (by decide)) (by decide) (by decide) ?_
        refine wp_icmp_eq (tgt := 86) dX2_answer_65 (by decide) (fun c65 => ?_) (fun c65 => ?_)
        · skip
          refine wp_iload dX2_answer_86 rfl ?_
          refine wp_if_ne (tgt := 114) dX2_answer_88 (by decide) (fun c88 => ?_) (fun c88 => ?_)
          · skip
            exact absurd rfl c88
          · skip
            refine wp_aload_n (i := 3) dX2_answer_91 rfl rfl ?_
            refine wp_aload_n (i := 3) dX2_answer_92 rfl rfl ?_
            refine wr_sheR (j := xt 1 n f) dX2_answer_93 h.1 f_X2_179 hn hf (Or.inr ⟨rfl, rfl⟩) ?_
            refine wp_iload_n (i := 2) dX2_answer_96 rfl rfl ?_
            refine wp_iconst (v := 2) dX2_answer_97 rfl ?_
            refine wp_callV (N := mX4_get) dX2_answer_98 l_X2_69 v_X4_get rfl (h.1.oT (vt1 hn hf)) rfl (Nat.le_of_ble_eq_true rfl) (s_get h.1 (vt1 hn hf) hp0 (c := 2) (by decide)) (fun v hp9 hq => ?_)
            obtain ⟨rfl, rfl⟩ := hq
            refine wr_put (g := 4) (n := n) (a := f) (b := 0) (k := 0) dX2_answer_101 h.1 (p_X2_203 rfl) (vs4 hn hf (by decide)) (by decide) (by decide) (okI rfl) (fun hp2 hR1 => ?_)
            refine wp_aload_n (i := 3) dX2_answer_104 rfl rfl ?_
            refine wp_dup dX2_answer_105 rfl ?_
            refine wr_get (g := 4) (n := n) (a := f) (b := 0) (k := 1) dX2_answer_106 hR1 f_X2_202 (vs4 hn hf (by decide)) (by decide) (by decide) ?_
            refine wp_iconst (v := 1) dX2_answer_109 rfl ?_
            refine wp_iadd dX2_answer_110 ?_
            refine wr_put (g := 4) (n := n) (a := f) (b := 0) (k := 1) dX2_answer_111 hR1 (p_X2_202 rfl) (vs4 hn hf (by decide)) (by decide) (by decide) (okI rfl) (fun hp4 hR3 => ?_)
            obtain ⟨hSv, hMv⟩ := h.stored (e' := fun _ => 1) hj hf hQ.2 rfl hR3 (fun _ _ => by show 1 ≤ 0 + 1; decide)
            refine wp_aload_n (i := 3) dX2_answer_114 rfl rfl ?_
            refine wr_sheR (j := xi 5 n f 0) dX2_answer_115 hR3 f_X2_161 hn hf (Or.inl ⟨rfl, rfl⟩) ?_
            refine wp_iload dX2_answer_118 rfl ?_
            refine wp_aload_n (i := 0) dX2_answer_120 rfl rfl ?_
            refine wr_get (g := 0) (n := n) (a := 0) (b := 0) (k := 0) dX2_answer_121 hR3 f_X2_62 (vs0 hn (by decide)) (by decide) (by decide) ?_
            refine wp_aload_n (i := 0) dX2_answer_124 rfl rfl ?_
            refine wr_get (g := 0) (n := n) (a := 0) (b := 0) (k := 1) dX2_answer_125 hR3 f_X2_9 (vs0 hn (by decide)) (by decide) (by decide) ?_
            refine wp_iadd dX2_answer_128 ?_
            refine wr_untP (k := c) dX2_answer_129 hR3 rfl (vs5 hn hf hc4) (fun hp6 hR5 => ?_)
            refine wp_aload_n (i := 0) dX2_answer_130 rfl rfl ?_
            refine wp_iload dX2_answer_131 rfl ?_
            refine wp_if_eq (tgt := 140) dX2_answer_133 (by decide) (fun c133 => ?_) (fun c133 => ?_)
            · skip
              refine wp_iconst (v := 4) dX2_answer_140 rfl ?_
              refine wp_iload dX2_answer_141 rfl ?_
              refine wp_iload_n (i := 1) dX2_answer_143 rfl rfl ?_
              refine wp_aload_n (i := 3) dX2_answer_144 rfl rfl ?_
              refine wr_get (g := 4) (n := n) (a := f) (b := 0) (k := 0) dX2_answer_145 hR5 f_X2_203 (vs4 hn hf (by decide)) (by decide) (by decide) ?_
              refine wp_aload_n (i := 3) dX2_answer_148 rfl rfl ?_
              refine wr_get (g := 4) (n := n) (a := f) (b := 0) (k := 1) dX2_answer_149 hR5 f_X2_202 (vs4 hn hf (by decide)) (by decide) (by decide) ?_
              refine wp_aload_n (i := 0) dX2_answer_152 rfl rfl ?_
              refine wr_get (g := 0) (n := n) (a := 0) (b := 0) (k := 0) dX2_answer_153 hR5 f_X2_62 (vs0 hn (by decide)) (by decide) (by decide) ?_
              refine wp_aload_n (i := 0) dX2_answer_156 rfl rfl ?_
              refine wr_get (g := 0) (n := n) (a := 0) (b := 0) (k := 1) dX2_answer_157 hR5 f_X2_9 (vs0 hn (by decide)) (by decide) (by decide) ?_
              refine wp_iadd dX2_answer_160 ?_
              obtain ⟨hS1, hM1⟩ := hSv.lease hR5
              refine wp_callV (N := mX2_send) (as := [.int (nI 4), .int (nI c), .int (nI f), .int _, .int _, .int _]) dX2_answer_161 l_X2_101 v_X2_send rfl (hR5.oo (vs0 hn (k := 0) (by decide)) (by decide)) rfl (by decide) (s_sendT hS1 hn (by exact hj1) hc hf (by decide) (by decide) _ (hS1.sj hf).1 ⟨(hS1.sj hf).2.1, Nat.le_refl _⟩) (fun v hp8 hq => ?_)
              obtain ⟨rfl, k, q, hk, hS2⟩ := hq
              refine wp_ret (v := none) dX2_answer_164 rfl ?_
              exact ⟨trivial, rfl, _, hS2, ((MU_sv M hMv (fun _ => rfl)).trans (MU_sv _ hM1 (fun _ => rfl))).trans (MU_snd _ hk q)⟩
            · skip
              exact absurd rfl c133
        · skip
          refine wp_aload_n (i := 0) dX2_answer_68 rfl rfl ?_
          refine wp_iconst (v := 5) dX2_answer_69 rfl ?_
          refine wp_iload dX2_answer_70 rfl ?_
          refine wp_iload_n (i := 1) dX2_answer_72 rfl rfl ?_
          refine wp_aload_n (i := 3) dX2_answer_73 rfl rfl ?_
          refine wr_get (g := 4) (n := n) (a := f) (b := 0) (k := 0) dX2_answer_74 h.1 f_X2_203 (vs4 hn hf (by decide)) (by decide) (by decide) ?_
          refine wp_aload_n (i := 3) dX2_answer_77 rfl rfl ?_
          refine wr_get (g := 4) (n := n) (a := f) (b := 0) (k := 1) dX2_answer_78 h.1 f_X2_202 (vs4 hn hf (by decide)) (by decide) (by decide) ?_
          refine wp_iconst (v := (-1)) dX2_answer_81 rfl ?_
          have hS0 := h.weak (j' := p + 1) (s' := 0 + 1) (e' := fun _ => 1) (by omega) (by omega) (fun _ _ => by show 1 + p ≤ 0 + (p + 1); omega)
          refine wp_callV (N := mX2_send) (as := [.int (nI 5), .int (nI c), .int (nI f), .int (gV M 4 n f 0 0), .int (gV M 4 n f 0 1), .int (-1)]) dX2_answer_82 l_X2_101 v_X2_send rfl (h.1.oo (vs0 hn (k := 0) (by decide)) (by decide)) rfl (by decide) (s_sendT hS0 hn hj1 hc hf (by decide) (by decide) (-1) (hS0.sj hf).1 ⟨(hS0.sj hf).2.1, Nat.le_refl _⟩) (fun v hp8 hq => ?_)
          obtain ⟨rfl, k, q, hk, hS2⟩ := hq
          refine wp_ret (v := none) dX2_answer_85 rfl ?_
          exact ⟨trivial, rfl, _, hS2, MU_snd _ hk q⟩
    · skip
      refine wp_iconst (v := 1) dX2_answer_40 rfl ?_
      refine wp_goto (tgt := 45) dX2_answer_41 (by decide) ?_
      refine wp_istore dX2_answer_45 (Nat.le_of_ble_eq_true rfl) ?_
      refine wp_iload dX2_answer_47 rfl ?_
      refine wp_if_ne (tgt := 86) dX2_answer_49 (by decide) (fun c49 => ?_) (fun c49 => ?_)
      · skip
        refine wp_iload dX2_answer_86 rfl ?_
        refine wp_if_ne (tgt := 114) dX2_answer_88 (by decide) (fun c88 => ?_) (fun c88 => ?_)
        · skip
          refine wp_aload_n (i := 3) dX2_answer_114 rfl rfl ?_
          refine wr_sheR (j := xi 5 n f 0) dX2_answer_115 h.1 f_X2_161 hn hf (Or.inl ⟨rfl, rfl⟩) ?_
          refine wp_iload dX2_answer_118 rfl ?_
          refine wp_aload_n (i := 0) dX2_answer_120 rfl rfl ?_
          refine wr_get (g := 0) (n := n) (a := 0) (b := 0) (k := 0) dX2_answer_121 h.1 f_X2_62 (vs0 hn (by decide)) (by decide) (by decide) ?_
          refine wp_aload_n (i := 0) dX2_answer_124 rfl rfl ?_
          refine wr_get (g := 0) (n := n) (a := 0) (b := 0) (k := 1) dX2_answer_125 h.1 f_X2_9 (vs0 hn (by decide)) (by decide) (by decide) ?_
          refine wp_iadd dX2_answer_128 ?_
          refine wr_untP (k := c) dX2_answer_129 h.1 rfl (vs5 hn hf hc4) (fun hp8 hR7 => ?_)
          refine wp_aload_n (i := 0) dX2_answer_130 rfl rfl ?_
          refine wp_iload dX2_answer_131 rfl ?_
          refine wp_if_eq (tgt := 140) dX2_answer_133 (by decide) (fun c133 => ?_) (fun c133 => ?_)
          · skip
            exact absurd c133 (by decide)
          · skip
            refine wp_iconst (v := 3) dX2_answer_136 rfl ?_
            refine wp_goto (tgt := 141) dX2_answer_137 (by decide) ?_
            refine wp_iload dX2_answer_141 rfl ?_
            refine wp_iload_n (i := 1) dX2_answer_143 rfl rfl ?_
            refine wp_aload_n (i := 3) dX2_answer_144 rfl rfl ?_
            refine wr_get (g := 4) (n := n) (a := f) (b := 0) (k := 0) dX2_answer_145 hR7 f_X2_203 (vs4 hn hf (by decide)) (by decide) (by decide) ?_
            refine wp_aload_n (i := 3) dX2_answer_148 rfl rfl ?_
            refine wr_get (g := 4) (n := n) (a := f) (b := 0) (k := 1) dX2_answer_149 hR7 f_X2_202 (vs4 hn hf (by decide)) (by decide) (by decide) ?_
            refine wp_aload_n (i := 0) dX2_answer_152 rfl rfl ?_
            refine wr_get (g := 0) (n := n) (a := 0) (b := 0) (k := 0) dX2_answer_153 hR7 f_X2_62 (vs0 hn (by decide)) (by decide) (by decide) ?_
            refine wp_aload_n (i := 0) dX2_answer_156 rfl rfl ?_
            refine wr_get (g := 0) (n := n) (a := 0) (b := 0) (k := 1) dX2_answer_157 hR7 f_X2_9 (vs0 hn (by decide)) (by decide) (by decide) ?_
            refine wp_iadd dX2_answer_160 ?_
            have hS0 := h.weak (j' := p + 1) (s' := 0 + 1) (e' := fun _ => 1) (by omega) (by omega) (fun _ _ => by show 1 + p ≤ 0 + (p + 1); omega)
            obtain ⟨hS1, hM1⟩ := hS0.lease hR7
            refine wp_callV (N := mX2_send) (as := [.int (nI 3), .int (nI c), .int (nI f), .int _, .int _, .int _]) dX2_answer_161 l_X2_101 v_X2_send rfl (hR7.oo (vs0 hn (k := 0) (by decide)) (by decide)) rfl (by decide) (s_sendT hS1 hn (by exact hj1) hc hf (by decide) (by decide) _ (hS1.sj hf).1 ⟨(hS1.sj hf).2.1, Nat.le_refl _⟩) (fun v hp8 hq => ?_)
            obtain ⟨rfl, k, q, hk, hS2⟩ := hq
            refine wp_ret (v := none) dX2_answer_164 rfl ?_
            exact ⟨trivial, rfl, _, hS2, (MU_sv M hM1 (fun _ => rfl)).trans (MU_snd _ hk q)⟩
        · skip
          exact absurd c88 (by decide)
      · skip
        exact absurd c49 (by decide)
  · skip
    exact absurd c24 (by decide)
theorem w_look_18 (hn : n < 2) (hf : f < 12) {M0 : MS} {w : Nat} (hw2 : w ≤ 1248) : ∀ (m p : Nat), w - p = m → p ≤ w → ∀ (hp : AH) (M : MS), ST hp M zB tB n clk cc K D ev r p 0 (fun _ => 0) → (gT M 1 n f).length = w → MR M0 M n clk → WP L xs (d + 4) mX2_lookAtFirst 18 [some (.ref (xi 0 n 0 0)), some (.int (nI f)), some (.ref (xi 4 n f 0)), some (.int (nI w)), some (.int (nI p))] [] hp (fun v hp' => retOk mX2_lookAtFirst.2.2.2 v ∧ v = none ∧ ∃ M', ST hp' M' zB tB n clk cc K D ev r 0 0 (fun _ => 0) ∧ MR M0 M' n clk) := by
  intro m
  induction m using Nat.strongRecOn with
  | ind m ih =>
    intro p hm hp0 hp M h hw hM
    subst hm
    refine wp_iload dX2_lookAtFirst_18 rfl ?_
    refine wp_iload_n (i := 3) dX2_lookAtFirst_20 rfl rfl ?_
    refine wp_icmp_ge (tgt := 65) dX2_lookAtFirst_21 (by decide) (fun c21 => ?_) (fun c21 => ?_)
    · skip
      refine wp_aload_n (i := 2) dX2_lookAtFirst_65 rfl rfl ?_
      refine wr_sheR (j := xt 1 n f) dX2_lookAtFirst_66 h.1 f_X2_179 hn hf (Or.inr ⟨rfl, rfl⟩) ?_
      refine wp_iload dX2_lookAtFirst_69 rfl ?_
      refine wp_callV (N := mX4_dropFirst) (as := [.int (nI p)]) dX2_lookAtFirst_71 l_X2_196 v_X4_dropFirst rfl (h.1.oT (vt1 hn hf)) rfl (by decide) (s_dropFirst h.1 (vt1 hn hf) (m := p) (by omega)) (fun v hp6 hq => ?_)
      obtain ⟨rfl, hR6⟩ := hq
      obtain ⟨hS6, hM6⟩ := h.drop hn hf (by omega) hR6
      have hT6 := (hM).trans hM6
      refine wp_ret (v := none) dX2_lookAtFirst_74 rfl ?_
      exact ⟨trivial, rfl, _, hS6, hT6⟩
    · skip
      refine wp_aload_n (i := 0) dX2_lookAtFirst_24 rfl rfl ?_
      refine wp_iload_n (i := 1) dX2_lookAtFirst_25 rfl rfl ?_
      refine wp_iload dX2_lookAtFirst_26 rfl ?_
      have hpw : p < w := (nI_ltI (by omega) (by omega)).mp c21
      have hrows := rows_RQ M n hf
      refine wp_callV (N := mX2_callOthers) dX2_lookAtFirst_28 l_X2_183 v_X2_callOthers rfl (h.1.oo (vs0 hn (k := 0) (by decide)) (by decide)) rfl (by decide) (s_callOthers h hn (by omega) hf (by omega)) (fun v hp9 hq => ?_)
      obtain ⟨rfl, M1, hS1, hM1⟩ := hq
      refine wp_aload_n (i := 2) dX2_lookAtFirst_31 rfl rfl ?_
      refine wp_iload dX2_lookAtFirst_32 rfl ?_
      refine wp_aload_n (i := 0) dX2_lookAtFirst_34 rfl rfl ?_
      refine wr_get (g := 0) (n := n) (a := 0) (b := 0) (k := 0) dX2_lookAtFirst_35 hS1.1 f_X2_62 (vs0 hn (by decide)) (by decide) (by decide) ?_
      refine wp_callV (N := mX3_hasToWait) dX2_lookAtFirst_38 l_X2_186 v_X3_hasToWait rfl (hS1.1.oo (vs4 hn hf (k := 0) (by decide)) (by decide)) rfl (by decide) (s_hasToWait hS1.1 hn hf (by rw [hM1.2]; omega) _) (fun v hp8 hq => ?_)
      obtain ⟨rfl, hv9⟩ := hq
      obtain ⟨vv, rfl⟩ : ∃ vv, v = some (.int vv) := by rcases hv9 with ⟨_, h9⟩ | ⟨_, h9⟩ <;> exact ⟨_, h9⟩
      refine wp_if_eq (tgt := 47) dX2_lookAtFirst_41 (by decide) (fun c41 => ?_) (fun c41 => ?_)
      · skip
        refine wp_aload_n (i := 0) dX2_lookAtFirst_47 rfl rfl ?_
        refine wp_iload_n (i := 1) dX2_lookAtFirst_48 rfl rfl ?_
        refine wp_iload dX2_lookAtFirst_49 rfl ?_
        refine wp_callV (N := mX2_answer) dX2_lookAtFirst_51 l_X2_190 v_X2_answer rfl (hS1.1.oo (vs0 hn (k := 0) (by decide)) (by decide)) rfl (by decide) (s_answer hS1 hn hf (by rw [hM1.2]; omega)) (fun v hp7 hq => ?_)
        obtain ⟨rfl, M2, hS2, hM2⟩ := hq
        refine wp_aload_n (i := 2) dX2_lookAtFirst_54 rfl rfl ?_
        refine wp_iconst (v := 0) dX2_lookAtFirst_55 rfl ?_
        refine wr_put (g := 4) (n := n) (a := f) (b := 0) (k := 4) dX2_lookAtFirst_56 hS2.1 (p_X2_193 rfl) (vs4 hn hf (by decide)) (by decide) (by decide) (okB rfl (by decide)) (fun hp2 hR1 => ?_)
        refine wp_iinc (v := nI (p + 1)) dX2_lookAtFirst_59 rfl (nI_1 _) ?_
        refine wp_goto (tgt := 18) dX2_lookAtFirst_62 (by decide) ?_
        obtain ⟨hS3, hM3⟩ := hS2.seen (e' := fun _ => 0) hf (fun _ _ => by have := bz_le (gV M2 4 n f 0 4); show 0 + _ ≤ 1 + bz 0; omega) hR1
        exact ih (w - (p + 1)) (by omega) (p + 1) rfl (by omega) _ _ hS3 (by show (gT M2 1 n f).length = w; rw [hM2.2, hM1.2]; exact hw) (((hM.trans hM1.1).trans hM2.1).trans hM3)
      · skip
        refine wp_goto (tgt := 65) dX2_lookAtFirst_44 (by decide) ?_
        refine wp_aload_n (i := 2) dX2_lookAtFirst_65 rfl rfl ?_
        refine wr_sheR (j := xt 1 n f) dX2_lookAtFirst_66 hS1.1 f_X2_179 hn hf (Or.inr ⟨rfl, rfl⟩) ?_
        refine wp_iload dX2_lookAtFirst_69 rfl ?_
        refine wp_callV (N := mX4_dropFirst) (as := [.int (nI p)]) dX2_lookAtFirst_71 l_X2_196 v_X4_dropFirst rfl (hS1.1.oT (vt1 hn hf)) rfl (by decide) (s_dropFirst hS1.1 (vt1 hn hf) (m := p) (by rw [hM1.2]; omega)) (fun v hp6 hq => ?_)
        obtain ⟨rfl, hR6⟩ := hq
        obtain ⟨hS6, hM6⟩ := hS1.drop hn hf (by rw [hM1.2]; omega) hR6
        have hT6 := (hM.trans hM1.1).trans hM6
        refine wp_ret (v := none) dX2_lookAtFirst_74 rfl ?_
        exact ⟨trivial, rfl, _, hS6, hT6⟩
/-- the first requests are done -/
theorem s_lookAtFirst (h : ST hp M zB tB n clk cc K D ev r 0 0 (fun _ => 0)) (hn : n < 2) (hf : f < 12) : WM L xs (d + 4) mX2_lookAtFirst [.ref (xi 0 n 0 0), .int (nI f)] hp (fun v hp' => v = none ∧ ∃ M', ST hp' M' zB tB n clk cc K D ev r 0 0 (fun _ => 0) ∧ MR M M' n clk) := by
  refine WM.of [some (.ref _), some (.int (nI f)), none, none, none] (by decide) rfl (Nat.le_of_ble_eq_true rfl) ?_
  refine wp_aload_n (i := 0) dX2_lookAtFirst_0 rfl rfl ?_
  refine wr_netR (j := rS n) dX2_lookAtFirst_1 h.1 f_X2_29 hn (Or.inr (Or.inl ⟨rfl, rfl⟩)) ?_
  refine wp_iload_n (i := 1) dX2_lookAtFirst_4 rfl rfl ?_
  refine wr_aS (f := f) dX2_lookAtFirst_5 h.1 rfl hn hf ?_
  refine wp_astore_n (i := 2) dX2_lookAtFirst_6 rfl (Nat.le_of_ble_eq_true rfl) ?_
  refine wp_aload_n (i := 2) dX2_lookAtFirst_7 rfl rfl ?_
  refine wr_sheR (j := xt 1 n f) dX2_lookAtFirst_8 h.1 f_X2_179 hn hf (Or.inr ⟨rfl, rfl⟩) ?_
  refine wr_rows dX2_lookAtFirst_11 h.1 f_X2_59 (vt1 hn hf) ?_
  refine wp_istore_n (i := 3) dX2_lookAtFirst_14 rfl (Nat.le_of_ble_eq_true rfl) ?_
  refine wp_iconst (v := 0) dX2_lookAtFirst_15 rfl ?_
  refine wp_istore dX2_lookAtFirst_16 (Nat.le_of_ble_eq_true rfl) ?_
  have hrows := rows_RQ M n hf
  have hb := BB.reqs h.2.2.2
  exact w_look_18 hn hf (by omega) _ 0 rfl (Nat.zero_le _) _ _ h rfl (MR.rfl' _ _ _)
end SERVER2
