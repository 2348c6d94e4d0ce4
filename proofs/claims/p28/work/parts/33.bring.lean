/-! ===== what comes, II: it is brought ===== -/
section BRING
variable {L : Nat} {xs : Nat → Int32} {d : Nat} {hp : AH} {M : MS} {zB tB n clk cc K : Nat} {D : Nat → Nat} {ev : Bool} {r j s : Nat} {e : Nat → Nat} {c f p : Nat}
theorem gC_row2 {M : MS} {n k p : Nat} (hp : p < (gT M 2 n k).length) : ∃ q, q ∈ gT M 2 n k ∧ (gT M 2 n k)[p]? = some q ∧ ∀ i, gC M 2 n k p i = q i := by
  refine ⟨(gT M 2 n k)[p], List.getElem_mem hp, List.getElem?_eq_getElem hp, fun i => ?_⟩
  show ((gT M 2 n k).getD p (fun _ => 0)) i = _
  rw [List.getD_eq_getElem?_getD, List.getElem?_eq_getElem hp]; rfl
theorem kdR_of {q : Row} {kd : Nat} (h : q 1 = nI kd) (hk : kd = 0 ∨ kd = 1) : kdR q = true := by
  unfold kdR; rw [h]; rcases hk with rfl | rfl <;> decide
theorem kdTh_of {q : Row} {kd : Nat} (h : q 1 = nI kd) (hk : kd = 0 ∨ kd = 1 ∨ kd = 3 ∨ kd = 4 ∨ kd = 5) : kdTh q = true := by
  unfold kdTh; rw [h]; rcases hk with rfl | rfl | rfl | rfl | rfl <;> decide
theorem kdC_of {q : Row} (h : q 1 = nI 6) (h0 : q 0 = nI c) : kdC c q = true := by
  unfold kdC; rw [h, h0, beq_self_eq_true]; rfl
/-- a thing is brought -/
theorem s_bring (h : ST hp M zB tB n clk cc K D ev r 0 0 (fun _ => 0)) (hn : n < 2) (hr0 : r < (gT M 2 n (clk % 9)).length) : WM L xs (d + 5) mX2_bring [.ref (xi 0 n 0 0), .ref (xt 2 n (clk % 9)), .int (nI r)] hp (fun v hp' => v = none ∧ ∃ M', ST hp' M' zB tB n clk cc K D ev (r + 1) 0 0 (fun _ => 0) ∧ MR M M' n clk) := by
  have hk9 : clk % 9 < 9 := Nat.mod_lt _ (by decide)
  obtain ⟨b1, b2, b3, b4, rm, hrm, b5⟩ := h.2.2.1.1
  obtain ⟨q0, hqm, h0, hqc⟩ := gC_row2 hr0
  obtain ⟨⟨c, wc, hc, hq0, -, -, -⟩, ⟨f, hf, hqf, t2, t3⟩, ⟨kd, hkd, hq1⟩, t4, t5⟩ := h.2.2.1.2.2.2 _ hk9 q0 hqm
  have hc4 : c < 4 := by omega
  have hC := h.cj hc
  obtain ⟨l, hI⟩ := hC.1
  refine WM.of [some (.ref _), some (.ref _), some (.int (nI r)), none, none, none, none, none, none, none] (by decide) rfl (Nat.le_of_ble_eq_true rfl) ?_
  refine wp_aload_n (i := 1) dX2_bring_0 rfl rfl ?_
  refine wp_iload_n (i := 2) dX2_bring_1 rfl rfl ?_
  refine wp_iconst (v := 0) dX2_bring_2 rfl ?_
  refine wp_callV (N := mX4_get) dX2_bring_3 l_X2_69 v_X4_get rfl (h.1.oT (vt2 hn hk9)) rfl (by decide) (s_get h.1 (vt2 hn hk9) hr0 (c := 0) (by decide)) (fun v hp9 hq => ?_)
  obtain ⟨rfl, rfl⟩ := hq
  rw [hqc 0, hq0]
  refine wp_istore_n (i := 3) dX2_bring_6 rfl (Nat.le_of_ble_eq_true rfl) ?_
  refine wp_aload_n (i := 1) dX2_bring_7 rfl rfl ?_
  refine wp_iload_n (i := 2) dX2_bring_8 rfl rfl ?_
  refine wp_iconst (v := 2) dX2_bring_9 rfl ?_
  refine wp_callV (N := mX4_get) dX2_bring_10 l_X2_69 v_X4_get rfl (h.1.oT (vt2 hn hk9)) rfl (by decide) (s_get h.1 (vt2 hn hk9) hr0 (c := 2) (by decide)) (fun v hp9 hq => ?_)
  obtain ⟨rfl, rfl⟩ := hq
  rw [hqc 2, hqf]
  refine wp_istore dX2_bring_13 (Nat.le_of_ble_eq_true rfl) ?_
  refine wp_aload_n (i := 0) dX2_bring_15 rfl rfl ?_
  refine wp_iload_n (i := 3) dX2_bring_16 rfl rfl ?_
  refine wp_callV (N := mX2_isClient) dX2_bring_17 l_X2_147 v_X2_isClient rfl (h.1.oo (vs0 hn (k := 0) (by decide)) (by decide)) rfl (by decide) (s_isClient h.1 hn b4 hc b2) (fun v hp9 hq => ?_)
  obtain ⟨rfl, rfl⟩ := hq
  refine wp_if_eq (tgt := 31) dX2_bring_20 (by decide) (fun c20 => ?_) (fun c20 => ?_)
  · skip
    exact absurd c20 (by decide)
  · skip
    refine wp_iload dX2_bring_23 rfl ?_
    refine wp_callS (N := mX5_isFile) (as := [.int (nI f)]) dX2_bring_25 (by first | exact Or.inl l_X2_151 | exact Or.inr n_X2_151 | exact l_X2_151) v_X5_isFile rfl rfl (by decide) (s_isFile hf) (fun v hp9 hq => ?_)
    obtain ⟨rfl, rfl⟩ := hq
    refine wp_if_ne (tgt := 32) dX2_bring_28 (by decide) (fun c28 => ?_) (fun c28 => ?_)
    · skip
      refine wp_aload_n (i := 0) dX2_bring_32 rfl rfl ?_
      refine wr_netR (j := rC n) dX2_bring_33 h.1 f_X2_23 hn (Or.inl ⟨rfl, rfl⟩) ?_
      refine wp_iload_n (i := 3) dX2_bring_36 rfl rfl ?_
      refine wr_aC (c := c) dX2_bring_37 h.1 rfl hn hc4 ?_
      refine wp_astore dX2_bring_38 (Nat.le_of_ble_eq_true rfl) ?_
      refine wp_aload dX2_bring_40 rfl ?_
      refine wr_get (g := 1) (n := n) (a := c) (b := 0) (k := 6) dX2_bring_42 h.1 f_X2_82 (vs1 hn hc4 (by decide)) (by decide) (by decide) ?_
      refine wp_if_ne (tgt := 59) dX2_bring_45 (by decide) (fun c45 => ?_) (fun c45 => ?_)
      · skip
        refine wp_aload dX2_bring_59 rfl ?_
        refine wp_dup dX2_bring_61 rfl ?_
        refine wr_get (g := 1) (n := n) (a := c) (b := 0) (k := 11) dX2_bring_62 h.1 f_X2_154 (vs1 hn hc4 (by decide)) (by decide) (by decide) ?_
        refine wp_iconst (v := 1) dX2_bring_65 rfl ?_
        refine wp_iadd dX2_bring_66 ?_
        refine wr_put (g := 1) (n := n) (a := c) (b := 0) (k := 11) dX2_bring_67 h.1 (p_X2_154 rfl) (vs1 hn hc4 (by decide)) (by decide) (by decide) (okI rfl) (fun hp2 hR1 => ?_)
        refine wp_ret (v := none) dX2_bring_70 rfl ?_
        have hev : ev = true := by
          cases ev with
          | true => rfl
          | false => exact absurd (hC.2.2.2.2.2.2 rfl).1 c45
        obtain ⟨hS1, hM1⟩ := h.lost hc hev hR1
        exact ⟨trivial, rfl, _, hS1.next h0 (Nat.zero_le _), hM1⟩
      · skip
        refine wp_aload_n (i := 1) dX2_bring_48 rfl rfl ?_
        refine wp_iload_n (i := 2) dX2_bring_49 rfl rfl ?_
        refine wp_bipush (v := nI 7) dX2_bring_50 (by decide) ?_
        refine wp_callV (N := mX4_get) dX2_bring_52 l_X2_69 v_X4_get rfl (h.1.oT (vt2 hn hk9)) rfl (by decide) (s_get h.1 (vt2 hn hk9) hr0 (c := 7) (by decide)) (fun v hp9 hq => ?_)
        obtain ⟨rfl, rfl⟩ := hq
        rw [hqc 7]
        refine wp_iconst (v := 1) dX2_bring_55 rfl ?_
        refine wp_icmp_ne (tgt := 71) dX2_bring_56 (by decide) (fun c56 => ?_) (fun c56 => ?_)
        · skip
          refine wp_aload_n (i := 1) dX2_bring_71 rfl rfl ?_
          refine wp_iload_n (i := 2) dX2_bring_72 rfl rfl ?_
          refine wp_iconst (v := 1) dX2_bring_73 rfl ?_
          refine wp_callV (N := mX4_get) dX2_bring_74 l_X2_69 v_X4_get rfl (h.1.oT (vt2 hn hk9)) rfl (by decide) (s_get h.1 (vt2 hn hk9) hr0 (c := 1) (by decide)) (fun v hp9 hq => ?_)
          obtain ⟨rfl, rfl⟩ := hq
          rw [hqc 1, hq1]
          refine wp_istore dX2_bring_77 (Nat.le_of_ble_eq_true rfl) ?_
          refine wp_aload_n (i := 1) dX2_bring_79 rfl rfl ?_
          refine wp_iload_n (i := 2) dX2_bring_80 rfl rfl ?_
          refine wp_iconst (v := 4) dX2_bring_81 rfl ?_
          refine wp_callV (N := mX4_get) dX2_bring_82 l_X2_69 v_X4_get rfl (h.1.oT (vt2 hn hk9)) rfl (by decide) (s_get h.1 (vt2 hn hk9) hr0 (c := 4) (by decide)) (fun v hp9 hq => ?_)
          obtain ⟨rfl, rfl⟩ := hq
          rw [hqc 4]
          refine wp_istore dX2_bring_85 (Nat.le_of_ble_eq_true rfl) ?_
          refine wp_aload_n (i := 1) dX2_bring_87 rfl rfl ?_
          refine wp_iload_n (i := 2) dX2_bring_88 rfl rfl ?_
          refine wp_iconst (v := 5) dX2_bring_89 rfl ?_
          refine wp_callV (N := mX4_get) dX2_bring_90 l_X2_69 v_X4_get rfl (h.1.oT (vt2 hn hk9)) rfl (by decide) (s_get h.1 (vt2 hn hk9) hr0 (c := 5) (by decide)) (fun v hp9 hq => ?_)
          obtain ⟨rfl, rfl⟩ := hq
          rw [hqc 5]
          refine wp_istore dX2_bring_93 (Nat.le_of_ble_eq_true rfl) ?_
          refine wp_aload_n (i := 1) dX2_bring_95 rfl rfl ?_
          refine wp_iload_n (i := 2) dX2_bring_96 rfl rfl ?_
          refine wp_bipush (v := nI 6) dX2_bring_97 (by decide) ?_
          refine wp_callV (N := mX4_get) dX2_bring_99 l_X2_69 v_X4_get rfl (h.1.oT (vt2 hn hk9)) rfl (by decide) (s_get h.1 (vt2 hn hk9) hr0 (c := 6) (by decide)) (fun v hp9 hq => ?_)
          obtain ⟨rfl, rfl⟩ := hq
          rw [hqc 6]
          refine wp_istore dX2_bring_102 (Nat.le_of_ble_eq_true rfl) ?_
          refine wp_iload dX2_bring_104 rfl ?_
          rcases (show kd = 0 ∨ kd = 1 ∨ kd = 2 ∨ kd = 3 ∨ kd = 4 ∨ kd = 5 ∨ kd = 6 by omega) with rfl | rfl | rfl | rfl | rfl | rfl | rfl
          · skip
            refine wp_tabIn dX2_bring_106 (by decide) (by decide) (off := 42) (tgt := 148) (by decide) (by decide) ?_
            refine wp_aload_n (i := 0) dX2_bring_148 rfl rfl ?_
            refine wr_netR (j := rS n) dX2_bring_149 h.1 f_X2_29 hn (Or.inr (Or.inl ⟨rfl, rfl⟩)) ?_
            refine wp_iload dX2_bring_152 rfl ?_
            refine wr_aS (f := f) dX2_bring_154 h.1 rfl hn hf ?_
            refine wp_iload_n (i := 3) dX2_bring_155 rfl rfl ?_
            refine wp_iload dX2_bring_156 rfl ?_
            refine wp_iload dX2_bring_158 rfl ?_
            refine wp_iload dX2_bring_160 rfl ?_
            have hrows := rows_RQ M n hf
            have hBr := BB.reqs (BB.req h.2.2.2 h0 (kdR_of hq1 (by decide)))
            refine wp_callV (N := mX3_addRequest) (as := [.int (nI c), .int (nI 0), .int (q0 4), .int (q0 5)]) dX2_bring_162 l_X2_157 v_X3_addRequest rfl (h.1.oo (vs4 hn hf (k := 0) (by decide)) (by decide)) rfl (by decide) (s_addRequest h.1 hn hf (by omega) (nI c) (nI 0) (q0 4) (q0 5)) (fun v hp8 hq => ?_)
            obtain ⟨rfl, q, y0, y1, y2, y3, hR8⟩ := hq
            obtain ⟨hS8, hM8⟩ := h.req hn hf h0 (kdR_of hq1 (by decide)) (q := q) ⟨⟨c, hc, y0⟩, by rw [y1]; decide, by rw [y2]; exact t4⟩ hR8
            refine wp_if_ne (tgt := 284) dX2_bring_165 (by decide) (fun c165 => ?_) (fun c165 => ?_)
            · skip
              refine wp_ret (v := none) dX2_bring_284 rfl ?_
              exact ⟨trivial, rfl, _, hS8, hM8⟩
            · skip
              refine wp_aload_n (i := 0) dX2_bring_168 rfl rfl ?_
              refine wp_iload dX2_bring_169 rfl ?_
              refine wp_callV (N := mX2_lookAtFirst) (as := [.int (nI f)]) dX2_bring_171 l_X2_141 v_X2_lookAtFirst rfl (hS8.1.oo (vs0 hn (k := 0) (by decide)) (by decide)) rfl (by decide) (s_lookAtFirst hS8 hn hf) (fun v hp7 hq => ?_)
              obtain ⟨rfl, M7, hS7, hM7⟩ := hq
              have hT7 := hM8.trans hM7
              refine wp_goto (tgt := 284) dX2_bring_174 (by decide) ?_
              refine wp_ret (v := none) dX2_bring_284 rfl ?_
              exact ⟨trivial, rfl, _, hS7, hT7⟩
          · skip
            refine wp_tabIn dX2_bring_106 (by decide) (by decide) (off := 42) (tgt := 148) (by decide) (by decide) ?_
            refine wp_aload_n (i := 0) dX2_bring_148 rfl rfl ?_
            refine wr_netR (j := rS n) dX2_bring_149 h.1 f_X2_29 hn (Or.inr (Or.inl ⟨rfl, rfl⟩)) ?_
            refine wp_iload dX2_bring_152 rfl ?_
            refine wr_aS (f := f) dX2_bring_154 h.1 rfl hn hf ?_
            refine wp_iload_n (i := 3) dX2_bring_155 rfl rfl ?_
            refine wp_iload dX2_bring_156 rfl ?_
            refine wp_iload dX2_bring_158 rfl ?_
            refine wp_iload dX2_bring_160 rfl ?_
            have hrows := rows_RQ M n hf
            have hBr := BB.reqs (BB.req h.2.2.2 h0 (kdR_of hq1 (by decide)))
            refine wp_callV (N := mX3_addRequest) (as := [.int (nI c), .int (nI 1), .int (q0 4), .int (q0 5)]) dX2_bring_162 l_X2_157 v_X3_addRequest rfl (h.1.oo (vs4 hn hf (k := 0) (by decide)) (by decide)) rfl (by decide) (s_addRequest h.1 hn hf (by omega) (nI c) (nI 1) (q0 4) (q0 5)) (fun v hp8 hq => ?_)
            obtain ⟨rfl, q, y0, y1, y2, y3, hR8⟩ := hq
            obtain ⟨hS8, hM8⟩ := h.req hn hf h0 (kdR_of hq1 (by decide)) (q := q) ⟨⟨c, hc, y0⟩, by rw [y1]; decide, by rw [y2]; exact t4⟩ hR8
            refine wp_if_ne (tgt := 284) dX2_bring_165 (by decide) (fun c165 => ?_) (fun c165 => ?_)
            · skip
              refine wp_ret (v := none) dX2_bring_284 rfl ?_
              exact ⟨trivial, rfl, _, hS8, hM8⟩
            · skip
              refine wp_aload_n (i := 0) dX2_bring_168 rfl rfl ?_
              refine wp_iload dX2_bring_169 rfl ?_
              refine wp_callV (N := mX2_lookAtFirst) (as := [.int (nI f)]) dX2_bring_171 l_X2_141 v_X2_lookAtFirst rfl (hS8.1.oo (vs0 hn (k := 0) (by decide)) (by decide)) rfl (by decide) (s_lookAtFirst hS8 hn hf) (fun v hp7 hq => ?_)
              obtain ⟨rfl, M7, hS7, hM7⟩ := hq
              have hT7 := hM8.trans hM7
              refine wp_goto (tgt := 284) dX2_bring_174 (by decide) ?_
              refine wp_ret (v := none) dX2_bring_284 rfl ?_
              exact ⟨trivial, rfl, _, hS7, hT7⟩
          · skip
            refine wp_tabIn dX2_bring_106 (by decide) (by decide) (off := 71) (tgt := 177) (by decide) (by decide) ?_
            refine wp_aload_n (i := 0) dX2_bring_177 rfl rfl ?_
            refine wr_netR (j := rS n) dX2_bring_178 h.1 f_X2_29 hn (Or.inr (Or.inl ⟨rfl, rfl⟩)) ?_
            refine wp_iload dX2_bring_181 rfl ?_
            refine wr_aS (f := f) dX2_bring_183 h.1 rfl hn hf ?_
            refine wr_sheR (j := xi 5 n f 0) dX2_bring_184 h.1 f_X2_161 hn hf (Or.inl ⟨rfl, rfl⟩) ?_
            refine wp_iload_n (i := 3) dX2_bring_187 rfl rfl ?_
            refine wp_iconst (v := (-1)) dX2_bring_188 rfl ?_
            refine wr_untP (k := c) dX2_bring_189 h.1 rfl (vs5 hn hf hc4) (fun hp4 hR3 => ?_)
            refine wp_aload_n (i := 0) dX2_bring_190 rfl rfl ?_
            refine wp_iload dX2_bring_191 rfl ?_
            obtain ⟨hSl, hMl⟩ := h.lease hR3
            have hSn := hSl.next (s' := 0) (q0 := q0) h0 (Nat.zero_le _)
            refine wp_callV (N := mX2_lookAtFirst) (as := [.int (nI f)]) dX2_bring_193 l_X2_141 v_X2_lookAtFirst rfl (hR3.oo (vs0 hn (k := 0) (by decide)) (by decide)) rfl (by decide) (s_lookAtFirst hSn hn hf) (fun v hp7 hq => ?_)
            obtain ⟨rfl, M7, hS7, hM7⟩ := hq
            have hT7 := hMl.trans hM7
            refine wp_goto (tgt := 284) dX2_bring_196 (by decide) ?_
            refine wp_ret (v := none) dX2_bring_284 rfl ?_
            exact ⟨trivial, rfl, _, hS7, hT7⟩
          · skip
            refine wp_tabIn dX2_bring_106 (by decide) (by decide) (off := 93) (tgt := 199) (by decide) (by decide) ?_
            refine wp_aload dX2_bring_199 rfl ?_
            refine wp_iload dX2_bring_201 rfl ?_
            refine wp_iload dX2_bring_203 rfl ?_
            refine wp_iload dX2_bring_205 rfl ?_
            refine wp_iload dX2_bring_207 rfl ?_
            refine wp_aload_n (i := 0) dX2_bring_209 rfl rfl ?_
            refine wr_get (g := 0) (n := n) (a := 0) (b := 0) (k := 3) dX2_bring_210 h.1 f_X2_18 (vs0 hn (by decide)) (by decide) (by decide) ?_
            rw [b5]
            refine wp_callV (N := mX0_takeGiven) (as := [.int (nI f), .int (q0 4), .int (q0 5), .int (q0 6), .int (nI rm)]) dX2_bring_213 l_X2_165 v_X0_takeGiven rfl (h.1.oo (vs1 hn hc4 (k := 2) (by decide)) (by decide)) rfl (by decide) (s_takeGiven h.1 hn hc4 hI hf (q0 4) (q0 5) (q0 6) hrm) (fun v hp8 hq => ?_)
            obtain ⟨rfl, M8, hR8, hG8⟩ := hq
            obtain ⟨hS8, hM8⟩ := (h.next (s' := 0 + 1) h0 (by rw [if_pos (kdTh_of hq1 (by decide))]; exact Nat.le_refl _)).given hc hf t4 ⟨t2, t3⟩ c45 hG8 hR8
            refine wp_goto (tgt := 284) dX2_bring_216 (by decide) ?_
            refine wp_ret (v := none) dX2_bring_284 rfl ?_
            exact ⟨trivial, rfl, _, hS8, hM8⟩
          · skip
            refine wp_tabIn dX2_bring_106 (by decide) (by decide) (off := 113) (tgt := 219) (by decide) (by decide) ?_
            refine wp_aload dX2_bring_219 rfl ?_
            refine wr_cliR (j := rF n c) dX2_bring_221 h.1 f_X2_86 hn hc4 (Or.inl ⟨rfl, rfl⟩) ?_
            refine wp_iload dX2_bring_224 rfl ?_
            refine wr_aF (f := f) dX2_bring_226 h.1 rfl hn hc4 hf ?_
            refine wp_iload dX2_bring_227 rfl ?_
            refine wp_iload dX2_bring_229 rfl ?_
            refine wp_iload dX2_bring_231 rfl ?_
            refine wp_callV (N := mX1_beStored) (as := [.int (q0 4), .int (q0 5), .int (q0 6)]) dX2_bring_233 l_X2_169 v_X1_beStored rfl (h.1.oo (vs2 hn hc4 hf (k := 0) (by decide)) (by decide)) rfl (by decide) (s_beStored h.1 hn hc4 hf (q0 4) (q0 5) (q0 6)) (fun v hp8 hq => ?_)
            obtain ⟨rfl, hR8⟩ := hq
            obtain ⟨hS8, hM8⟩ := (h.next (s' := 0 + 1) h0 (by rw [if_pos (kdTh_of hq1 (by decide))]; exact Nat.le_refl _)).kept hc hf ⟨t2, t3⟩ c45 hR8
            refine wp_goto (tgt := 284) dX2_bring_236 (by decide) ?_
            refine wp_ret (v := none) dX2_bring_284 rfl ?_
            exact ⟨trivial, rfl, _, hS8, hM8⟩
          · skip
            refine wp_tabIn dX2_bring_106 (by decide) (by decide) (off := 133) (tgt := 239) (by decide) (by decide) ?_
            refine wp_aload dX2_bring_239 rfl ?_
            refine wp_iload dX2_bring_241 rfl ?_
            refine wp_iload dX2_bring_243 rfl ?_
            refine wp_iload dX2_bring_245 rfl ?_
            refine wp_callV (N := mX0_takeClash) (as := [.int (nI f), .int (q0 4), .int (q0 5)]) dX2_bring_247 l_X2_172 v_X0_takeClash rfl (h.1.oo (vs1 hn hc4 (k := 2) (by decide)) (by decide)) rfl (by decide) (s_takeClash h.1 hn hc4 hI hf (q0 4) (q0 5) hC.2.2.2.2.1) (fun v hp8 hq => ?_)
            obtain ⟨M8, hR8, hG8, hv9⟩ := hq
            obtain ⟨hS8, hM8, h68, h78⟩ := h.clash hn hc hf t4 ⟨t2, t3⟩ c45 h0 (kdTh_of hq1 (by decide)) hG8 hR8
            obtain ⟨vv, rfl⟩ : ∃ vv, v = some (.int vv) := by rcases hv9 with h9 | h9 <;> exact ⟨_, h9⟩
            refine wp_if_eq (tgt := 284) dX2_bring_250 (by decide) (fun c250 => ?_) (fun c250 => ?_)
            · skip
              refine wp_ret (v := none) dX2_bring_284 rfl ?_
              exact ⟨trivial, rfl, _, hS8, hM8⟩
            · skip
              refine wp_aload_n (i := 0) dX2_bring_253 rfl rfl ?_
              refine wp_iload_n (i := 3) dX2_bring_254 rfl rfl ?_
              refine wp_iload dX2_bring_255 rfl ?_
              refine wp_callV (N := mX2_sendStore) (as := [.int (nI c), .int (nI f)]) dX2_bring_257 l_X2_127 v_X2_sendStore rfl (hS8.1.oo (vs0 hn (k := 0) (by decide)) (by decide)) rfl (by decide) (s_sendStore hS8 hn (Nat.zero_le _) hc hf h68 h78) (fun v hp7 hq => ?_)
              obtain ⟨rfl, k, q, hk, hS7⟩ := hq
              have hT7 := (hM8.trans (MR_sv2 M8 n c f 7 clk 1)).trans (MR_snd _ hk q)
              refine wp_goto (tgt := 284) dX2_bring_260 (by decide) ?_
              refine wp_ret (v := none) dX2_bring_284 rfl ?_
              exact ⟨trivial, rfl, _, hS7, hT7⟩
          · skip
            refine wp_tabIn dX2_bring_106 (by decide) (by decide) (off := 157) (tgt := 263) (by decide) (by decide) ?_
            refine wp_aload dX2_bring_263 rfl ?_
            refine wp_iload dX2_bring_265 rfl ?_
            refine wp_callV (N := mX0_takeCall) (as := [.int (nI f)]) dX2_bring_267 l_X2_176 v_X0_takeCall rfl (h.1.oo (vs1 hn hc4 (k := 2) (by decide)) (by decide)) rfl (by decide) (s_takeCall h.1 hn hc4 hI hf) (fun v hp8 hq => ?_)
            obtain ⟨rfl, M8, hR8, y1, y2, y3, y4, y5⟩ := hq
            obtain ⟨hS8, hM8⟩ := h.called hc hf c45 y1 y2 y3 y4 y5 hR8
            refine wp_aload_n (i := 0) dX2_bring_270 rfl rfl ?_
            refine wp_iconst (v := 2) dX2_bring_271 rfl ?_
            refine wp_iload_n (i := 3) dX2_bring_272 rfl rfl ?_
            refine wp_iload dX2_bring_273 rfl ?_
            refine wp_iconst (v := 0) dX2_bring_275 rfl ?_
            refine wp_iconst (v := 0) dX2_bring_276 rfl ?_
            refine wp_iconst (v := 0) dX2_bring_277 rfl ?_
            refine wp_callV (N := mX2_send) (as := [.int (nI 2), .int (nI c), .int (nI f), .int 0, .int 0, .int 0]) dX2_bring_278 l_X2_101 v_X2_send rfl (hS8.1.oo (vs0 hn (k := 0) (by decide)) (by decide)) rfl (by decide) (s_sendA hS8 hn (Nat.zero_le _) hc hf 0 (q0 := q0) (by rw [hM8.2]; exact h0) (kdC_of hq1 hq0)) (fun v hp7 hq => ?_)
            obtain ⟨rfl, k, q, hk, hS7⟩ := hq
            have hT7 := hM8.trans (MR_snd _ hk q)
            refine wp_goto (tgt := 284) dX2_bring_281 (by decide) ?_
            refine wp_ret (v := none) dX2_bring_284 rfl ?_
            exact ⟨trivial, rfl, _, hS7, hT7⟩
        · skip
          refine wp_aload dX2_bring_59 rfl ?_
          refine wp_dup dX2_bring_61 rfl ?_
          refine wr_get (g := 1) (n := n) (a := c) (b := 0) (k := 11) dX2_bring_62 h.1 f_X2_154 (vs1 hn hc4 (by decide)) (by decide) (by decide) ?_
          refine wp_iconst (v := 1) dX2_bring_65 rfl ?_
          refine wp_iadd dX2_bring_66 ?_
          refine wr_put (g := 1) (n := n) (a := c) (b := 0) (k := 11) dX2_bring_67 h.1 (p_X2_154 rfl) (vs1 hn hc4 (by decide)) (by decide) (by decide) (okI rfl) (fun hp6 hR5 => ?_)
          refine wp_ret (v := none) dX2_bring_70 rfl ?_
          have hev : ev = true := by
            cases ev with
            | true => rfl
            | false => exact absurd c56 (t5 rfl)
          obtain ⟨hS1, hM1⟩ := h.lost hc hev hR5
          exact ⟨trivial, rfl, _, hS1.next h0 (Nat.zero_le _), hM1⟩
    · skip
      exact absurd c28 (by decide)
end BRING
