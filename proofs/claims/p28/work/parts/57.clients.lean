/-! ===== the law: what it asks of the clients ===== -/
def cI (l : List Nat) (g : Nat) : Nat := if g ∈ l then 1 else 0
/-- the law's tries: what is hit and missed, and its own count of both -/
def Tr (M : MS) (T cc t : Nat) (h m : Nat → Nat) (F : Nat → Int32) : Prop := (∀ c, c < cc → gV M 1 0 c 0 7 = nI (h c) ∧ gV M 1 0 c 0 8 = nI (m c) ∧ h c + m c ≤ t ∧ F c = nI (h c + m c)) ∧ gX M T = some (cc, F)
section LAW3
variable {L : Nat} {xs : Nat → Int32} {d : Nat} {hp : AH} {M : MS} {zB tB clk cc K T t c : Nat} {D : Nat → Nat} {ev : Bool} {Q : Option Value → AH → Prop} {nh nm : Nat → Nat} {F : Nat → Int32} {e : Int32}
theorem w_cr_81 (h : S0 hp M zB tB clk cc K D ev) (hc : c < cc) {l : List Nat} (hI : CI M 0 c l) (kk : ∀ (l6 l7 : Option Value), WP L xs (d + 4) mL_areClientsRight 299 [some (.ref 1), some (.ref T), some (.int e), some (.int (nI c)), some (.int (nI (sN 12 (cI l)))), some (.int (nI 12)), l6, l7] [] hp Q) : ∀ (m f : Nat), 12 - f = m → f ≤ 12 → ∀ (l6 l7 : Option Value), WP L xs (d + 4) mL_areClientsRight 81 [some (.ref 1), some (.ref T), some (.int e), some (.int (nI c)), some (.int (nI (sN f (cI l)))), some (.int (nI f)), l6, l7] [] hp Q := by
  have hR := h.1.1
  obtain ⟨b1, b2, b3, b4, b5⟩ := h.1.2.2.1.1
  have hc4 : c < 4 := by omega
  obtain ⟨-, -, -, hcut, -, hJ, -⟩ := h.1.2.2.1.2.1 c hc4
  obtain ⟨-, i2, i3, i4, i5⟩ := id hI
  intro m
  induction m using Nat.strongRecOn with
  | ind m ih =>
    intro f hm hf0 l6 l7
    subst hm
    refine wp_iload dL_areClientsRight_81 rfl ?_
    refine wp_bipush (v := nI 12) dL_areClientsRight_83 (by decide) ?_
    refine wp_icmp_ge (tgt := 299) dL_areClientsRight_85 (by decide) (fun c85 => ?_) (fun c85 => ?_)
    · skip
      have e9 : f = 12 := by
        rcases Nat.lt_or_ge f 12 with q | q
        · exact absurd (nI_lt q (by decide)) c85
        · omega
      subst e9
      exact kk _ _
    · skip
      have hf : f < 12 := (nI_ltI (by omega) (by decide)).mp c85
      obtain ⟨w1, w2⟩ := vr_bd h hf
      obtain ⟨q1, q2, q3⟩ := hJ f hf
      have t0 := hT0_lt (x := nI clk) (b := gV M 1 0 c 0 6) q1
      have t1 := hT1_lt (x := nI clk) (b := gV M 1 0 c 0 6) q2 (by omega)
      have t1' := hT1_le (x := nI clk) (b := gV M 1 0 c 0 6) q2 q3 w2
      have t3 := hT3_lt (M := M) (n := 0) (c := c) (f := f) (clk := clk) (b := gV M 1 0 c 0 6) (by omega)
      have hdd : gV M 2 0 c f 0 = 0 → gV M 2 0 c f 4 = 0 := fun z => Classical.byContradiction fun y => ((i4 f hf).mpr (i5 f hf y)) z
      refine wp_aload_n (i := 0) dL_areClientsRight_88 rfl rfl ?_
      refine wp_iload_n (i := 3) dL_areClientsRight_89 rfl rfl ?_
      refine wp_iload dL_areClientsRight_90 rfl ?_
      refine wp_iconst (v := 0) dL_areClientsRight_92 rfl ?_
      refine wp_callV (N := mX5_has) (as := [.int (nI c), .int (nI f), .int (nI 0)]) dL_areClientsRight_93 l_L_25 v_X5_has rfl hR.top.1 rfl (Nat.le_of_ble_eq_true rfl) (s_has h hc hf (p := 0) (by decide)) (fun v hp9 hq => ?_)
      obtain ⟨rfl, rfl⟩ := hq
      refine wp_if_lt (tgt := 103) dL_areClientsRight_96 (by decide) (fun c96 => ?_) (fun c96 => ?_)
      · skip
        have hz : gV M 2 0 c f 0 = 0 := t0.mp c96
        refine wp_iconst (v := 0) dL_areClientsRight_103 rfl ?_
        refine wp_istore dL_areClientsRight_104 (Nat.le_of_ble_eq_true rfl) ?_
        refine wp_iload dL_areClientsRight_106 rfl ?_
        refine wp_iload dL_areClientsRight_108 rfl ?_
        refine wp_if_eq (tgt := 117) dL_areClientsRight_110 (by decide) (fun c110 => ?_) (fun c110 => ?_)
        · skip
          refine wp_iconst (v := 0) dL_areClientsRight_117 rfl ?_
          refine wp_iadd dL_areClientsRight_118 ?_
          have eS : sN (f + 1) (cI l) = sN f (cI l) := by show sN f (cI l) + (if f ∈ l then 1 else 0) = _; rw [if_neg (fun z => ((i4 f hf).mpr z) hz)]; rfl
          rw [Int32.add_zero, ← eS]
          refine wp_istore dL_areClientsRight_119 (Nat.le_of_ble_eq_true rfl) ?_
          refine wp_iload dL_areClientsRight_121 rfl ?_
          refine wp_aload_n (i := 0) dL_areClientsRight_123 rfl rfl ?_
          refine wp_iload_n (i := 3) dL_areClientsRight_124 rfl rfl ?_
          refine wp_iload dL_areClientsRight_125 rfl ?_
          refine wp_iconst (v := 1) dL_areClientsRight_127 rfl ?_
          refine wp_callV (N := mX5_has) (as := [.int (nI c), .int (nI f), .int (nI 1)]) dL_areClientsRight_128 l_L_25 v_X5_has rfl hR.top.1 rfl (Nat.le_of_ble_eq_true rfl) (s_has h hc hf (p := 1) (by decide)) (fun v hp9 hq => ?_)
          obtain ⟨rfl, rfl⟩ := hq
          refine wp_if_lt (tgt := 138) dL_areClientsRight_131 (by decide) (fun c131 => ?_) (fun c131 => ?_)
          · skip
            refine wp_iconst (v := 0) dL_areClientsRight_138 rfl ?_
            refine wp_icmp_ne (tgt := 199) dL_areClientsRight_139 (by decide) (fun c139 => ?_) (fun c139 => ?_)
            · skip
              exact absurd rfl c139
            · skip
              refine wp_iload dL_areClientsRight_142 rfl ?_
              refine wp_if_ne (tgt := 181) dL_areClientsRight_144 (by decide) (fun c144 => ?_) (fun c144 => ?_)
              · skip
                exact absurd rfl c144
              · skip
                refine wp_aload_n (i := 0) dL_areClientsRight_147 rfl rfl ?_
                refine wp_iload_n (i := 3) dL_areClientsRight_148 rfl rfl ?_
                refine wp_iload dL_areClientsRight_149 rfl ?_
                refine wp_iconst (v := 2) dL_areClientsRight_151 rfl ?_
                refine wp_callV (N := mX5_has) (as := [.int (nI c), .int (nI f), .int (nI 2)]) dL_areClientsRight_152 l_L_25 v_X5_has rfl hR.top.1 rfl (Nat.le_of_ble_eq_true rfl) (s_has h hc hf (p := 2) (by decide)) (fun v hp9 hq => ?_)
                obtain ⟨rfl, rfl⟩ := hq
                refine wp_if_ne (tgt := 199) dL_areClientsRight_155 (by decide) (fun c155 => ?_) (fun c155 => ?_)
                · skip
                  exact absurd (hT2_0.mpr (hdd hz)) c155
                · skip
                  refine wp_aload_n (i := 0) dL_areClientsRight_158 rfl rfl ?_
                  refine wp_iload_n (i := 3) dL_areClientsRight_159 rfl rfl ?_
                  refine wp_iload dL_areClientsRight_160 rfl ?_
                  refine wp_iconst (v := 3) dL_areClientsRight_162 rfl ?_
                  refine wp_callV (N := mX5_has) (as := [.int (nI c), .int (nI f), .int (nI 3)]) dL_areClientsRight_163 l_L_25 v_X5_has rfl hR.top.1 rfl (Nat.le_of_ble_eq_true rfl) (s_has h hc hf (p := 3) (by decide)) (fun v hp9 hq => ?_)
                  obtain ⟨rfl, rfl⟩ := hq
                  refine wp_iconst (v := (-1)) dL_areClientsRight_166 rfl ?_
                  refine wp_icmp_ne (tgt := 199) dL_areClientsRight_167 (by decide) (fun c167 => ?_) (fun c167 => ?_)
                  · skip
                    exact absurd (hT3_n hz) c167
                  · skip
                    refine wp_aload_n (i := 0) dL_areClientsRight_170 rfl rfl ?_
                    refine wp_iload_n (i := 3) dL_areClientsRight_171 rfl rfl ?_
                    refine wp_iload dL_areClientsRight_172 rfl ?_
                    refine wp_iconst (v := 4) dL_areClientsRight_174 rfl ?_
                    refine wp_callV (N := mX5_has) (as := [.int (nI c), .int (nI f), .int (nI 4)]) dL_areClientsRight_175 l_L_25 v_X5_has rfl hR.top.1 rfl (Nat.le_of_ble_eq_true rfl) (s_has h hc hf (p := 4) (by decide)) (fun v hp9 hq => ?_)
                    obtain ⟨rfl, rfl⟩ := hq
                    refine wp_if_ne (tgt := 199) dL_areClientsRight_178 (by decide) (fun c178 => ?_) (fun c178 => ?_)
                    · skip
                      exact absurd (hT4_0.mpr (fun z => z.1 hz)) c178
                    · skip
                      refine wp_aload_n (i := 0) dL_areClientsRight_181 rfl rfl ?_
                      refine wp_iload_n (i := 3) dL_areClientsRight_182 rfl rfl ?_
                      refine wp_iload dL_areClientsRight_183 rfl ?_
                      refine wp_iconst (v := 1) dL_areClientsRight_185 rfl ?_
                      refine wp_callV (N := mX5_has) (as := [.int (nI c), .int (nI f), .int (nI 1)]) dL_areClientsRight_186 l_L_25 v_X5_has rfl hR.top.1 rfl (Nat.le_of_ble_eq_true rfl) (s_has h hc hf (p := 1) (by decide)) (fun v hp9 hq => ?_)
                      obtain ⟨rfl, rfl⟩ := hq
                      refine wp_aload_n (i := 0) dL_areClientsRight_189 rfl rfl ?_
                      refine wp_iload dL_areClientsRight_190 rfl ?_
                      refine wp_iconst (v := 1) dL_areClientsRight_192 rfl ?_
                      refine wp_callV (N := mX5_server) (as := [.int (nI f), .int (nI 1)]) dL_areClientsRight_193 l_L_85 v_X5_server rfl hR.top.1 rfl (Nat.le_of_ble_eq_true rfl) (s_server h hf (p := 1) (by decide)) (fun v hp9 hq => ?_)
                      obtain ⟨rfl, rfl⟩ := hq
                      refine wp_icmp_le (tgt := 201) dL_areClientsRight_196 (by decide) (fun c196 => ?_) (fun c196 => ?_)
                      · skip
                        refine wp_aload_n (i := 0) dL_areClientsRight_201 rfl rfl ?_
                        refine wp_iload_n (i := 3) dL_areClientsRight_202 rfl rfl ?_
                        refine wp_iload dL_areClientsRight_203 rfl ?_
                        refine wp_iconst (v := 2) dL_areClientsRight_205 rfl ?_
                        refine wp_callV (N := mX5_has) (as := [.int (nI c), .int (nI f), .int (nI 2)]) dL_areClientsRight_206 l_L_25 v_X5_has rfl hR.top.1 rfl (Nat.le_of_ble_eq_true rfl) (s_has h hc hf (p := 2) (by decide)) (fun v hp9 hq => ?_)
                        obtain ⟨rfl, rfl⟩ := hq
                        refine wp_iconst (v := 1) dL_areClientsRight_209 rfl ?_
                        refine wp_icmp_eq (tgt := 240) dL_areClientsRight_210 (by decide) (fun c210 => ?_) (fun c210 => ?_)
                        · skip
                          exact absurd (hdd hz) (hT2_1.mp c210)
                        · skip
                          refine wp_aload_n (i := 0) dL_areClientsRight_213 rfl rfl ?_
                          refine wp_iload_n (i := 3) dL_areClientsRight_214 rfl rfl ?_
                          refine wp_iload dL_areClientsRight_215 rfl ?_
                          refine wp_iconst (v := 3) dL_areClientsRight_217 rfl ?_
                          refine wp_callV (N := mX5_has) (as := [.int (nI c), .int (nI f), .int (nI 3)]) dL_areClientsRight_218 l_L_25 v_X5_has rfl hR.top.1 rfl (Nat.le_of_ble_eq_true rfl) (s_has h hc hf (p := 3) (by decide)) (fun v hp9 hq => ?_)
                          obtain ⟨rfl, rfl⟩ := hq
                          refine wp_if_ge (tgt := 240) dL_areClientsRight_221 (by decide) (fun c221 => ?_) (fun c221 => ?_)
                          · skip
                            exact absurd (t3.mpr (fun z => z.1 hz)) c221
                          · skip
                            refine wp_iload dL_areClientsRight_224 rfl ?_
                            refine wp_if_eq (tgt := 244) dL_areClientsRight_226 (by decide) (fun c226 => ?_) (fun c226 => ?_)
                            · skip
                              refine wp_iconst (v := 0) dL_areClientsRight_244 rfl ?_
                              refine wp_istore dL_areClientsRight_245 (Nat.le_of_ble_eq_true rfl) ?_
                              refine wp_iload dL_areClientsRight_247 rfl ?_
                              refine wp_aload_n (i := 0) dL_areClientsRight_249 rfl rfl ?_
                              refine wp_iload_n (i := 3) dL_areClientsRight_250 rfl rfl ?_
                              refine wp_iload dL_areClientsRight_251 rfl ?_
                              refine wp_iconst (v := 4) dL_areClientsRight_253 rfl ?_
                              refine wp_callV (N := mX5_has) (as := [.int (nI c), .int (nI f), .int (nI 4)]) dL_areClientsRight_254 l_L_25 v_X5_has rfl hR.top.1 rfl (Nat.le_of_ble_eq_true rfl) (s_has h hc hf (p := 4) (by decide)) (fun v hp9 hq => ?_)
                              obtain ⟨rfl, rfl⟩ := hq
                              refine wp_iconst (v := 1) dL_areClientsRight_257 rfl ?_
                              refine wp_icmp_ne (tgt := 265) dL_areClientsRight_258 (by decide) (fun c258 => ?_) (fun c258 => ?_)
                              · skip
                                refine wp_iconst (v := 0) dL_areClientsRight_265 rfl ?_
                                refine wp_icmp_ne (tgt := 291) dL_areClientsRight_266 (by decide) (fun c266 => ?_) (fun c266 => ?_)
                                · skip
                                  exact absurd rfl c266
                                · skip
                                  refine wp_aload_n (i := 0) dL_areClientsRight_269 rfl rfl ?_
                                  refine wp_iload_n (i := 3) dL_areClientsRight_270 rfl rfl ?_
                                  refine wp_bipush (v := nI 6) dL_areClientsRight_271 (by decide) ?_
                                  refine wp_callV (N := mX5_told) (as := [.int (nI c), .int (nI 6)]) dL_areClientsRight_273 l_L_43 v_X5_told rfl hR.top.1 rfl (Nat.le_of_ble_eq_true rfl) (s_told h hc (p := 6) (by decide)) (fun v hp9 hq => ?_)
                                  obtain ⟨rfl, rfl⟩ := hq
                                  refine wp_iconst (v := 1) dL_areClientsRight_276 rfl ?_
                                  refine wp_icmp_ne (tgt := 293) dL_areClientsRight_277 (by decide) (fun c277 => ?_) (fun c277 => ?_)
                                  · skip
                                    refine wp_iinc (v := nI (f + 1)) dL_areClientsRight_293 rfl (nI_1 _) ?_
                                    refine wp_goto (tgt := 81) dL_areClientsRight_296 (by decide) ?_
                                    exact ih (12 - (f + 1)) (by omega) (f + 1) rfl (by omega) _ _
                                  · skip
                                    refine wp_aload_n (i := 0) dL_areClientsRight_280 rfl rfl ?_
                                    refine wp_iload_n (i := 3) dL_areClientsRight_281 rfl rfl ?_
                                    refine wp_iload dL_areClientsRight_282 rfl ?_
                                    refine wp_iconst (v := 5) dL_areClientsRight_284 rfl ?_
                                    refine wp_callV (N := mX5_has) (as := [.int (nI c), .int (nI f), .int (nI 5)]) dL_areClientsRight_285 l_L_25 v_X5_has rfl hR.top.1 rfl (Nat.le_of_ble_eq_true rfl) (s_has h hc hf (p := 5) (by decide)) (fun v hp9 hq => ?_)
                                    obtain ⟨rfl, rfl⟩ := hq
                                    refine wp_if_eq (tgt := 293) dL_areClientsRight_288 (by decide) (fun c288 => ?_) (fun c288 => ?_)
                                    · skip
                                      refine wp_iinc (v := nI (f + 1)) dL_areClientsRight_293 rfl (nI_1 _) ?_
                                      refine wp_goto (tgt := 81) dL_areClientsRight_296 (by decide) ?_
                                      exact ih (12 - (f + 1)) (by omega) (f + 1) rfl (by omega) _ _
                                    · skip
                                      exact absurd (hT5_0 (hcut (cT6_1.mp (by first | exact c277 | exact Classical.not_not.mp c277)) f hf)) c288
                              · skip
                                exact absurd (hT4_1.mp (by first | exact c258 | exact Classical.not_not.mp c258)).1 (fun z => z hz)
                            · skip
                              exact absurd rfl c226
                      · skip
                        have c9 : gV M 4 0 f 0 1 < hTell M 0 c f 1 (nI clk) (gV M 1 0 c 0 6) := c196
                        rw [w1] at c9
                        exact absurd c9 t1'
          · skip
            exact absurd (t1.mpr hz) c131
        · skip
          exact absurd rfl c110
      · skip
        have hd : ¬ gV M 2 0 c f 0 = 0 := fun z => c96 (t0.mpr z)
        refine wp_iconst (v := 1) dL_areClientsRight_99 rfl ?_
        refine wp_goto (tgt := 104) dL_areClientsRight_100 (by decide) ?_
        refine wp_istore dL_areClientsRight_104 (Nat.le_of_ble_eq_true rfl) ?_
        refine wp_iload dL_areClientsRight_106 rfl ?_
        refine wp_iload dL_areClientsRight_108 rfl ?_
        refine wp_if_eq (tgt := 117) dL_areClientsRight_110 (by decide) (fun c110 => ?_) (fun c110 => ?_)
        · skip
          exact absurd c110 (by decide)
        · skip
          refine wp_iconst (v := 1) dL_areClientsRight_113 rfl ?_
          refine wp_goto (tgt := 118) dL_areClientsRight_114 (by decide) ?_
          refine wp_iadd dL_areClientsRight_118 ?_
          have eS : sN (f + 1) (cI l) = sN f (cI l) + 1 := by show sN f (cI l) + (if f ∈ l then 1 else 0) = _; rw [if_pos ((i4 f hf).mp hd)]
          rw [nI_1, ← eS]
          refine wp_istore dL_areClientsRight_119 (Nat.le_of_ble_eq_true rfl) ?_
          refine wp_iload dL_areClientsRight_121 rfl ?_
          refine wp_aload_n (i := 0) dL_areClientsRight_123 rfl rfl ?_
          refine wp_iload_n (i := 3) dL_areClientsRight_124 rfl rfl ?_
          refine wp_iload dL_areClientsRight_125 rfl ?_
          refine wp_iconst (v := 1) dL_areClientsRight_127 rfl ?_
          refine wp_callV (N := mX5_has) (as := [.int (nI c), .int (nI f), .int (nI 1)]) dL_areClientsRight_128 l_L_25 v_X5_has rfl hR.top.1 rfl (Nat.le_of_ble_eq_true rfl) (s_has h hc hf (p := 1) (by decide)) (fun v hp9 hq => ?_)
          obtain ⟨rfl, rfl⟩ := hq
          refine wp_if_lt (tgt := 138) dL_areClientsRight_131 (by decide) (fun c131 => ?_) (fun c131 => ?_)
          · skip
            exact absurd (t1.mp c131) hd
          · skip
            refine wp_iconst (v := 1) dL_areClientsRight_134 rfl ?_
            refine wp_goto (tgt := 139) dL_areClientsRight_135 (by decide) ?_
            refine wp_icmp_ne (tgt := 199) dL_areClientsRight_139 (by decide) (fun c139 => ?_) (fun c139 => ?_)
            · skip
              exact absurd rfl c139
            · skip
              refine wp_iload dL_areClientsRight_142 rfl ?_
              refine wp_if_ne (tgt := 181) dL_areClientsRight_144 (by decide) (fun c144 => ?_) (fun c144 => ?_)
              · skip
                refine wp_aload_n (i := 0) dL_areClientsRight_181 rfl rfl ?_
                refine wp_iload_n (i := 3) dL_areClientsRight_182 rfl rfl ?_
                refine wp_iload dL_areClientsRight_183 rfl ?_
                refine wp_iconst (v := 1) dL_areClientsRight_185 rfl ?_
                refine wp_callV (N := mX5_has) (as := [.int (nI c), .int (nI f), .int (nI 1)]) dL_areClientsRight_186 l_L_25 v_X5_has rfl hR.top.1 rfl (Nat.le_of_ble_eq_true rfl) (s_has h hc hf (p := 1) (by decide)) (fun v hp9 hq => ?_)
                obtain ⟨rfl, rfl⟩ := hq
                refine wp_aload_n (i := 0) dL_areClientsRight_189 rfl rfl ?_
                refine wp_iload dL_areClientsRight_190 rfl ?_
                refine wp_iconst (v := 1) dL_areClientsRight_192 rfl ?_
                refine wp_callV (N := mX5_server) (as := [.int (nI f), .int (nI 1)]) dL_areClientsRight_193 l_L_85 v_X5_server rfl hR.top.1 rfl (Nat.le_of_ble_eq_true rfl) (s_server h hf (p := 1) (by decide)) (fun v hp9 hq => ?_)
                obtain ⟨rfl, rfl⟩ := hq
                refine wp_icmp_le (tgt := 201) dL_areClientsRight_196 (by decide) (fun c196 => ?_) (fun c196 => ?_)
                · skip
                  refine wp_aload_n (i := 0) dL_areClientsRight_201 rfl rfl ?_
                  refine wp_iload_n (i := 3) dL_areClientsRight_202 rfl rfl ?_
                  refine wp_iload dL_areClientsRight_203 rfl ?_
                  refine wp_iconst (v := 2) dL_areClientsRight_205 rfl ?_
                  refine wp_callV (N := mX5_has) (as := [.int (nI c), .int (nI f), .int (nI 2)]) dL_areClientsRight_206 l_L_25 v_X5_has rfl hR.top.1 rfl (Nat.le_of_ble_eq_true rfl) (s_has h hc hf (p := 2) (by decide)) (fun v hp9 hq => ?_)
                  obtain ⟨rfl, rfl⟩ := hq
                  refine wp_iconst (v := 1) dL_areClientsRight_209 rfl ?_
                  refine wp_icmp_eq (tgt := 240) dL_areClientsRight_210 (by decide) (fun c210 => ?_) (fun c210 => ?_)
                  · skip
                    refine wp_iconst (v := 1) dL_areClientsRight_240 rfl ?_
                    refine wp_goto (tgt := 245) dL_areClientsRight_241 (by decide) ?_
                    refine wp_istore dL_areClientsRight_245 (Nat.le_of_ble_eq_true rfl) ?_
                    refine wp_iload dL_areClientsRight_247 rfl ?_
                    refine wp_aload_n (i := 0) dL_areClientsRight_249 rfl rfl ?_
                    refine wp_iload_n (i := 3) dL_areClientsRight_250 rfl rfl ?_
                    refine wp_iload dL_areClientsRight_251 rfl ?_
                    refine wp_iconst (v := 4) dL_areClientsRight_253 rfl ?_
                    refine wp_callV (N := mX5_has) (as := [.int (nI c), .int (nI f), .int (nI 4)]) dL_areClientsRight_254 l_L_25 v_X5_has rfl hR.top.1 rfl (Nat.le_of_ble_eq_true rfl) (s_has h hc hf (p := 4) (by decide)) (fun v hp9 hq => ?_)
                    obtain ⟨rfl, rfl⟩ := hq
                    refine wp_iconst (v := 1) dL_areClientsRight_257 rfl ?_
                    refine wp_icmp_ne (tgt := 265) dL_areClientsRight_258 (by decide) (fun c258 => ?_) (fun c258 => ?_)
                    · skip
                      exact absurd (hT4_1.mpr ⟨hd, Or.inl (hT2_1.mp c210)⟩) c258
                    · skip
                      refine wp_iconst (v := 1) dL_areClientsRight_261 rfl ?_
                      refine wp_goto (tgt := 266) dL_areClientsRight_262 (by decide) ?_
                      refine wp_icmp_ne (tgt := 291) dL_areClientsRight_266 (by decide) (fun c266 => ?_) (fun c266 => ?_)
                      · skip
                        exact absurd rfl c266
                      · skip
                        refine wp_aload_n (i := 0) dL_areClientsRight_269 rfl rfl ?_
                        refine wp_iload_n (i := 3) dL_areClientsRight_270 rfl rfl ?_
                        refine wp_bipush (v := nI 6) dL_areClientsRight_271 (by decide) ?_
                        refine wp_callV (N := mX5_told) (as := [.int (nI c), .int (nI 6)]) dL_areClientsRight_273 l_L_43 v_X5_told rfl hR.top.1 rfl (Nat.le_of_ble_eq_true rfl) (s_told h hc (p := 6) (by decide)) (fun v hp9 hq => ?_)
                        obtain ⟨rfl, rfl⟩ := hq
                        refine wp_iconst (v := 1) dL_areClientsRight_276 rfl ?_
                        refine wp_icmp_ne (tgt := 293) dL_areClientsRight_277 (by decide) (fun c277 => ?_) (fun c277 => ?_)
                        · skip
                          refine wp_iinc (v := nI (f + 1)) dL_areClientsRight_293 rfl (nI_1 _) ?_
                          refine wp_goto (tgt := 81) dL_areClientsRight_296 (by decide) ?_
                          exact ih (12 - (f + 1)) (by omega) (f + 1) rfl (by omega) _ _
                        · skip
                          refine wp_aload_n (i := 0) dL_areClientsRight_280 rfl rfl ?_
                          refine wp_iload_n (i := 3) dL_areClientsRight_281 rfl rfl ?_
                          refine wp_iload dL_areClientsRight_282 rfl ?_
                          refine wp_iconst (v := 5) dL_areClientsRight_284 rfl ?_
                          refine wp_callV (N := mX5_has) (as := [.int (nI c), .int (nI f), .int (nI 5)]) dL_areClientsRight_285 l_L_25 v_X5_has rfl hR.top.1 rfl (Nat.le_of_ble_eq_true rfl) (s_has h hc hf (p := 5) (by decide)) (fun v hp9 hq => ?_)
                          obtain ⟨rfl, rfl⟩ := hq
                          refine wp_if_eq (tgt := 293) dL_areClientsRight_288 (by decide) (fun c288 => ?_) (fun c288 => ?_)
                          · skip
                            refine wp_iinc (v := nI (f + 1)) dL_areClientsRight_293 rfl (nI_1 _) ?_
                            refine wp_goto (tgt := 81) dL_areClientsRight_296 (by decide) ?_
                            exact ih (12 - (f + 1)) (by omega) (f + 1) rfl (by omega) _ _
                          · skip
                            exact absurd (hT5_0 (hcut (cT6_1.mp (by first | exact c277 | exact Classical.not_not.mp c277)) f hf)) c288
                  · skip
                    refine wp_aload_n (i := 0) dL_areClientsRight_213 rfl rfl ?_
                    refine wp_iload_n (i := 3) dL_areClientsRight_214 rfl rfl ?_
                    refine wp_iload dL_areClientsRight_215 rfl ?_
                    refine wp_iconst (v := 3) dL_areClientsRight_217 rfl ?_
                    refine wp_callV (N := mX5_has) (as := [.int (nI c), .int (nI f), .int (nI 3)]) dL_areClientsRight_218 l_L_25 v_X5_has rfl hR.top.1 rfl (Nat.le_of_ble_eq_true rfl) (s_has h hc hf (p := 3) (by decide)) (fun v hp9 hq => ?_)
                    obtain ⟨rfl, rfl⟩ := hq
                    refine wp_if_ge (tgt := 240) dL_areClientsRight_221 (by decide) (fun c221 => ?_) (fun c221 => ?_)
                    · skip
                      refine wp_iconst (v := 1) dL_areClientsRight_240 rfl ?_
                      refine wp_goto (tgt := 245) dL_areClientsRight_241 (by decide) ?_
                      refine wp_istore dL_areClientsRight_245 (Nat.le_of_ble_eq_true rfl) ?_
                      refine wp_iload dL_areClientsRight_247 rfl ?_
                      refine wp_aload_n (i := 0) dL_areClientsRight_249 rfl rfl ?_
                      refine wp_iload_n (i := 3) dL_areClientsRight_250 rfl rfl ?_
                      refine wp_iload dL_areClientsRight_251 rfl ?_
                      refine wp_iconst (v := 4) dL_areClientsRight_253 rfl ?_
                      refine wp_callV (N := mX5_has) (as := [.int (nI c), .int (nI f), .int (nI 4)]) dL_areClientsRight_254 l_L_25 v_X5_has rfl hR.top.1 rfl (Nat.le_of_ble_eq_true rfl) (s_has h hc hf (p := 4) (by decide)) (fun v hp9 hq => ?_)
                      obtain ⟨rfl, rfl⟩ := hq
                      refine wp_iconst (v := 1) dL_areClientsRight_257 rfl ?_
                      refine wp_icmp_ne (tgt := 265) dL_areClientsRight_258 (by decide) (fun c258 => ?_) (fun c258 => ?_)
                      · skip
                        exact absurd (hT4_1.mpr ⟨hd, Or.inr (Or.inl (Classical.not_not.mp (fun z => c221 (t3.mpr z))).2)⟩) c258
                      · skip
                        refine wp_iconst (v := 1) dL_areClientsRight_261 rfl ?_
                        refine wp_goto (tgt := 266) dL_areClientsRight_262 (by decide) ?_
                        refine wp_icmp_ne (tgt := 291) dL_areClientsRight_266 (by decide) (fun c266 => ?_) (fun c266 => ?_)
                        · skip
                          exact absurd rfl c266
                        · skip
                          refine wp_aload_n (i := 0) dL_areClientsRight_269 rfl rfl ?_
                          refine wp_iload_n (i := 3) dL_areClientsRight_270 rfl rfl ?_
                          refine wp_bipush (v := nI 6) dL_areClientsRight_271 (by decide) ?_
                          refine wp_callV (N := mX5_told) (as := [.int (nI c), .int (nI 6)]) dL_areClientsRight_273 l_L_43 v_X5_told rfl hR.top.1 rfl (Nat.le_of_ble_eq_true rfl) (s_told h hc (p := 6) (by decide)) (fun v hp9 hq => ?_)
                          obtain ⟨rfl, rfl⟩ := hq
                          refine wp_iconst (v := 1) dL_areClientsRight_276 rfl ?_
                          refine wp_icmp_ne (tgt := 293) dL_areClientsRight_277 (by decide) (fun c277 => ?_) (fun c277 => ?_)
                          · skip
                            refine wp_iinc (v := nI (f + 1)) dL_areClientsRight_293 rfl (nI_1 _) ?_
                            refine wp_goto (tgt := 81) dL_areClientsRight_296 (by decide) ?_
                            exact ih (12 - (f + 1)) (by omega) (f + 1) rfl (by omega) _ _
                          · skip
                            refine wp_aload_n (i := 0) dL_areClientsRight_280 rfl rfl ?_
                            refine wp_iload_n (i := 3) dL_areClientsRight_281 rfl rfl ?_
                            refine wp_iload dL_areClientsRight_282 rfl ?_
                            refine wp_iconst (v := 5) dL_areClientsRight_284 rfl ?_
                            refine wp_callV (N := mX5_has) (as := [.int (nI c), .int (nI f), .int (nI 5)]) dL_areClientsRight_285 l_L_25 v_X5_has rfl hR.top.1 rfl (Nat.le_of_ble_eq_true rfl) (s_has h hc hf (p := 5) (by decide)) (fun v hp9 hq => ?_)
                            obtain ⟨rfl, rfl⟩ := hq
                            refine wp_if_eq (tgt := 293) dL_areClientsRight_288 (by decide) (fun c288 => ?_) (fun c288 => ?_)
                            · skip
                              refine wp_iinc (v := nI (f + 1)) dL_areClientsRight_293 rfl (nI_1 _) ?_
                              refine wp_goto (tgt := 81) dL_areClientsRight_296 (by decide) ?_
                              exact ih (12 - (f + 1)) (by omega) (f + 1) rfl (by omega) _ _
                            · skip
                              exact absurd (hT5_0 (hcut (cT6_1.mp (by first | exact c277 | exact Classical.not_not.mp c277)) f hf)) c288
                    · skip
                      refine wp_iload dL_areClientsRight_224 rfl ?_
                      refine wp_if_eq (tgt := 244) dL_areClientsRight_226 (by decide) (fun c226 => ?_) (fun c226 => ?_)
                      · skip
                        exact absurd c226 (by decide)
                      · skip
                        refine wp_aload_n (i := 0) dL_areClientsRight_229 rfl rfl ?_
                        refine wp_iload_n (i := 3) dL_areClientsRight_230 rfl rfl ?_
                        refine wp_bipush (v := nI 6) dL_areClientsRight_231 (by decide) ?_
                        refine wp_callV (N := mX5_told) (as := [.int (nI c), .int (nI 6)]) dL_areClientsRight_233 l_L_43 v_X5_told rfl hR.top.1 rfl (Nat.le_of_ble_eq_true rfl) (s_told h hc (p := 6) (by decide)) (fun v hp9 hq => ?_)
                        obtain ⟨rfl, rfl⟩ := hq
                        refine wp_iconst (v := 1) dL_areClientsRight_236 rfl ?_
                        refine wp_icmp_ne (tgt := 244) dL_areClientsRight_237 (by decide) (fun c237 => ?_) (fun c237 => ?_)
                        · skip
                          refine wp_iconst (v := 0) dL_areClientsRight_244 rfl ?_
                          refine wp_istore dL_areClientsRight_245 (Nat.le_of_ble_eq_true rfl) ?_
                          refine wp_iload dL_areClientsRight_247 rfl ?_
                          refine wp_aload_n (i := 0) dL_areClientsRight_249 rfl rfl ?_
                          refine wp_iload_n (i := 3) dL_areClientsRight_250 rfl rfl ?_
                          refine wp_iload dL_areClientsRight_251 rfl ?_
                          refine wp_iconst (v := 4) dL_areClientsRight_253 rfl ?_
                          refine wp_callV (N := mX5_has) (as := [.int (nI c), .int (nI f), .int (nI 4)]) dL_areClientsRight_254 l_L_25 v_X5_has rfl hR.top.1 rfl (Nat.le_of_ble_eq_true rfl) (s_has h hc hf (p := 4) (by decide)) (fun v hp9 hq => ?_)
                          obtain ⟨rfl, rfl⟩ := hq
                          refine wp_iconst (v := 1) dL_areClientsRight_257 rfl ?_
                          refine wp_icmp_ne (tgt := 265) dL_areClientsRight_258 (by decide) (fun c258 => ?_) (fun c258 => ?_)
                          · skip
                            refine wp_iconst (v := 0) dL_areClientsRight_265 rfl ?_
                            refine wp_icmp_ne (tgt := 291) dL_areClientsRight_266 (by decide) (fun c266 => ?_) (fun c266 => ?_)
                            · skip
                              exact absurd rfl c266
                            · skip
                              refine wp_aload_n (i := 0) dL_areClientsRight_269 rfl rfl ?_
                              refine wp_iload_n (i := 3) dL_areClientsRight_270 rfl rfl ?_
                              refine wp_bipush (v := nI 6) dL_areClientsRight_271 (by decide) ?_
                              refine wp_callV (N := mX5_told) (as := [.int (nI c), .int (nI 6)]) dL_areClientsRight_273 l_L_43 v_X5_told rfl hR.top.1 rfl (Nat.le_of_ble_eq_true rfl) (s_told h hc (p := 6) (by decide)) (fun v hp9 hq => ?_)
                              obtain ⟨rfl, rfl⟩ := hq
                              refine wp_iconst (v := 1) dL_areClientsRight_276 rfl ?_
                              refine wp_icmp_ne (tgt := 293) dL_areClientsRight_277 (by decide) (fun c277 => ?_) (fun c277 => ?_)
                              · skip
                                refine wp_iinc (v := nI (f + 1)) dL_areClientsRight_293 rfl (nI_1 _) ?_
                                refine wp_goto (tgt := 81) dL_areClientsRight_296 (by decide) ?_
                                exact ih (12 - (f + 1)) (by omega) (f + 1) rfl (by omega) _ _
                              · skip
                                refine wp_aload_n (i := 0) dL_areClientsRight_280 rfl rfl ?_
                                refine wp_iload_n (i := 3) dL_areClientsRight_281 rfl rfl ?_
                                refine wp_iload dL_areClientsRight_282 rfl ?_
                                refine wp_iconst (v := 5) dL_areClientsRight_284 rfl ?_
                                refine wp_callV (N := mX5_has) (as := [.int (nI c), .int (nI f), .int (nI 5)]) dL_areClientsRight_285 l_L_25 v_X5_has rfl hR.top.1 rfl (Nat.le_of_ble_eq_true rfl) (s_has h hc hf (p := 5) (by decide)) (fun v hp9 hq => ?_)
                                obtain ⟨rfl, rfl⟩ := hq
                                refine wp_if_eq (tgt := 293) dL_areClientsRight_288 (by decide) (fun c288 => ?_) (fun c288 => ?_)
                                · skip
                                  refine wp_iinc (v := nI (f + 1)) dL_areClientsRight_293 rfl (nI_1 _) ?_
                                  refine wp_goto (tgt := 81) dL_areClientsRight_296 (by decide) ?_
                                  exact ih (12 - (f + 1)) (by omega) (f + 1) rfl (by omega) _ _
                                · skip
                                  exact absurd (hT5_0 (hcut (cT6_1.mp (by first | exact c277 | exact Classical.not_not.mp c277)) f hf)) c288
                          · skip
                            obtain ⟨y1, y2 | y2 | y2⟩ := hT4_1.mp (show hTell M 0 c f 4 (nI clk) (gV M 1 0 c 0 6) = 1 by first | exact c258 | exact Classical.not_not.mp c258)
                            · exact absurd (hT2_1.mpr y2) c210
                            · exact absurd ⟨y1, y2⟩ (t3.mp (by first | exact c221 | exact Classical.not_not.mp c221))
                            · exact absurd (cT6_1.mpr y2) c237
                        · skip
                          refine wp_iconst (v := 1) dL_areClientsRight_240 rfl ?_
                          refine wp_goto (tgt := 245) dL_areClientsRight_241 (by decide) ?_
                          refine wp_istore dL_areClientsRight_245 (Nat.le_of_ble_eq_true rfl) ?_
                          refine wp_iload dL_areClientsRight_247 rfl ?_
                          refine wp_aload_n (i := 0) dL_areClientsRight_249 rfl rfl ?_
                          refine wp_iload_n (i := 3) dL_areClientsRight_250 rfl rfl ?_
                          refine wp_iload dL_areClientsRight_251 rfl ?_
                          refine wp_iconst (v := 4) dL_areClientsRight_253 rfl ?_
                          refine wp_callV (N := mX5_has) (as := [.int (nI c), .int (nI f), .int (nI 4)]) dL_areClientsRight_254 l_L_25 v_X5_has rfl hR.top.1 rfl (Nat.le_of_ble_eq_true rfl) (s_has h hc hf (p := 4) (by decide)) (fun v hp9 hq => ?_)
                          obtain ⟨rfl, rfl⟩ := hq
                          refine wp_iconst (v := 1) dL_areClientsRight_257 rfl ?_
                          refine wp_icmp_ne (tgt := 265) dL_areClientsRight_258 (by decide) (fun c258 => ?_) (fun c258 => ?_)
                          · skip
                            exact absurd (hT4_1.mpr ⟨hd, Or.inr (Or.inr (cT6_1.mp (by first | exact c237 | exact Classical.not_not.mp c237)))⟩) c258
                          · skip
                            refine wp_iconst (v := 1) dL_areClientsRight_261 rfl ?_
                            refine wp_goto (tgt := 266) dL_areClientsRight_262 (by decide) ?_
                            refine wp_icmp_ne (tgt := 291) dL_areClientsRight_266 (by decide) (fun c266 => ?_) (fun c266 => ?_)
                            · skip
                              exact absurd rfl c266
                            · skip
                              refine wp_aload_n (i := 0) dL_areClientsRight_269 rfl rfl ?_
                              refine wp_iload_n (i := 3) dL_areClientsRight_270 rfl rfl ?_
                              refine wp_bipush (v := nI 6) dL_areClientsRight_271 (by decide) ?_
                              refine wp_callV (N := mX5_told) (as := [.int (nI c), .int (nI 6)]) dL_areClientsRight_273 l_L_43 v_X5_told rfl hR.top.1 rfl (Nat.le_of_ble_eq_true rfl) (s_told h hc (p := 6) (by decide)) (fun v hp9 hq => ?_)
                              obtain ⟨rfl, rfl⟩ := hq
                              refine wp_iconst (v := 1) dL_areClientsRight_276 rfl ?_
                              refine wp_icmp_ne (tgt := 293) dL_areClientsRight_277 (by decide) (fun c277 => ?_) (fun c277 => ?_)
                              · skip
                                refine wp_iinc (v := nI (f + 1)) dL_areClientsRight_293 rfl (nI_1 _) ?_
                                refine wp_goto (tgt := 81) dL_areClientsRight_296 (by decide) ?_
                                exact ih (12 - (f + 1)) (by omega) (f + 1) rfl (by omega) _ _
                              · skip
                                refine wp_aload_n (i := 0) dL_areClientsRight_280 rfl rfl ?_
                                refine wp_iload_n (i := 3) dL_areClientsRight_281 rfl rfl ?_
                                refine wp_iload dL_areClientsRight_282 rfl ?_
                                refine wp_iconst (v := 5) dL_areClientsRight_284 rfl ?_
                                refine wp_callV (N := mX5_has) (as := [.int (nI c), .int (nI f), .int (nI 5)]) dL_areClientsRight_285 l_L_25 v_X5_has rfl hR.top.1 rfl (Nat.le_of_ble_eq_true rfl) (s_has h hc hf (p := 5) (by decide)) (fun v hp9 hq => ?_)
                                obtain ⟨rfl, rfl⟩ := hq
                                refine wp_if_eq (tgt := 293) dL_areClientsRight_288 (by decide) (fun c288 => ?_) (fun c288 => ?_)
                                · skip
                                  refine wp_iinc (v := nI (f + 1)) dL_areClientsRight_293 rfl (nI_1 _) ?_
                                  refine wp_goto (tgt := 81) dL_areClientsRight_296 (by decide) ?_
                                  exact ih (12 - (f + 1)) (by omega) (f + 1) rfl (by omega) _ _
                                · skip
                                  exact absurd (hT5_0 (hcut (cT6_1.mp (by first | exact c277 | exact Classical.not_not.mp c277)) f hf)) c288
                · skip
                  have c9 : gV M 4 0 f 0 1 < hTell M 0 c f 1 (nI clk) (gV M 1 0 c 0 6) := c196
                  rw [w1] at c9
                  exact absurd c9 t1'
              · skip
                exact absurd c144 (by decide)
theorem w_cr_2 (h : S0 hp M zB tB clk cc K D ev) (hT : Tr M T cc t nh nm F) (ht : t ≤ 48) (he : e = 0 → ev = false) : ∀ (m c : Nat), cc - c = m → c ≤ cc → ∀ (l4 l5 l6 l7 : Option Value), WP L xs (d + 4) mL_areClientsRight 2 [some (.ref 1), some (.ref T), some (.int e), some (.int (nI c)), l4, l5, l6, l7] [] hp (fun v hp' => retOk mL_areClientsRight.2.2.2 v ∧ hp' = hp ∧ v = some (.int 1)) := by
  have hR := h.1.1
  obtain ⟨b1, b2, b3, b4, b5⟩ := h.1.2.2.1.1
  intro m
  induction m using Nat.strongRecOn with
  | ind m ih =>
    intro c hm hc0 l4 l5 l6 l7
    subst hm
    refine wp_iload_n (i := 3) dL_areClientsRight_2 rfl rfl ?_
    refine wp_aload_n (i := 0) dL_areClientsRight_3 rfl rfl ?_
    refine wp_callV (N := mX5_clients) (as := []) dL_areClientsRight_4 l_L_94 v_X5_clients rfl hR.top.1 rfl (Nat.le_of_ble_eq_true rfl) (s_clients h) (fun v hp9 hq => ?_)
    obtain ⟨rfl, rfl⟩ := hq
    refine wp_icmp_ge (tgt := 328) dL_areClientsRight_7 (by decide) (fun c7 => ?_) (fun c7 => ?_)
    · skip
      have e9 : c = cc := by
        rcases Nat.lt_or_ge c cc with q | q
        · exact absurd (nI_lt q (by omega)) c7
        · omega
      subst e9
      have hst : stA M 0 (nI clk) c ≤ 6 * c := stA_le (fun c' hc' => (h.1.2.2.1.2.1 c' (by omega)).1) (nI clk)
      refine wp_aload_n (i := 0) dL_areClientsRight_328 rfl rfl ?_
      refine wp_callV (N := mX5_stale) (as := []) dL_areClientsRight_329 l_L_105 v_X5_stale rfl hR.top.1 rfl (Nat.le_of_ble_eq_true rfl) (s_stale h) (fun v hp9 hq => ?_)
      obtain ⟨rfl, rfl⟩ := hq
      refine wp_if_lt (tgt := 353) dL_areClientsRight_332 (by decide) (fun c332 => ?_) (fun c332 => ?_)
      · skip
        exact absurd c332 (nI_pos (by omega))
      · skip
        refine wp_aload_n (i := 0) dL_areClientsRight_335 rfl rfl ?_
        refine wp_callV (N := mX5_stale) (as := []) dL_areClientsRight_336 l_L_105 v_X5_stale rfl hR.top.1 rfl (Nat.le_of_ble_eq_true rfl) (s_stale h) (fun v hp9 hq => ?_)
        obtain ⟨rfl, rfl⟩ := hq
        refine wp_bipush (v := nI 6) dL_areClientsRight_339 (by decide) ?_
        refine wp_aload_n (i := 0) dL_areClientsRight_341 rfl rfl ?_
        refine wp_callV (N := mX5_clients) (as := []) dL_areClientsRight_342 l_L_94 v_X5_clients rfl hR.top.1 rfl (Nat.le_of_ble_eq_true rfl) (s_clients h) (fun v hp9 hq => ?_)
        obtain ⟨rfl, rfl⟩ := hq
        refine wp_imul dL_areClientsRight_345 ?_
        rw [show nI 6 * nI c = nI (6 * c) from pk_mul _ _]
        refine wp_icmp_gt (tgt := 353) dL_areClientsRight_346 (by decide) (fun c346 => ?_) (fun c346 => ?_)
        · skip
          exact absurd c346 (nI_nlt hst (by omega))
        · skip
          refine wp_iconst (v := 1) dL_areClientsRight_349 rfl ?_
          refine wp_goto (tgt := 354) dL_areClientsRight_350 (by decide) ?_
          refine wp_ret (v := some (.int _)) dL_areClientsRight_354 rfl ?_
          exact ⟨Or.inr rfl, rfl, rfl⟩
    · skip
      have hc : c < cc := (nI_ltI (by omega) (by omega)).mp c7
      have hc4 : c < 4 := by omega
      obtain ⟨⟨l, hI⟩, -, -, hcut, -, hJ, hlost⟩ := h.1.2.2.1.2.1 c hc4
      obtain ⟨⟨o1, o2, o3, o4⟩, i2, i3, i4, i5⟩ := id hI
      obtain ⟨y1, y2, y3, y4⟩ := hT.1 c hc
      obtain ⟨-, z1, z2⟩ := lk_ok (nh c + nm c) (by omega) (nh c) (by omega)
      refine wp_aload_n (i := 0) dL_areClientsRight_10 rfl rfl ?_
      refine wp_iload_n (i := 3) dL_areClientsRight_11 rfl rfl ?_
      refine wp_iconst (v := 1) dL_areClientsRight_12 rfl ?_
      refine wp_callV (N := mX5_told) (as := [.int (nI c), .int (nI 1)]) dL_areClientsRight_13 l_L_43 v_X5_told rfl hR.top.1 rfl (Nat.le_of_ble_eq_true rfl) (s_told h hc (p := 1) (by decide)) (fun v hp9 hq => ?_)
      obtain ⟨rfl, rfl⟩ := hq
      refine wp_aload_n (i := 0) dL_areClientsRight_16 rfl rfl ?_
      refine wp_iload_n (i := 3) dL_areClientsRight_17 rfl rfl ?_
      refine wp_iconst (v := 2) dL_areClientsRight_18 rfl ?_
      refine wp_callV (N := mX5_told) (as := [.int (nI c), .int (nI 2)]) dL_areClientsRight_19 l_L_43 v_X5_told rfl hR.top.1 rfl (Nat.le_of_ble_eq_true rfl) (s_told h hc (p := 2) (by decide)) (fun v hp9 hq => ?_)
      obtain ⟨rfl, rfl⟩ := hq
      refine wp_iadd dL_areClientsRight_22 ?_
      refine wp_aload_n (i := 1) dL_areClientsRight_23 rfl rfl ?_
      refine wp_iload_n (i := 3) dL_areClientsRight_24 rfl rfl ?_
      refine wx_ld (k := c) dL_areClientsRight_25 hR hT.2 rfl hc (by omega) ?_
      refine wp_icmp_ne (tgt := 73) dL_areClientsRight_26 (by decide) (fun c26 => ?_) (fun c26 => ?_)
      · skip
        have c9 : ¬ gV M 1 0 c 0 7 + gV M 1 0 c 0 8 = F c := c26
        rw [y1, y2, y4, nI_add] at c9
        exact absurd rfl c9
      · skip
        refine wp_aload_n (i := 0) dL_areClientsRight_29 rfl rfl ?_
        refine wp_iload_n (i := 3) dL_areClientsRight_30 rfl rfl ?_
        refine wp_iconst (v := 0) dL_areClientsRight_31 rfl ?_
        refine wp_callV (N := mX5_told) (as := [.int (nI c), .int (nI 0)]) dL_areClientsRight_32 l_L_43 v_X5_told rfl hR.top.1 rfl (Nat.le_of_ble_eq_true rfl) (s_told h hc (p := 0) (by decide)) (fun v hp9 hq => ?_)
        obtain ⟨rfl, rfl⟩ := hq
        refine wp_bipush (v := nI 6) dL_areClientsRight_35 (by decide) ?_
        refine wp_icmp_gt (tgt := 73) dL_areClientsRight_37 (by decide) (fun c37 => ?_) (fun c37 => ?_)
        · skip
          have c9 : nI 6 < gV M 1 0 c 0 2 := c37
          rw [o1] at c9
          exact absurd c9 (nI_nlt (by omega) (by decide))
        · skip
          refine wp_aload_n (i := 0) dL_areClientsRight_40 rfl rfl ?_
          refine wp_iload_n (i := 3) dL_areClientsRight_41 rfl rfl ?_
          refine wp_callV (N := mX5_luck) (as := [.int (nI c)]) dL_areClientsRight_42 l_L_97 v_X5_luck rfl hR.top.1 rfl (Nat.le_of_ble_eq_true rfl) (s_luck h hc y1 y2 (by omega)) (fun v hp9 hq => ?_)
          obtain ⟨rfl, rfl⟩ := hq
          refine wp_dconst0 dL_areClientsRight_45 ?_
          refine wp_dcmp dL_areClientsRight_46 ?_
          refine wp_if_lt (tgt := 73) dL_areClientsRight_47 (by decide) (fun c47 => ?_) (fun c47 => ?_)
          · skip
            exact absurd c47 z1
          · skip
            refine wp_aload_n (i := 0) dL_areClientsRight_50 rfl rfl ?_
            refine wp_iload_n (i := 3) dL_areClientsRight_51 rfl rfl ?_
            refine wp_callV (N := mX5_luck) (as := [.int (nI c)]) dL_areClientsRight_52 l_L_97 v_X5_luck rfl hR.top.1 rfl (Nat.le_of_ble_eq_true rfl) (s_luck h hc y1 y2 (by omega)) (fun v hp9 hq => ?_)
            obtain ⟨rfl, rfl⟩ := hq
            refine wp_dconst1 dL_areClientsRight_55 ?_
            refine wp_dcmp dL_areClientsRight_56 ?_
            refine wp_if_gt (tgt := 73) dL_areClientsRight_57 (by decide) (fun c57 => ?_) (fun c57 => ?_)
            · skip
              exact absurd c57 z2
            · skip
              refine wp_iload_n (i := 2) dL_areClientsRight_60 rfl rfl ?_
              refine wp_if_ne (tgt := 75) dL_areClientsRight_61 (by decide) (fun c61 => ?_) (fun c61 => ?_)
              · skip
                refine wp_iconst (v := 0) dL_areClientsRight_75 rfl ?_
                refine wp_istore dL_areClientsRight_76 (Nat.le_of_ble_eq_true rfl) ?_
                refine wp_iconst (v := 0) dL_areClientsRight_78 rfl ?_
                refine wp_istore dL_areClientsRight_79 (Nat.le_of_ble_eq_true rfl) ?_
                refine w_cr_81 h hc hI (fun l6 l7 => ?_) 12 0 rfl (by decide) _ _
                have hcnt : sN 12 (cI l) = l.length := cnt_len i2 o3
                rw [hcnt]
                refine wp_iload dL_areClientsRight_299 rfl ?_
                refine wp_aload_n (i := 0) dL_areClientsRight_301 rfl rfl ?_
                refine wp_iload_n (i := 3) dL_areClientsRight_302 rfl rfl ?_
                refine wp_iconst (v := 0) dL_areClientsRight_303 rfl ?_
                refine wp_callV (N := mX5_told) (as := [.int (nI c), .int (nI 0)]) dL_areClientsRight_304 l_L_43 v_X5_told rfl hR.top.1 rfl (Nat.le_of_ble_eq_true rfl) (s_told h hc (p := 0) (by decide)) (fun v hp9 hq => ?_)
                obtain ⟨rfl, rfl⟩ := hq
                refine wp_icmp_ne (tgt := 320) dL_areClientsRight_307 (by decide) (fun c307 => ?_) (fun c307 => ?_)
                · skip
                  exact absurd o1.symm c307
                · skip
                  refine wp_aload_n (i := 0) dL_areClientsRight_310 rfl rfl ?_
                  refine wp_iload_n (i := 3) dL_areClientsRight_311 rfl rfl ?_
                  refine wp_iload dL_areClientsRight_312 rfl ?_
                  refine wp_callS (N := mL_areUsedRight) (as := [.ref 1, .int (nI c), .int (nI l.length)]) dL_areClientsRight_314 l_L_101 v_L_areUsedRight rfl rfl (Nat.le_of_ble_eq_true rfl) (s_usedRight h hc hI) (fun v hp9 hq => ?_)
                  obtain ⟨rfl, rfl⟩ := hq
                  refine wp_if_ne (tgt := 322) dL_areClientsRight_317 (by decide) (fun c317 => ?_) (fun c317 => ?_)
                  · skip
                    refine wp_iinc (v := nI (c + 1)) dL_areClientsRight_322 rfl (nI_1 _) ?_
                    refine wp_goto (tgt := 2) dL_areClientsRight_325 (by decide) ?_
                    exact ih (cc - (c + 1)) (by omega) (c + 1) rfl (by omega) _ _ _ _
                  · skip
                    exact absurd c317 (by decide)
              · skip
                refine wp_aload_n (i := 0) dL_areClientsRight_64 rfl rfl ?_
                refine wp_iload_n (i := 3) dL_areClientsRight_65 rfl rfl ?_
                refine wp_iconst (v := 5) dL_areClientsRight_66 rfl ?_
                refine wp_callV (N := mX5_told) (as := [.int (nI c), .int (nI 5)]) dL_areClientsRight_67 l_L_43 v_X5_told rfl hR.top.1 rfl (Nat.le_of_ble_eq_true rfl) (s_told h hc (p := 5) (by decide)) (fun v hp9 hq => ?_)
                obtain ⟨rfl, rfl⟩ := hq
                refine wp_if_eq (tgt := 75) dL_areClientsRight_70 (by decide) (fun c70 => ?_) (fun c70 => ?_)
                · skip
                  refine wp_iconst (v := 0) dL_areClientsRight_75 rfl ?_
                  refine wp_istore dL_areClientsRight_76 (Nat.le_of_ble_eq_true rfl) ?_
                  refine wp_iconst (v := 0) dL_areClientsRight_78 rfl ?_
                  refine wp_istore dL_areClientsRight_79 (Nat.le_of_ble_eq_true rfl) ?_
                  refine w_cr_81 h hc hI (fun l6 l7 => ?_) 12 0 rfl (by decide) _ _
                  have hcnt : sN 12 (cI l) = l.length := cnt_len i2 o3
                  rw [hcnt]
                  refine wp_iload dL_areClientsRight_299 rfl ?_
                  refine wp_aload_n (i := 0) dL_areClientsRight_301 rfl rfl ?_
                  refine wp_iload_n (i := 3) dL_areClientsRight_302 rfl rfl ?_
                  refine wp_iconst (v := 0) dL_areClientsRight_303 rfl ?_
                  refine wp_callV (N := mX5_told) (as := [.int (nI c), .int (nI 0)]) dL_areClientsRight_304 l_L_43 v_X5_told rfl hR.top.1 rfl (Nat.le_of_ble_eq_true rfl) (s_told h hc (p := 0) (by decide)) (fun v hp9 hq => ?_)
                  obtain ⟨rfl, rfl⟩ := hq
                  refine wp_icmp_ne (tgt := 320) dL_areClientsRight_307 (by decide) (fun c307 => ?_) (fun c307 => ?_)
                  · skip
                    exact absurd o1.symm c307
                  · skip
                    refine wp_aload_n (i := 0) dL_areClientsRight_310 rfl rfl ?_
                    refine wp_iload_n (i := 3) dL_areClientsRight_311 rfl rfl ?_
                    refine wp_iload dL_areClientsRight_312 rfl ?_
                    refine wp_callS (N := mL_areUsedRight) (as := [.ref 1, .int (nI c), .int (nI l.length)]) dL_areClientsRight_314 l_L_101 v_L_areUsedRight rfl rfl (Nat.le_of_ble_eq_true rfl) (s_usedRight h hc hI) (fun v hp9 hq => ?_)
                    obtain ⟨rfl, rfl⟩ := hq
                    refine wp_if_ne (tgt := 322) dL_areClientsRight_317 (by decide) (fun c317 => ?_) (fun c317 => ?_)
                    · skip
                      refine wp_iinc (v := nI (c + 1)) dL_areClientsRight_322 rfl (nI_1 _) ?_
                      refine wp_goto (tgt := 2) dL_areClientsRight_325 (by decide) ?_
                      exact ih (cc - (c + 1)) (by omega) (c + 1) rfl (by omega) _ _ _ _
                    · skip
                      exact absurd c317 (by decide)
                · skip
                  exact absurd (hlost (he (by first | exact c61 | exact Classical.not_not.mp c61))).2 c70
/-- what it asks of the clients -/
theorem s_clientsRight (h : S0 hp M zB tB clk cc K D ev) (hT : Tr M T cc t nh nm F) (ht : t ≤ 48) (he : e = 0 → ev = false) : WM L xs (d + 4) mL_areClientsRight [.ref 1, .ref T, .int e] hp (fun v hp' => hp' = hp ∧ v = some (.int 1)) := by
  refine WM.of [some (.ref 1), some (.ref T), some (.int e), none, none, none, none, none] (by decide) rfl (Nat.le_of_ble_eq_true rfl) ?_
  refine wp_iconst (v := 0) dL_areClientsRight_0 rfl ?_
  refine wp_istore_n (i := 3) dL_areClientsRight_1 rfl (Nat.le_of_ble_eq_true rfl) ?_
  exact w_cr_2 h hT ht he cc 0 rfl (Nat.zero_le _) _ _ _ _
end LAW3
