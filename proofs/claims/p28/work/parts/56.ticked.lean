/-! ===== the law: tick by tick ===== -/
/-- what ticks leave of the law's own -/
def TK (M M' : MS) : Prop := (∀ c, c < 4 → gV M' 1 0 c 0 7 = gV M 1 0 c 0 7 ∧ gV M' 1 0 c 0 8 = gV M 1 0 c 0 8) ∧ ∀ i x, gX M i = some x → gX M' i = some x
theorem TK.rfl' (M : MS) : TK M M := ⟨fun _ _ => ⟨rfl, rfl⟩, fun _ _ h => h⟩
theorem TK.trans {M M' M'' : MS} (h : TK M M') (h' : TK M' M'') : TK M M'' := ⟨fun c hc => ⟨(h'.1 c hc).1.trans (h.1 c hc).1, (h'.1 c hc).2.trans (h.1 c hc).2⟩, fun i x hx => h'.2 i x (h.2 i x hx)⟩
/-- two arrays a, b are filled -/
def SX (M M' : MS) (a b : Nat) : Prop := (∀ g n x y k, gV M' g n x y k = gV M g n x y k) ∧ mz M' = mz M ∧ ∀ i, i ≠ a → i ≠ b → gX M' i = gX M i
section LAW2
variable {L : Nat} {xs : Nat → Int32} {d : Nat} {hp : AH} {M M1 Mz : MS} {zB tB clk cc K a b q k : Nat} {D : Nat → Nat} {ev : Bool} {Q : Option Value → AH → Prop} {FA FB : Nat → Int32}
theorem vr_bd (h : S0 hp M zB tB clk cc K D ev) {f : Nat} (hf : f < 12) : gV M 4 0 f 0 1 = nI (vrs M 0 f) ∧ vrs M 0 f < 2 ^ 31 := by
  have hb := h.1.2.2.1.1.1
  have h9 : vrs M 0 f + RQ M 0 + _ ≤ 1248 * (clk + 1) + 0 := h.1.2.2.2.2.2.2.1 f hf
  exact ⟨(h.1.2.2.1.2.2.1 f hf).2.1, by omega⟩
theorem w_it_91 (h : S0 hp M zB tB (clk + 1) cc K D ev) (hv : ∀ f, f < 12 → gV M1 4 0 f 0 1 = nI (vrs M1 0 f) ∧ vrs M1 0 f < 2 ^ 31) (hF : FV M1 M 0) (ha : gX M a = some (12, FA)) (hb : gX M b = some (12, FB)) (hA : ∀ f, f < 12 → FA f = gV M1 4 0 f 0 1) (hB : ∀ f, f < 12 → FB f = gV M1 4 0 f 0 0) (kk : WP L xs (d + 8) mL_isTicked 151 [some (.ref 1), some (.int (nI q)), some (.int (nI k)), some (.int (nI clk)), some (.ref a), some (.ref b), some (.int (nI 12))] [] hp Q) (hQ : True) : ∀ (m f : Nat), 12 - f = m → f ≤ 12 → WP L xs (d + 8) mL_isTicked 91 [some (.ref 1), some (.int (nI q)), some (.int (nI k)), some (.int (nI clk)), some (.ref a), some (.ref b), some (.int (nI f))] [] hp Q := by
  have hR := h.1.1
  obtain ⟨b1, b2, b3, b4, b5⟩ := h.1.2.2.1.1
  intro m
  induction m using Nat.strongRecOn with
  | ind m ih =>
    intro f hm hf0
    subst hm
    refine wp_iload dL_isTicked_91 rfl ?_
    refine wp_bipush (v := nI 12) dL_isTicked_93 (by decide) ?_
    refine wp_icmp_ge (tgt := 151) dL_isTicked_95 (by decide) (fun c95 => ?_) (fun c95 => ?_)
    · skip
      have e9 : f = 12 := by
        rcases Nat.lt_or_ge f 12 with q | q
        · exact absurd (nI_lt q (by decide)) c95
        · omega
      subst e9
      exact kk
    · skip
      have hf : f < 12 := (nI_ltI (by omega) (by decide)).mp c95
      obtain ⟨w1, w2⟩ := vr_bd h hf
      obtain ⟨w3, w4⟩ := hv f hf
      obtain ⟨w5, w6⟩ := hF f hf
      refine wp_aload_n (i := 0) dL_isTicked_98 rfl rfl ?_
      refine wp_iload dL_isTicked_99 rfl ?_
      refine wp_iconst (v := 1) dL_isTicked_101 rfl ?_
      refine wp_callV (N := mX5_server) (as := [.int (nI f), .int (nI 1)]) dL_isTicked_102 l_L_85 v_X5_server rfl hR.top.1 rfl (Nat.le_of_ble_eq_true rfl) (s_server h hf (p := 1) (by decide)) (fun v hp9 hq => ?_)
      obtain ⟨rfl, rfl⟩ := hq
      refine wp_aload dL_isTicked_105 rfl ?_
      refine wp_iload dL_isTicked_107 rfl ?_
      refine wx_ld (k := f) dL_isTicked_109 hR ha rfl hf (by decide) ?_
      rw [hA f hf]
      refine wp_icmp_lt (tgt := 143) dL_isTicked_110 (by decide) (fun c110 => ?_) (fun c110 => ?_)
      · skip
        have c : gV M 4 0 f 0 1 < gV M1 4 0 f 0 1 := c110
        rw [w1, w3] at c
        exact absurd c (nI_nlt w5 w2)
      · skip
        refine wp_aload_n (i := 0) dL_isTicked_113 rfl rfl ?_
        refine wp_iload dL_isTicked_114 rfl ?_
        refine wp_iconst (v := 1) dL_isTicked_116 rfl ?_
        refine wp_callV (N := mX5_server) (as := [.int (nI f), .int (nI 1)]) dL_isTicked_117 l_L_85 v_X5_server rfl hR.top.1 rfl (Nat.le_of_ble_eq_true rfl) (s_server h hf (p := 1) (by decide)) (fun v hp9 hq => ?_)
        obtain ⟨rfl, rfl⟩ := hq
        refine wp_aload dL_isTicked_120 rfl ?_
        refine wp_iload dL_isTicked_122 rfl ?_
        refine wx_ld (k := f) dL_isTicked_124 hR ha rfl hf (by decide) ?_
        rw [hA f hf]
        refine wp_icmp_ne (tgt := 145) dL_isTicked_125 (by decide) (fun c125 => ?_) (fun c125 => ?_)
        · skip
          refine wp_iinc (v := nI (f + 1)) dL_isTicked_145 rfl (nI_1 _) ?_
          refine wp_goto (tgt := 91) dL_isTicked_148 (by decide) ?_
          exact ih (12 - (f + 1)) (by omega) (f + 1) rfl (by omega)
        · skip
          refine wp_aload_n (i := 0) dL_isTicked_128 rfl rfl ?_
          refine wp_iload dL_isTicked_129 rfl ?_
          refine wp_iconst (v := 0) dL_isTicked_131 rfl ?_
          refine wp_callV (N := mX5_server) (as := [.int (nI f), .int (nI 0)]) dL_isTicked_132 l_L_85 v_X5_server rfl hR.top.1 rfl (Nat.le_of_ble_eq_true rfl) (s_server h hf (p := 0) (by decide)) (fun v hp9 hq => ?_)
          obtain ⟨rfl, rfl⟩ := hq
          refine wp_aload dL_isTicked_135 rfl ?_
          refine wp_iload dL_isTicked_137 rfl ?_
          refine wx_ld (k := f) dL_isTicked_139 hR hb rfl hf (by decide) ?_
          rw [hB f hf]
          refine wp_icmp_eq (tgt := 145) dL_isTicked_140 (by decide) (fun c140 => ?_) (fun c140 => ?_)
          · skip
            refine wp_iinc (v := nI (f + 1)) dL_isTicked_145 rfl (nI_1 _) ?_
            refine wp_goto (tgt := 91) dL_isTicked_148 (by decide) ?_
            exact ih (12 - (f + 1)) (by omega) (f + 1) rfl (by omega)
          · skip
            have c : gV M 4 0 f 0 1 = gV M1 4 0 f 0 1 := by first | exact c125 | exact Classical.not_not.mp c125
            rw [w1, w3] at c
            exact absurd (w6 ((nI_eq w2 w4).mp c)) c140
theorem w_it_27 (hab : a ≠ b) (kk : ∀ (hp : AH) (M : MS) (FA FB : Nat → Int32), S0 hp M zB tB clk cc K D ev → SX M1 M a b → gX M a = some (12, FA) → gX M b = some (12, FB) → (∀ f, f < 12 → FA f = gV M 4 0 f 0 1) → (∀ f, f < 12 → FB f = gV M 4 0 f 0 0) → WP L xs (d + 8) mL_isTicked 64 [some (.ref 1), some (.int (nI q)), some (.int (nI k)), some (.int (nI clk)), some (.ref a), some (.ref b), some (.int (nI 12))] [] hp Q) : ∀ (m f : Nat), 12 - f = m → f ≤ 12 → ∀ (hp : AH) (M : MS) (FA FB : Nat → Int32), S0 hp M zB tB clk cc K D ev → SX M1 M a b → gX M a = some (12, FA) → gX M b = some (12, FB) → (∀ g, g < f → FA g = gV M 4 0 g 0 1) → (∀ g, g < f → FB g = gV M 4 0 g 0 0) → WP L xs (d + 8) mL_isTicked 27 [some (.ref 1), some (.int (nI q)), some (.int (nI k)), some (.int (nI clk)), some (.ref a), some (.ref b), some (.int (nI f))] [] hp Q := by
  intro m
  induction m using Nat.strongRecOn with
  | ind m ih =>
    intro f hm hf0 hp M FA FB h hX ha hb hA hB
    have hR := h.1.1
    subst hm
    refine wp_iload dL_isTicked_27 rfl ?_
    refine wp_bipush (v := nI 12) dL_isTicked_29 (by decide) ?_
    refine wp_icmp_ge (tgt := 64) dL_isTicked_31 (by decide) (fun c31 => ?_) (fun c31 => ?_)
    · skip
      have e9 : f = 12 := by
        rcases Nat.lt_or_ge f 12 with q | q
        · exact absurd (nI_lt q (by decide)) c31
        · omega
      subst e9
      exact kk hp M FA FB h hX ha hb hA hB
    · skip
      have hf : f < 12 := (nI_ltI (by omega) (by decide)).mp c31
      refine wp_aload dL_isTicked_34 rfl ?_
      refine wp_iload dL_isTicked_36 rfl ?_
      refine wp_aload_n (i := 0) dL_isTicked_38 rfl rfl ?_
      refine wp_iload dL_isTicked_39 rfl ?_
      refine wp_iconst (v := 1) dL_isTicked_41 rfl ?_
      refine wp_callV (N := mX5_server) (as := [.int (nI f), .int (nI 1)]) dL_isTicked_42 l_L_85 v_X5_server rfl hR.top.1 rfl (Nat.le_of_ble_eq_true rfl) (s_server h hf (p := 1) (by decide)) (fun v hp9 hq => ?_)
      obtain ⟨rfl, rfl⟩ := hq
      refine wx_st (k := f) dL_isTicked_45 hR ha rfl hf (by decide) ?_
      have h1 := h.setX ha f (shTell M 0 f 1 (nI clk))
      have hR1 := h1.1.1
      have ha1 : gX (sX M a f (shTell M 0 f 1 (nI clk))) a = some (12, fun l => if l = f then shTell M 0 f 1 (nI clk) else FA l) := by rw [gX_sX, if_pos rfl, ha]; rfl
      have hb1 : gX (sX M a f (shTell M 0 f 1 (nI clk))) b = some (12, FB) := by rw [gX_sX, if_neg (fun q => hab q.symm)]; exact hb
      refine wp_aload dL_isTicked_46 rfl ?_
      refine wp_iload dL_isTicked_48 rfl ?_
      refine wp_aload_n (i := 0) dL_isTicked_50 rfl rfl ?_
      refine wp_iload dL_isTicked_51 rfl ?_
      refine wp_iconst (v := 0) dL_isTicked_53 rfl ?_
      refine wp_callV (N := mX5_server) (as := [.int (nI f), .int (nI 0)]) dL_isTicked_54 l_L_85 v_X5_server rfl hR1.top.1 rfl (Nat.le_of_ble_eq_true rfl) (s_server h1 hf (p := 0) (by decide)) (fun v hp9 hq => ?_)
      obtain ⟨rfl, rfl⟩ := hq
      refine wx_st (k := f) dL_isTicked_57 hR1 hb1 rfl hf (by decide) ?_
      have h2 := h1.setX hb1 f (shTell (sX M a f (shTell M 0 f 1 (nI clk))) 0 f 0 (nI clk))
      refine wp_iinc (v := nI (f + 1)) dL_isTicked_58 rfl (nI_1 _) ?_
      refine wp_goto (tgt := 27) dL_isTicked_61 (by decide) ?_
      refine ih (12 - (f + 1)) (by omega) (f + 1) rfl (by omega) _ _ _ _ h2 ⟨fun g n x y k => hX.1 g n x y k, hX.2.1, fun i z1 z2 => ?_⟩ (by rw [gX_sX, if_neg hab]; exact ha1) (by rw [gX_sX, if_pos rfl, hb1]; rfl) (fun g hg => ?_) (fun g hg => ?_)
      · rw [gX_sX, if_neg z2, gX_sX, if_neg z1]; exact hX.2.2 i z1 z2
      · show (if g = f then gV M 4 0 f 0 1 else FA g) = gV M 4 0 g 0 1
        by_cases e : g = f
        · rw [if_pos e, e]
        · rw [if_neg e]; exact hA g (by omega)
      · show (if g = f then gV M 4 0 f 0 0 else FB g) = gV M 4 0 g 0 0
        by_cases e : g = f
        · rw [if_pos e, e]
        · rw [if_neg e]; exact hB g (by omega)
theorem w_it_2 (hbd : clk + q < 1000) : ∀ (m k : Nat), q - k = m → k ≤ q → ∀ (hp : AH) (M : MS), S0 hp M (zB + 2 * k) (tB + 24 * k) (clk + k) cc K D ev → TK Mz M → ∀ (l3 l4 l5 l6 : Option Value), WP L xs (d + 8) mL_isTicked 2 [some (.ref 1), some (.int (nI q)), some (.int (nI k)), l3, l4, l5, l6] [] hp (fun v hp' => retOk mL_isTicked.2.2.2 v ∧ v = some (.int 1) ∧ ∃ M', S0 hp' M' (zB + 2 * q) (tB + 24 * q) (clk + q) cc K D ev ∧ TK Mz M') := by
  intro m
  induction m using Nat.strongRecOn with
  | ind m ih =>
    intro k hm hk0 hp M h hT l3 l4 l5 l6
    have hR := h.1.1
    subst hm
    refine wp_iload_n (i := 2) dL_isTicked_2 rfl rfl ?_
    refine wp_iload_n (i := 1) dL_isTicked_3 rfl rfl ?_
    refine wp_icmp_ge (tgt := 157) dL_isTicked_4 (by decide) (fun c4 => ?_) (fun c4 => ?_)
    · skip
      have e9 : k = q := by
        rcases Nat.lt_or_ge k q with z | z
        · exact absurd (nI_lt z (by omega)) c4
        · omega
      subst e9
      refine wp_iconst (v := 1) dL_isTicked_157 rfl ?_
      refine wp_ret (v := some (.int _)) dL_isTicked_158 rfl ?_
      exact ⟨Or.inr rfl, rfl, M, h, hT⟩
    · skip
      have hkq : k < q := (nI_ltI (by omega) (by omega)).mp c4
      refine wp_aload_n (i := 0) dL_isTicked_7 rfl rfl ?_
      refine wp_callV (N := mX5_clock) (as := []) dL_isTicked_8 l_L_81 v_X5_clock rfl hR.top.1 rfl (Nat.le_of_ble_eq_true rfl) (s_clock h) (fun v hp9 hq => ?_)
      obtain ⟨rfl, rfl⟩ := hq
      refine wp_istore_n (i := 3) dL_isTicked_11 rfl (Nat.le_of_ble_eq_true rfl) ?_
      refine wp_bipush (v := nI 12) dL_isTicked_12 (by decide) ?_
      refine wp_newI (n := 12) dL_isTicked_14 arrI_in rfl (by decide) ?_
      refine wp_astore dL_isTicked_16 (Nat.le_of_ble_eq_true rfl) ?_
      refine wp_bipush (v := nI 12) dL_isTicked_18 (by decide) ?_
      refine wp_newI (n := 12) dL_isTicked_20 arrI_in rfl (by decide) ?_
      refine wp_astore dL_isTicked_22 (Nat.le_of_ble_eq_true rfl) ?_
      refine wp_iconst (v := 0) dL_isTicked_24 rfl ?_
      refine wp_istore dL_isTicked_25 (Nat.le_of_ble_eq_true rfl) ?_
      have hR9 := hR
      have hz : hsz hp9 = mz M := hR.2.1
      have h1 := h.newX 12
      have h2 := h1.newX 12
      have ea : ∃ a9, a9 = hsz hp9 + 1 := ⟨_, rfl⟩
      obtain ⟨a9, ea⟩ := ea
      have eb : ∃ b9, b9 = hsz (hnew hp9 6 12 (fun _ => .int 0)) + 1 := ⟨_, rfl⟩
      obtain ⟨b9, eb⟩ := eb
      have eb' : b9 = mz M + 1 + 1 := by rw [eb, hsz_new, hz]
      rw [← ea, ← eb]
      have ha : gX (nX (nX M 12) 12) a9 = some (12, fun _ => 0) := by rw [gX_nX, if_neg (by show ¬ a9 = mz M + 1 + 1; omega), gX_nX, if_pos (by omega)]
      have hb : gX (nX (nX M 12) 12) b9 = some (12, fun _ => 0) := by rw [gX_nX, if_pos (by show b9 = mz M + 1 + 1; omega)]
      refine w_it_27 (clk := clk + k) (by omega) (fun hp3 M3 FA3 FB3 h3 hX3 ha3 hb3 hA3 hB3 => ?_) 12 0 rfl (by decide) _ _ _ _ h2 (show SX (nX (nX M 12) 12) _ a9 b9 from ⟨fun _ _ _ _ _ => rfl, rfl, fun _ _ _ => rfl⟩) ha hb (fun g hg => absurd hg (Nat.not_lt_zero _)) (fun g hg => absurd hg (Nat.not_lt_zero _))
      have hR3 := h3.1.1
      refine wp_aload_n (i := 0) dL_isTicked_64 rfl rfl ?_
      refine wp_iconst (v := 1) dL_isTicked_65 rfl ?_
      refine wp_callV (N := mX5_tick) (as := [.int (nI 1)]) dL_isTicked_66 l_L_88 v_X5_tick rfl hR3.top.1 rfl (Nat.le_of_ble_eq_true rfl) (s_tick h3 (by omega)) (fun v hp4 hq => ?_)
      obtain ⟨M4, h4, hF4, rfl⟩ := hq
      have hR4 := h4.1.1
      refine wp_aload_n (i := 0) dL_isTicked_69 rfl rfl ?_
      refine wp_callV (N := mX5_onTheWay) (as := []) dL_isTicked_70 l_L_91 v_X5_onTheWay rfl hR4.top.1 rfl (Nat.le_of_ble_eq_true rfl) (s_onTheWay h4) (fun v hp9 hq => ?_)
      obtain ⟨rfl, rfl⟩ := hq
      refine wp_icmp_ne (tgt := 86) dL_isTicked_73 (by decide) (fun c73 => ?_) (fun c73 => ?_)
      · skip
        exact absurd rfl c73
      · skip
        refine wp_aload_n (i := 0) dL_isTicked_76 rfl rfl ?_
        refine wp_callV (N := mX5_clock) (as := []) dL_isTicked_77 l_L_81 v_X5_clock rfl hR4.top.1 rfl (Nat.le_of_ble_eq_true rfl) (s_clock h4) (fun v hp9 hq => ?_)
        obtain ⟨rfl, rfl⟩ := hq
        refine wp_iload_n (i := 3) dL_isTicked_80 rfl rfl ?_
        refine wp_iconst (v := 1) dL_isTicked_81 rfl ?_
        refine wp_iadd dL_isTicked_82 ?_
        refine wp_icmp_eq (tgt := 88) dL_isTicked_83 (by decide) (fun c83 => ?_) (fun c83 => ?_)
        · skip
          refine wp_iconst (v := 0) dL_isTicked_88 rfl ?_
          refine wp_istore dL_isTicked_89 (Nat.le_of_ble_eq_true rfl) ?_
          have ga : gX M4 a9 = some (12, FA3) := by rw [hF4.1.2.2]; exact ha3
          have gb : gX M4 b9 = some (12, FB3) := by rw [hF4.1.2.2]; exact hb3
          refine w_it_91 (M1 := M3) h4 (fun f hf => vr_bd h3 hf) hF4.2.2 ga gb hA3 hB3 ?_ trivial 12 0 rfl (by decide)
          refine wp_iinc (v := nI (k + 1)) dL_isTicked_151 rfl (nI_1 _) ?_
          refine wp_goto (tgt := 2) dL_isTicked_154 (by decide) ?_
          refine ih (q - (k + 1)) (by omega) (k + 1) rfl (by omega) _ M4 h4 (hT.trans ⟨fun c hc => ⟨(hF4.2.1 c hc).1.trans (hX3.1 _ _ _ _ _), (hF4.2.1 c hc).2.1.trans (hX3.1 _ _ _ _ _)⟩, fun i x hx => ?_⟩) _ _ _ _
          have hil := (hR9.xlt hx).2
          rw [hF4.1.2.2, hX3.2.2 i (by omega) (by omega), gX_nX, if_neg (by show ¬ i = mz M + 1 + 1; omega), gX_nX, if_neg (by omega)]
          exact hx
        · skip
          exact absurd (nI_1 (clk + k)).symm c83
/-- some ticks -/
theorem s_isTicked (h : S0 hp M zB tB clk cc K D ev) (hq : q ≤ 60) (hbd : clk + q < 1000) : WM L xs (d + 8) mL_isTicked [.ref 1, .int (nI q)] hp (fun v hp' => v = some (.int 1) ∧ ∃ M', S0 hp' M' (zB + 2 * q) (tB + 24 * q) (clk + q) cc K D ev ∧ TK M M') := by
  refine WM.of [some (.ref 1), some (.int (nI q)), none, none, none, none, none] (by decide) rfl (Nat.le_of_ble_eq_true rfl) ?_
  refine wp_iconst (v := nI 0) dL_isTicked_0 (by decide) ?_
  refine wp_istore_n (i := 2) dL_isTicked_1 rfl (Nat.le_of_ble_eq_true rfl) ?_
  exact w_it_2 hbd q 0 rfl (Nat.zero_le _) hp M h (TK.rfl' M) _ _ _ _
end LAW2
