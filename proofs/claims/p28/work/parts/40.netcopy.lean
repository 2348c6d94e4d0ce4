/-! ===== copies, III: a net ===== -/
def PN (i f : Nat) : Nat → Nat → Nat → Nat → Prop := fun g a b k => (g = 0 ∧ a = 0 ∧ b = 0 ∧ k < 5) ∨ (a < i ∧ ((g = 2 ∧ b < 12 ∧ k < 8) ∨ (g = 3 ∧ b = 0 ∧ k < 12) ∨ (g = 1 ∧ b = 0 ∧ (k = 2 ∨ (4 ≤ k ∧ k < 12))))) ∨ (a < f ∧ b = 0 ∧ ((g = 4 ∧ (k < 2 ∨ k = 4)) ∨ (g = 5 ∧ k < 4)))
def QN (i f t : Nat) : Nat → Nat → Prop := fun y a => (y = 0 ∧ a < i) ∨ (y = 1 ∧ a < f) ∨ (y = 2 ∧ a < t)
theorem PN_c (i f g a b k : Nat) : PN (i + 1) f g a b k ↔ PN i f g a b k ∨ PC i g a b k := by
  unfold PN PC
  generalize ((g = 2 ∧ b < 12 ∧ k < 8) ∨ (g = 3 ∧ b = 0 ∧ k < 12) ∨ (g = 1 ∧ b = 0 ∧ (k = 2 ∨ (4 ≤ k ∧ k < 12)))) = X
  generalize (g = 0 ∧ a = 0 ∧ b = 0 ∧ k < 5) = Y
  generalize (a < f ∧ b = 0 ∧ ((g = 4 ∧ (k < 2 ∨ k = 4)) ∨ (g = 5 ∧ k < 4))) = Z
  constructor
  · rintro (h | ⟨h, x⟩ | h)
    · exact Or.inl (Or.inl h)
    · rcases Nat.lt_or_ge a i with q | q
      · exact Or.inl (Or.inr (Or.inl ⟨q, x⟩))
      · exact Or.inr ⟨by omega, x⟩
    · exact Or.inl (Or.inr (Or.inr h))
  · rintro ((h | ⟨h, x⟩ | h) | ⟨h, x⟩)
    · exact Or.inl h
    · exact Or.inr (Or.inl ⟨by omega, x⟩)
    · exact Or.inr (Or.inr h)
    · exact Or.inr (Or.inl ⟨by omega, x⟩)
theorem PN_s (i f g a b k : Nat) : PN i (f + 1) g a b k ↔ PN i f g a b k ∨ PS f g a b k := by
  unfold PN PS
  generalize ((g = 2 ∧ b < 12 ∧ k < 8) ∨ (g = 3 ∧ b = 0 ∧ k < 12) ∨ (g = 1 ∧ b = 0 ∧ (k = 2 ∨ (4 ≤ k ∧ k < 12)))) = X
  generalize (g = 0 ∧ a = 0 ∧ b = 0 ∧ k < 5) = Y
  generalize ((g = 4 ∧ (k < 2 ∨ k = 4)) ∨ (g = 5 ∧ k < 4)) = Z
  constructor
  · rintro (h | h | ⟨h, h0, x⟩)
    · exact Or.inl (Or.inl h)
    · exact Or.inl (Or.inr (Or.inl h))
    · rcases Nat.lt_or_ge a f with q | q
      · exact Or.inl (Or.inr (Or.inr ⟨q, h0, x⟩))
      · exact Or.inr ⟨by omega, h0, x⟩
  · rintro ((h | h | ⟨h, h0, x⟩) | ⟨h, h0, x⟩)
    · exact Or.inl h
    · exact Or.inr (Or.inl h)
    · exact Or.inr (Or.inr ⟨by omega, h0, x⟩)
    · exact Or.inr (Or.inr ⟨by omega, h0, x⟩)
theorem PN_0 (g a b k : Nat) : PN 0 0 g a b k ↔ (g = 0 ∧ a = 0 ∧ b = 0 ∧ k < 5) := by
  unfold PN
  constructor
  · rintro (h | ⟨h, -⟩ | ⟨h, -⟩)
    · exact h
    · exact absurd h (Nat.not_lt_zero _)
    · exact absurd h (Nat.not_lt_zero _)
  · exact Or.inl
theorem QN_0 (y a : Nat) : QN 0 0 0 y a ↔ False ∨ False := by
  unfold QN
  constructor
  · rintro (⟨-, h⟩ | ⟨-, h⟩ | ⟨-, h⟩) <;> exact absurd h (Nat.not_lt_zero _)
  · rintro (h | h) <;> exact h.elim
section COPY3
variable {L : Nat} {xs : Nat → Int32} {d : Nat} {hp : AH} {M : MS} {n n' c f : Nat}
theorem w_nc_99 (hn : n < 2) (hn' : n' < 2) (hne : n' ≠ n) {M0 : MS} : ∀ (m i : Nat), 9 - i = m → i ≤ 9 → ∀ (hp : AH) (M : MS), Rep hp M → CP n n' (PN 4 12) (QN 4 12 i) M0 M → WP L xs (d + 3) mX2_copyFrom 99 [some (.ref (xi 0 n 0 0)), some (.ref (xi 0 n' 0 0)), some (.int (nI i))] [] hp (fun v hp' => retOk mX2_copyFrom.2.2.2 v ∧ v = none ∧ ∃ M', Rep hp' M' ∧ CP n n' (PN 4 12) (QN 4 12 9) M0 M') := by
  intro m
  induction m using Nat.strongRecOn with
  | ind m ih =>
    intro i hm hi0 hp M hR hM
    subst hm
    refine wp_iload_n (i := 2) dX2_copyFrom_99 rfl rfl ?_
    refine wp_bipush (v := nI 9) dX2_copyFrom_100 (by decide) ?_
    refine wp_icmp_ge (tgt := 126) dX2_copyFrom_102 (by decide) (fun c102 => ?_) (fun c102 => ?_)
    · skip
      have e9 : i = 9 := by
        rcases Nat.lt_or_ge i 9 with q | q
        · exact absurd (nI_lt q (by decide)) c102
        · omega
      subst e9
      refine wp_ret (v := none) dX2_copyFrom_126 rfl ?_
      exact ⟨trivial, rfl, _, hR, hM⟩
    · skip
      have hi9 : i < 9 := (nI_ltI (by omega) (by decide)).mp c102
      refine wp_aload_n (i := 0) dX2_copyFrom_105 rfl rfl ?_
      refine wr_netR (j := rT n) dX2_copyFrom_106 hR f_X2_35 hn (Or.inr (Or.inr ⟨rfl, rfl⟩)) ?_
      refine wp_iload_n (i := 2) dX2_copyFrom_109 rfl rfl ?_
      refine wr_aT (k := i) dX2_copyFrom_110 hR rfl hn hi9 ?_
      refine wp_aload_n (i := 1) dX2_copyFrom_111 rfl rfl ?_
      refine wr_netR (j := rT n') dX2_copyFrom_112 hR f_X2_35 hn' (Or.inr (Or.inr ⟨rfl, rfl⟩)) ?_
      refine wp_iload_n (i := 2) dX2_copyFrom_115 rfl rfl ?_
      refine wr_aT (k := i) dX2_copyFrom_116 hR rfl hn' hi9 ?_
      refine wp_callV (N := mX4_copyFrom) (as := [.ref (xt 2 n' i)]) dX2_copyFrom_117 l_X2_218 v_X4_copyFrom rfl (hR.oT (vt2 hn hi9)) rfl (by decide) (s_tabCopy hR (vt2 hn hi9) (vt2 hn' hi9) (fun q => hne q.1)) (fun v hp8 hq => ?_)
      obtain ⟨rfl, hR8⟩ := hq
      have hT8 := CP.tab (n := n) (n' := n') hR (vt2 hn hi9) (vt2 hn' hi9)
      refine wp_iinc (v := nI (i + 1)) dX2_copyFrom_120 rfl (nI_1 _) ?_
      refine wp_goto (tgt := 99) dX2_copyFrom_123 (by decide) ?_
      exact ih (9 - (i + 1)) (by omega) (i + 1) rfl (by omega) _ _ hR8 (hM.trans hne hT8 (fun g a b k => by simp) (fun y a => by unfold QN; omega))
theorem w_nc_70 (hn : n < 2) (hn' : n' < 2) (hne : n' ≠ n) {M0 : MS} : ∀ (m i : Nat), 12 - i = m → i ≤ 12 → ∀ (hp : AH) (M : MS), Rep hp M → CP n n' (PN 4 i) (QN 4 i 0) M0 M → WP L xs (d + 3) mX2_copyFrom 70 [some (.ref (xi 0 n 0 0)), some (.ref (xi 0 n' 0 0)), some (.int (nI i))] [] hp (fun v hp' => retOk mX2_copyFrom.2.2.2 v ∧ v = none ∧ ∃ M', Rep hp' M' ∧ CP n n' (PN 4 12) (QN 4 12 9) M0 M') := by
  intro m
  induction m using Nat.strongRecOn with
  | ind m ih =>
    intro i hm hi0 hp M hR hM
    subst hm
    refine wp_iload_n (i := 2) dX2_copyFrom_70 rfl rfl ?_
    refine wp_bipush (v := nI 12) dX2_copyFrom_71 (by decide) ?_
    refine wp_icmp_ge (tgt := 97) dX2_copyFrom_73 (by decide) (fun c73 => ?_) (fun c73 => ?_)
    · skip
      refine wp_iconst (v := 0) dX2_copyFrom_97 rfl ?_
      refine wp_istore_n (i := 2) dX2_copyFrom_98 rfl (Nat.le_of_ble_eq_true rfl) ?_
      have e9 : i = 12 := by
        rcases Nat.lt_or_ge i 12 with q | q
        · exact absurd (nI_lt q (by decide)) c73
        · omega
      subst e9
      exact w_nc_99 hn hn' hne 9 0 rfl (by decide) _ _ hR hM
    · skip
      have hi9 : i < 12 := (nI_ltI (by omega) (by decide)).mp c73
      refine wp_aload_n (i := 0) dX2_copyFrom_76 rfl rfl ?_
      refine wr_netR (j := rS n) dX2_copyFrom_77 hR f_X2_29 hn (Or.inr (Or.inl ⟨rfl, rfl⟩)) ?_
      refine wp_iload_n (i := 2) dX2_copyFrom_80 rfl rfl ?_
      refine wr_aS (f := i) dX2_copyFrom_81 hR rfl hn hi9 ?_
      refine wp_aload_n (i := 1) dX2_copyFrom_82 rfl rfl ?_
      refine wr_netR (j := rS n') dX2_copyFrom_83 hR f_X2_29 hn' (Or.inr (Or.inl ⟨rfl, rfl⟩)) ?_
      refine wp_iload_n (i := 2) dX2_copyFrom_86 rfl rfl ?_
      refine wr_aS (f := i) dX2_copyFrom_87 hR rfl hn' hi9 ?_
      refine wp_callV (N := mX3_copyFrom) (as := [.ref (xi 4 n' i 0)]) dX2_copyFrom_88 l_X2_215 v_X3_copyFrom rfl (hR.oo (vs4 hn hi9 (k := 0) (by decide)) (by decide)) rfl (by decide) (s_shCopy hR hn hn' hne hi9) (fun v hp9 hq => ?_)
      obtain ⟨rfl, M9, hR9, hC9⟩ := hq
      refine wp_iinc (v := nI (i + 1)) dX2_copyFrom_91 rfl (nI_1 _) ?_
      refine wp_goto (tgt := 70) dX2_copyFrom_94 (by decide) ?_
      exact ih (12 - (i + 1)) (by omega) (i + 1) rfl (by omega) _ _ hR9 (hM.trans hne hC9 (fun g a b k => PN_s _ _ _ _ _ _) (fun y a => by unfold QN; omega))
theorem w_nc_42 (hn : n < 2) (hn' : n' < 2) (hne : n' ≠ n) {M0 : MS} : ∀ (m i : Nat), 4 - i = m → i ≤ 4 → ∀ (hp : AH) (M : MS), Rep hp M → CP n n' (PN i 0) (QN i 0 0) M0 M → WP L xs (d + 3) mX2_copyFrom 42 [some (.ref (xi 0 n 0 0)), some (.ref (xi 0 n' 0 0)), some (.int (nI i))] [] hp (fun v hp' => retOk mX2_copyFrom.2.2.2 v ∧ v = none ∧ ∃ M', Rep hp' M' ∧ CP n n' (PN 4 12) (QN 4 12 9) M0 M') := by
  intro m
  induction m using Nat.strongRecOn with
  | ind m ih =>
    intro i hm hi0 hp M hR hM
    subst hm
    refine wp_iload_n (i := 2) dX2_copyFrom_42 rfl rfl ?_
    refine wp_iconst (v := 4) dX2_copyFrom_43 rfl ?_
    refine wp_icmp_ge (tgt := 68) dX2_copyFrom_44 (by decide) (fun c44 => ?_) (fun c44 => ?_)
    · skip
      refine wp_iconst (v := 0) dX2_copyFrom_68 rfl ?_
      refine wp_istore_n (i := 2) dX2_copyFrom_69 rfl (Nat.le_of_ble_eq_true rfl) ?_
      have e9 : i = 4 := by
        rcases Nat.lt_or_ge i 4 with q | q
        · exact absurd (nI_lt q (by decide)) c44
        · omega
      subst e9
      exact w_nc_70 hn hn' hne 12 0 rfl (by decide) _ _ hR hM
    · skip
      have hi9 : i < 4 := (nI_ltI (by omega) (by decide)).mp c44
      refine wp_aload_n (i := 0) dX2_copyFrom_47 rfl rfl ?_
      refine wr_netR (j := rC n) dX2_copyFrom_48 hR f_X2_23 hn (Or.inl ⟨rfl, rfl⟩) ?_
      refine wp_iload_n (i := 2) dX2_copyFrom_51 rfl rfl ?_
      refine wr_aC (c := i) dX2_copyFrom_52 hR rfl hn hi9 ?_
      refine wp_aload_n (i := 1) dX2_copyFrom_53 rfl rfl ?_
      refine wr_netR (j := rC n') dX2_copyFrom_54 hR f_X2_23 hn' (Or.inl ⟨rfl, rfl⟩) ?_
      refine wp_iload_n (i := 2) dX2_copyFrom_57 rfl rfl ?_
      refine wr_aC (c := i) dX2_copyFrom_58 hR rfl hn' hi9 ?_
      refine wp_callV (N := mX0_copyFrom) (as := [.ref (xi 1 n' i 0)]) dX2_copyFrom_59 l_X2_211 v_X0_copyFrom rfl (hR.oo (vs1 hn hi9 (k := 2) (by decide)) (by decide)) rfl (by decide) (s_clCopy hR hn hn' hne hi9) (fun v hp9 hq => ?_)
      obtain ⟨rfl, M9, hR9, hC9⟩ := hq
      refine wp_iinc (v := nI (i + 1)) dX2_copyFrom_62 rfl (nI_1 _) ?_
      refine wp_goto (tgt := 42) dX2_copyFrom_65 (by decide) ?_
      exact ih (4 - (i + 1)) (by omega) (i + 1) rfl (by omega) _ _ hR9 (hM.trans hne hC9 (fun g a b k => PN_c _ _ _ _ _ _) (fun y a => by unfold QN; omega))
/-- a net as the other -/
theorem s_netCopy (hR : Rep hp M) (hn : n < 2) (hn' : n' < 2) (hne : n' ≠ n) : WM L xs (d + 3) mX2_copyFrom [.ref (xi 0 n 0 0), .ref (xi 0 n' 0 0)] hp (fun v hp' => v = none ∧ ∃ M', Rep hp' M' ∧ CP n n' (PN 4 12) (QN 4 12 9) M M') := by
  refine WM.of [some (.ref _), some (.ref _), none] (by decide) rfl (Nat.le_of_ble_eq_true rfl) ?_
  refine wp_aload_n (i := 0) dX2_copyFrom_0 rfl rfl ?_
  refine wp_aload_n (i := 1) dX2_copyFrom_1 rfl rfl ?_
  refine wr_get (g := 0) (n := n') (a := 0) (b := 0) (k := 0) dX2_copyFrom_2 hR f_X2_62 (vs0 hn' (by decide)) (by decide) (by decide) ?_
  refine wr_put (g := 0) (n := n) (a := 0) (b := 0) (k := 0) dX2_copyFrom_5 hR (p_X2_62 rfl) (vs0 hn (by decide)) (by decide) (by decide) (okI rfl) (fun hp2 hR1 => ?_)
  refine wp_aload_n (i := 0) dX2_copyFrom_8 rfl rfl ?_
  refine wp_aload_n (i := 1) dX2_copyFrom_9 rfl rfl ?_
  refine wr_get (g := 0) (n := n') (a := 0) (b := 0) (k := 1) dX2_copyFrom_10 hR1 f_X2_9 (vs0 hn' (by decide)) (by decide) (by decide) ?_
  refine wr_put (g := 0) (n := n) (a := 0) (b := 0) (k := 1) dX2_copyFrom_13 hR1 (p_X2_9 rfl) (vs0 hn (by decide)) (by decide) (by decide) (okI rfl) (fun hp4 hR3 => ?_)
  refine wp_aload_n (i := 0) dX2_copyFrom_16 rfl rfl ?_
  refine wp_aload_n (i := 1) dX2_copyFrom_17 rfl rfl ?_
  refine wr_get (g := 0) (n := n') (a := 0) (b := 0) (k := 2) dX2_copyFrom_18 hR3 f_X2_15 (vs0 hn' (by decide)) (by decide) (by decide) ?_
  refine wr_put (g := 0) (n := n) (a := 0) (b := 0) (k := 2) dX2_copyFrom_21 hR3 (p_X2_15 rfl) (vs0 hn (by decide)) (by decide) (by decide) (okI rfl) (fun hp6 hR5 => ?_)
  refine wp_aload_n (i := 0) dX2_copyFrom_24 rfl rfl ?_
  refine wp_aload_n (i := 1) dX2_copyFrom_25 rfl rfl ?_
  refine wr_get (g := 0) (n := n') (a := 0) (b := 0) (k := 3) dX2_copyFrom_26 hR5 f_X2_18 (vs0 hn' (by decide)) (by decide) (by decide) ?_
  refine wr_put (g := 0) (n := n) (a := 0) (b := 0) (k := 3) dX2_copyFrom_29 hR5 (p_X2_18 rfl) (vs0 hn (by decide)) (by decide) (by decide) (okI rfl) (fun hp8 hR7 => ?_)
  refine wp_aload_n (i := 0) dX2_copyFrom_32 rfl rfl ?_
  refine wp_aload_n (i := 1) dX2_copyFrom_33 rfl rfl ?_
  refine wr_get (g := 0) (n := n') (a := 0) (b := 0) (k := 4) dX2_copyFrom_34 hR7 f_X2_44 (vs0 hn' (by decide)) (by decide) (by decide) ?_
  refine wr_put (g := 0) (n := n) (a := 0) (b := 0) (k := 4) dX2_copyFrom_37 hR7 (p_X2_44 rfl) (vs0 hn (by decide)) (by decide) (by decide) (okI rfl) (fun hp10 hR9 => ?_)
  refine wp_iconst (v := 0) dX2_copyFrom_40 rfl ?_
  refine wp_istore_n (i := 2) dX2_copyFrom_41 rfl (Nat.le_of_ble_eq_true rfl) ?_
  have k1 := CP.one (n := n) (n' := n') M 0 0 0 0
  have k2 := k1.trans (P2 := fun g a b k => g = 0 ∧ a = 0 ∧ b = 0 ∧ k < 2) (Q2 := fun _ _ => False) hne (CP.one _ 0 0 0 1) (fun g a b k => by omega) (fun y a => by simp)
  have k3 := k2.trans (P2 := fun g a b k => g = 0 ∧ a = 0 ∧ b = 0 ∧ k < 3) (Q2 := fun _ _ => False) hne (CP.one _ 0 0 0 2) (fun g a b k => by omega) (fun y a => by simp)
  have k4 := k3.trans (P2 := fun g a b k => g = 0 ∧ a = 0 ∧ b = 0 ∧ k < 4) (Q2 := fun _ _ => False) hne (CP.one _ 0 0 0 3) (fun g a b k => by omega) (fun y a => by simp)
  have k5 := k4.trans (P2 := PN 0 0) (Q2 := QN 0 0 0) hne (CP.one _ 0 0 0 4) (fun g a b k => by rw [PN_0]; omega) (fun y a => by exact QN_0 y a)
  exact w_nc_42 hn hn' hne 4 0 rfl (by decide) _ _ hR9 k5
end COPY3
theorem BB.congr {S S' : Nat → List Row} {rq fl ff : Nat} {V V' : Nat → Nat} {G G' : Nat → Int32} {clk K : Nat} {D : Nat → Nat} {r j s : Nat} {e : Nat → Nat} (h : BB S rq fl ff V G clk K D r j s e) (hS : ∀ k, k < 9 → S' k = S k) (hV : ∀ f, f < 12 → V' f = V f) (hG : ∀ c, c < 4 → G' c = G c) : BB S' rq fl ff V' G' clk K D r j s e := by
  obtain ⟨⟨a1, a2, a3, a4⟩, b, c, d, x, y⟩ := h
  have hm : ∀ k, k % 9 < 9 := fun k => Nat.mod_lt _ (by decide)
  refine ⟨⟨?_, a2, a3, a4⟩, fun c' hc' => ?_, fun c' hc' => ?_, fun f hf => ?_, fun k c' hk hc' => ?_, fun c' hc' => ?_⟩
  · rw [sN_congr (g := fun k => (sl S clk r k).countP kdTh) (fun k hk => by show (sl S' clk r k).countP kdTh = _; unfold sl; rw [hS k hk])]; exact a1
  · rw [hS _ (hm _), hS _ (hm _)]; exact b c' hc'
  · rw [hS _ (hm _), hS _ (hm _)]; exact c c' hc'
  · rw [hS _ (hm _), hV f hf]; exact d f hf
  · rw [hS k hk]; exact x k c' hk hc'
  · rw [hS _ (hm _), hG c' hc']; exact y c' hc'
/-- what holds of a net holds of its copy -/
theorem ST.copy {hp hp' : AH} {M M' : MS} {zB tB n n' clk cc K : Nat} {D : Nat → Nat} {ev : Bool} {e : Nat → Nat} (h : ST hp M zB tB n' clk cc K D ev 0 0 0 e) (hC : CP n n' (PN 4 12) (QN 4 12 9) M M') (hR : Rep hp' M') : ST hp' M' zB tB n clk cc K D ev 0 0 0 e := by
  obtain ⟨hR0, hI, ⟨⟨b1, b2, b3, b4, rm, b6, b5⟩, n2, n3, n4⟩, hB⟩ := h
  obtain ⟨v1, v2, t1, t2, x1, r1⟩ := hC
  have e0 : ∀ k, k < 5 → gV M' 0 n 0 0 k = gV M 0 n' 0 0 k := fun k hk => v1 _ _ _ _ (Or.inl ⟨rfl, rfl, rfl, hk⟩)
  have e1 : ∀ c k, c < 4 → (k = 2 ∨ (4 ≤ k ∧ k < 12)) → gV M' 1 n c 0 k = gV M 1 n' c 0 k := fun c k hc hk => v1 _ _ _ _ (Or.inr (Or.inl ⟨hc, Or.inr (Or.inr ⟨rfl, rfl, hk⟩)⟩))
  have e2 : ∀ c f k, c < 4 → f < 12 → k < 8 → gV M' 2 n c f k = gV M 2 n' c f k := fun c f k hc hf hk => v1 _ _ _ _ (Or.inr (Or.inl ⟨hc, Or.inl ⟨rfl, hf, hk⟩⟩))
  have e3 : ∀ c k, c < 4 → k < 12 → gV M' 3 n c 0 k = gV M 3 n' c 0 k := fun c k hc hk => v1 _ _ _ _ (Or.inr (Or.inl ⟨hc, Or.inr (Or.inl ⟨rfl, rfl, hk⟩)⟩))
  have e4 : ∀ f k, f < 12 → (k < 2 ∨ k = 4) → gV M' 4 n f 0 k = gV M 4 n' f 0 k := fun f k hf hk => v1 _ _ _ _ (Or.inr (Or.inr ⟨hf, rfl, Or.inl ⟨rfl, hk⟩⟩))
  have hv : ∀ f, f < 12 → vrs M' n f = vrs M n' f := fun f hf => by show vN _ = vN _; rw [e4 f 1 hf (by omega)]
  have T0 : ∀ a, a < 4 → gT M' 0 n a = gT M 0 n' a := fun a ha => t1 _ _ (Or.inl ⟨rfl, ha⟩)
  have T1 : ∀ a, a < 12 → gT M' 1 n a = gT M 1 n' a := fun a ha => t1 _ _ (Or.inr (Or.inl ⟨rfl, ha⟩))
  have T2 : ∀ a, a < 9 → gT M' 2 n a = gT M 2 n' a := fun a ha => t1 _ _ (Or.inr (Or.inr ⟨rfl, ha⟩))
  refine ⟨hR, r1 _ _ hI, ⟨⟨b1, b2, by rw [e0 0 (by decide)]; exact b3, by rw [e0 4 (by decide)]; exact b4, rm, b6, by rw [e0 3 (by decide)]; exact b5⟩, fun c hc => ?_, fun f hf => ?_, fun k hk q hq => ?_⟩, ?_⟩
  · obtain ⟨⟨l, ⟨o1, o2, o3, o4⟩, i2, i3, i4, i5⟩, a2, a3, a4, a5, a6, a7⟩ := n2 c hc
    refine ⟨⟨l, ⟨by rw [e1 c 2 hc (by omega)]; exact o1, o2, o3, fun k f q => ?_⟩, i2, i3, fun f hf => by rw [e2 c f 0 hc hf (by decide)]; exact i4 f hf, fun f hf => by rw [e2 c f 4 hc hf (by decide)]; exact i5 f hf⟩, by rw [e1 c 4 hc (by omega)]; exact a2, a3, ?_, by rw [T0 c hc]; exact a5, fun f hf => ?_, ?_⟩
    · rw [e3 c k hc (by have := (List.getElem?_eq_some_iff.mp q).1; omega)]; exact o4 k f q
    · rw [e1 c 6 hc (by omega)]; intro q f hf; rw [e2 c f 6 hc hf (by decide), e2 c f 7 hc hf (by decide)]; exact a4 q f hf
    · unfold HJ; rw [hv f hf, e2 c f 1 hc hf (by decide), e2 c f 2 hc hf (by decide)]; exact a6 f hf
    · rw [e1 c 6 hc (by omega), e1 c 11 hc (by omega)]; exact a7
  · unfold SJ; rw [hv f hf, e4 f 0 hf (by omega), e4 f 1 hf (by omega), T1 f hf]; exact n3 f hf
  · rw [T2 k hk] at hq
    obtain ⟨y1, ⟨f, hf, y2, y3, y4⟩, y5⟩ := n4 k hk q hq
    exact ⟨y1, ⟨f, hf, y2, y3, by rw [hv f hf]; exact y4⟩, y5⟩
  · unfold BJ at hB ⊢
    rw [show RQ M' n = RQ M n' from sN_congr (fun f hf => by rw [T1 f hf]), show FL M' n = FL M n' from sN_congr (fun c hc => sN_congr (fun f hf => by rw [e2 c f 6 hc hf (by decide), e2 c f 7 hc hf (by decide)])), show FF M' n = FF M n' from sN_congr (fun f hf => by rw [e4 f 4 hf (by omega)])]
    exact hB.congr T2 hv (fun c hc => e1 c 9 hc (by omega))
