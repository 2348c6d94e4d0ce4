/-! ===== one client more, on a new net ===== -/
section JOIN
variable {L : Nat} {xs : Nat → Int32} {d : Nat} {hp : AH} {M : MS} {zB tB clk cc K : Nat} {D : Nat → Nat} {ev : Bool} {c f p q : Nat}
/-- a client more, in numbers -/
def mJoin (M : MS) (cc p q : Nat) : MS := sV (sV (sV M 1 0 cc 0 4 (nI p)) 1 0 cc 0 5 (nI q)) 0 0 0 0 4 (nI (cc + 1))
/-- joined -/
theorem s_join (hR : Rep hp M) (b4 : gV M 0 0 0 0 4 = nI cc) (hc4 : cc < 4) : WM L xs d mX2_join [.ref (xi 0 0 0 0), .int (nI p), .int (nI q)] hp (fun v hp' => (∃ x, v = some (.int x)) ∧ Rep hp' (mJoin M cc p q)) := by
  refine WM.of [some (.ref _), some (.int (nI p)), some (.int (nI q))] (by decide) rfl (Nat.le_of_ble_eq_true rfl) ?_
  refine wp_aload_n (i := 0) dX2_join_0 rfl rfl ?_
  refine wr_get (g := 0) (n := 0) (a := 0) (b := 0) (k := 4) dX2_join_1 hR f_X2_44 (vs0 (by decide) (by decide)) (by decide) (by decide) ?_
  refine wp_iconst (v := 4) dX2_join_4 rfl ?_
  refine wp_icmp_lt (tgt := 10) dX2_join_5 (by decide) (fun c5 => ?_) (fun c5 => ?_)
  · skip
    refine wp_aload_n (i := 0) dX2_join_10 rfl rfl ?_
    refine wr_netR (j := rC 0) dX2_join_11 hR f_X2_23 (by decide) (Or.inl ⟨rfl, rfl⟩) ?_
    refine wp_aload_n (i := 0) dX2_join_14 rfl rfl ?_
    refine wr_get (g := 0) (n := 0) (a := 0) (b := 0) (k := 4) dX2_join_15 hR f_X2_44 (vs0 (by decide) (by decide)) (by decide) (by decide) ?_
    refine wr_aC (c := cc) dX2_join_18 hR b4 (by decide) hc4 ?_
    refine wp_iload_n (i := 1) dX2_join_19 rfl rfl ?_
    refine wr_put (g := 1) (n := 0) (a := cc) (b := 0) (k := 4) dX2_join_20 hR (p_X2_47 rfl) (vs1 (by decide) hc4 (by decide)) (by decide) (by decide) (okI rfl) (fun hp2 hR1 => ?_)
    refine wp_aload_n (i := 0) dX2_join_23 rfl rfl ?_
    refine wr_netR (j := rC 0) dX2_join_24 hR1 f_X2_23 (by decide) (Or.inl ⟨rfl, rfl⟩) ?_
    refine wp_aload_n (i := 0) dX2_join_27 rfl rfl ?_
    refine wr_get (g := 0) (n := 0) (a := 0) (b := 0) (k := 4) dX2_join_28 hR1 f_X2_44 (vs0 (by decide) (by decide)) (by decide) (by decide) ?_
    refine wr_aC (c := cc) dX2_join_31 hR1 b4 (by decide) hc4 ?_
    refine wp_iload_n (i := 2) dX2_join_32 rfl rfl ?_
    refine wr_put (g := 1) (n := 0) (a := cc) (b := 0) (k := 5) dX2_join_33 hR1 (p_X2_50 rfl) (vs1 (by decide) hc4 (by decide)) (by decide) (by decide) (okI rfl) (fun hp4 hR3 => ?_)
    refine wp_aload_n (i := 0) dX2_join_36 rfl rfl ?_
    refine wp_dup dX2_join_37 rfl ?_
    refine wr_get (g := 0) (n := 0) (a := 0) (b := 0) (k := 4) dX2_join_38 hR3 f_X2_44 (vs0 (by decide) (by decide)) (by decide) (by decide) ?_
    refine wp_iconst (v := 1) dX2_join_41 rfl ?_
    refine wp_iadd dX2_join_42 ?_
    rw [show gV (sV (sV M 1 0 cc 0 4 (nI p)) 1 0 cc 0 5 (nI q)) 0 0 0 0 4 + 1 = nI (cc + 1) from by rw [← nI_1]; exact congrArg (· + 1) b4]
    refine wr_put (g := 0) (n := 0) (a := 0) (b := 0) (k := 4) dX2_join_43 hR3 (p_X2_44 rfl) (vs0 (by decide) (by decide)) (by decide) (by decide) (okI rfl) (fun hp6 hR5 => ?_)
    refine wp_aload_n (i := 0) dX2_join_46 rfl rfl ?_
    refine wr_get (g := 0) (n := 0) (a := 0) (b := 0) (k := 4) dX2_join_47 hR5 f_X2_44 (vs0 (by decide) (by decide)) (by decide) (by decide) ?_
    refine wp_iconst (v := 1) dX2_join_50 rfl ?_
    refine wp_isub dX2_join_51 ?_
    refine wp_ret (v := some (.int _)) dX2_join_52 rfl ?_
    exact ⟨trivial, ⟨_, rfl⟩, hR5⟩
  · skip
    exact absurd (by rw [b4]; exact nI_lt hc4 (by decide)) c5
/-- a net on which nothing has happened -/
def Fr (hp : AH) (M : MS) (zB tB cc : Nat) (D : Nat → Nat) : Prop := S0 hp M zB tB 0 cc 0 D false ∧ (∀ k, k < 9 → gT M 2 0 k = []) ∧ ∀ c, c < 4 → gV M 1 0 c 0 7 = 0 ∧ gV M 1 0 c 0 8 = 0
theorem Fr.join {hp' : AH} (h : Fr hp M zB tB cc D) (hc4 : cc < 4) (h1 : 1 ≤ p) (h2 : p ≤ 6) (hR : Rep hp' (mJoin M cc p q)) : Fr hp' (mJoin M cc p q) zB tB (cc + 1) (fun c => if c = cc then p else D c) := by
  obtain ⟨⟨⟨hR0, hI, ⟨⟨b1, b2, b3, b4, b5⟩, n2, n3, n4⟩, hB⟩, hE⟩, hS, h7⟩ := h
  have hx : ∀ g n a b k, ¬ (g = 1 ∧ n = 0 ∧ a = cc ∧ b = 0 ∧ (k = 4 ∨ k = 5)) → ¬ (g = 0 ∧ k = 4) → gV (mJoin M cc p q) g n a b k = gV M g n a b k := fun g n a b k q1 q2 => by
    unfold mJoin
    rw [sV_ne (fun z => q2 ⟨z.1, z.2.2.2.2⟩), sV_ne (fun z => q1 ⟨z.1, z.2.1, z.2.2.1, z.2.2.2.1, Or.inr z.2.2.2.2⟩), sV_ne (fun z => q1 ⟨z.1, z.2.1, z.2.2.1, z.2.2.2.1, Or.inl z.2.2.2.2⟩)]
  have hv : vrs (mJoin M cc p q) 0 = vrs M 0 := funext (fun f => by show vN _ = vN _; rw [hx _ _ _ _ _ (by omega) (by omega)])
  have hd : ∀ c, gV (mJoin M cc p q) 1 0 c 0 4 = if c = cc then nI p else gV M 1 0 c 0 4 := fun c => by
    unfold mJoin
    rw [sV_ne (by omega), sV_ne (by omega)]
    by_cases hc : c = cc
    · subst hc; rw [sV_self, if_pos rfl]
    · rw [sV_ne (fun z => hc z.2.2.1), if_neg hc]
  have hm : ∀ k, k % 9 < 9 := fun k => Nat.mod_lt _ (by decide)
  refine ⟨⟨⟨hR, hI.of rfl rfl (fun _ _ _ => rfl), ⟨⟨b1, by omega, ?_, ?_, ?_⟩, fun c hc => ?_, fun f hf => ?_, fun k hk r hr => ?_⟩, ?_⟩, hE⟩, hS, fun c hc => ?_⟩
  · rw [hx _ _ _ _ _ (by omega) (by omega)]; exact b3
  · unfold mJoin; exact sV_self _ _ _ _ _ _ _
  · rw [hx _ _ _ _ _ (by omega) (by omega)]; exact b5
  · obtain ⟨⟨l, a1⟩, a2, a3, a4, a5, a6, a7⟩ := n2 c hc
    refine ⟨⟨l, a1.of (hx _ _ _ _ _ (by omega) (by omega)) (fun _ => hx _ _ _ _ _ (by omega) (by omega)) (fun _ => ⟨hx _ _ _ _ _ (by omega) (by omega), hx _ _ _ _ _ (by omega) (by omega)⟩)⟩, ?_, ?_, ?_, a5, fun f hf => ?_, ?_⟩
    · rw [hd]
      show _ = nI (if c = cc then p else D c)
      by_cases hq : c = cc
      · rw [if_pos hq, if_pos hq]
      · rw [if_neg hq, if_neg hq]; exact a2
    · show 1 ≤ (if c = cc then p else D c) ∧ (if c = cc then p else D c) ≤ 6
      by_cases hq : c = cc
      · rw [if_pos hq]; exact ⟨h1, h2⟩
      · rw [if_neg hq]; exact a3
    · rw [hx _ _ _ _ _ (by omega) (by omega)]; intro q f hf; rw [hx _ _ _ _ _ (by omega) (by omega), hx _ _ _ _ _ (by omega) (by omega)]; exact a4 q f hf
    · unfold HJ; rw [hv, hx _ _ _ _ _ (by omega) (by omega), hx _ _ _ _ _ (by omega) (by omega)]; exact a6 f hf
    · rw [hx _ _ _ _ _ (by omega) (by omega), hx _ _ _ _ _ (by omega) (by omega)]; exact a7
  · obtain ⟨s1, s2, s3⟩ := n3 f hf
    unfold SJ; rw [hv, hx _ _ _ _ _ (by omega) (by omega), hx _ _ _ _ _ (by omega) (by omega)]
    exact ⟨s1, s2, fun r hr => by obtain ⟨⟨c, hc, y1⟩, y2⟩ := s3 r hr; exact ⟨⟨c, by omega, y1⟩, y2⟩⟩
  · rw [show gT (mJoin M cc p q) 2 0 k = gT M 2 0 k from rfl, hS k hk] at hr
    cases hr
  · obtain ⟨⟨a1, a2, a3, a4⟩, b, c, d, x, y⟩ := hB
    unfold BJ
    rw [show RQ (mJoin M cc p q) 0 = RQ M 0 from rfl, FL_eq (M := M) (M' := mJoin M cc p q) (fun c' f' _ _ => ⟨hx _ _ _ _ _ (by omega) (by omega), hx _ _ _ _ _ (by omega) (by omega)⟩), FF_eq (M := M) (M' := mJoin M cc p q) (fun f' _ => hx _ _ _ _ _ (by omega) (by omega)), hv, show (fun c => gV (mJoin M cc p q) 1 0 c 0 9) = (fun c => gV M 1 0 c 0 9) from funext (fun c => hx _ _ _ _ _ (by omega) (by omega))]
    refine ⟨⟨a1, a2, a3, a4⟩, fun c' hc' => ?_, fun c' hc' => ?_, d, x, y⟩
    · have h9 : (gT M 2 0 ((0 + D c') % 9)).countP (kdC c') + RQ M 0 + ((gT M 2 0 (0 % 9)).drop 0).countP kdR + 0 ≤ 1248 + FF M 0 + 0 := b c' hc'
      show (gT M 2 0 ((0 + (if c' = cc then p else D c')) % 9)).countP (kdC c') + RQ M 0 + ((gT M 2 0 (0 % 9)).drop 0).countP kdR + 0 ≤ 1248 + FF M 0 + 0
      rw [hS _ (hm _)] at h9
      rw [hS _ (hm _)]
      exact h9
    · have h9 : (gT M 2 0 ((0 + D c') % 9)).countP (kdA c') + ((gT M 2 0 (0 % 9)).drop 0).countP (kdC c') ≤ 1260 := c c' hc'
      show (gT M 2 0 ((0 + (if c' = cc then p else D c')) % 9)).countP (kdA c') + ((gT M 2 0 (0 % 9)).drop 0).countP (kdC c') ≤ 1260
      rw [hS _ (hm _)] at h9
      rw [hS _ (hm _)]
      exact h9
  · rw [hx _ _ _ _ _ (by omega) (by omega), hx _ _ _ _ _ (by omega) (by omega)]; exact h7 c hc
/-- a client more -/
theorem s_addClient (h : Fr hp M zB tB cc D) (hc4 : cc < 4) (h1 : 1 ≤ p) (h2 : p ≤ 6) (h3 : q ≤ 2) : WM L xs (d + 1) mX5_addClient [.ref 1, .int (nI p), .int (nI q)] hp (fun v hp' => (∃ x, v = some (.int x)) ∧ Fr hp' (mJoin M cc p q) zB tB (cc + 1) (fun c => if c = cc then p else D c)) := by
  have hR := h.1.1.1
  obtain ⟨b1, b2, b3, b4, b5⟩ := h.1.1.2.2.1.1
  refine WM.of [some (.ref _), some (.int (nI p)), some (.int (nI q))] (by decide) rfl (Nat.le_of_ble_eq_true rfl) ?_
  refine wp_iload_n (i := 1) dX5_addClient_0 rfl rfl ?_
  refine wp_iconst (v := 1) dX5_addClient_1 rfl ?_
  refine wp_icmp_lt (tgt := 20) dX5_addClient_2 (by decide) (fun c2 => ?_) (fun c2 => ?_)
  · skip
    exact absurd (show nI p < nI 1 from c2) (nI_nlt h1 (by omega))
  · skip
    refine wp_iload_n (i := 1) dX5_addClient_5 rfl rfl ?_
    refine wp_bipush (v := nI 8) dX5_addClient_6 (by decide) ?_
    refine wp_icmp_gt (tgt := 20) dX5_addClient_8 (by decide) (fun c8 => ?_) (fun c8 => ?_)
    · skip
      exact absurd (show nI 8 < nI p from c8) (nI_nlt (by omega) (by decide))
    · skip
      refine wp_iload_n (i := 2) dX5_addClient_11 rfl rfl ?_
      refine wp_if_lt (tgt := 20) dX5_addClient_12 (by decide) (fun c12 => ?_) (fun c12 => ?_)
      · skip
        exact absurd c12 (nI_pos (by omega))
      · skip
        refine wp_iload_n (i := 2) dX5_addClient_15 rfl rfl ?_
        refine wp_iconst (v := 2) dX5_addClient_16 rfl ?_
        refine wp_icmp_le (tgt := 30) dX5_addClient_17 (by decide) (fun c17 => ?_) (fun c17 => ?_)
        · skip
          refine wp_aload_n (i := 0) dX5_addClient_30 rfl rfl ?_
          refine wr_net dX5_addClient_31 hR f_X5_10 ?_
          refine wr_get (g := 0) (n := 0) (a := 0) (b := 0) (k := 4) dX5_addClient_34 hR f_X5_26 (vs0 (by decide) (by decide)) (by decide) (by decide) ?_
          refine wp_iconst (v := 4) dX5_addClient_37 rfl ?_
          refine wp_icmp_lt (tgt := 51) dX5_addClient_38 (by decide) (fun c38 => ?_) (fun c38 => ?_)
          · skip
            refine wp_aload_n (i := 0) dX5_addClient_51 rfl rfl ?_
            refine wr_net dX5_addClient_52 hR f_X5_10 ?_
            refine wp_iload_n (i := 1) dX5_addClient_55 rfl rfl ?_
            refine wp_iload_n (i := 2) dX5_addClient_56 rfl rfl ?_
            refine wp_callV (N := mX2_join) (as := [.int (nI p), .int (nI q)]) dX5_addClient_57 l_X5_35 v_X2_join rfl (hR.oo (vs0 (n := 0) (by decide) (k := 0) (by decide)) (by decide)) rfl (by decide) (s_join hR b4 hc4) (fun v hp9 hq => ?_)
            obtain ⟨⟨x, rfl⟩, hR9⟩ := hq
            refine wp_ret (v := some (.int _)) dX5_addClient_60 rfl ?_
            exact ⟨trivial, ⟨_, rfl⟩, h.join hc4 h1 h2 hR9⟩
          · skip
            exact absurd (by rw [b4]; exact nI_lt hc4 (by decide)) c38
        · skip
          exact absurd (show nI 2 < nI q from by first | exact c17 | exact Classical.not_not.mp c17) (nI_nlt h3 (by decide))
end JOIN
