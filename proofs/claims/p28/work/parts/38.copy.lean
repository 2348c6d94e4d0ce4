/-! ===== copies: one net as the other ===== -/
/-- numbers P and tables Q of net n are now as those of net n' -/
def CP (n n' : Nat) (P : Nat → Nat → Nat → Nat → Prop) (Q : Nat → Nat → Prop) (M M' : MS) : Prop :=
  (∀ g a b k, P g a b k → gV M' g n a b k = gV M g n' a b k) ∧ (∀ g m a b k, ¬ (m = n ∧ P g a b k) → gV M' g m a b k = gV M g m a b k) ∧
  (∀ y a, Q y a → gT M' y n a = gT M y n' a) ∧ (∀ y m a, ¬ (m = n ∧ Q y a) → gT M' y m a = gT M y m a ∧ gP M' y m a = gP M y m a) ∧ (∀ i, gX M' i = gX M i) ∧ ∀ zB tB, RI zB tB M → RI zB tB M'
theorem CP.rfl' (n n' : Nat) (M : MS) {P : Nat → Nat → Nat → Nat → Prop} {Q : Nat → Nat → Prop} (hP : ∀ g a b k, ¬ P g a b k) (hQ : ∀ y a, ¬ Q y a) : CP n n' P Q M M :=
  ⟨fun g a b k q => absurd q (hP g a b k), fun _ _ _ _ _ _ => rfl, fun y a q => absurd q (hQ y a), fun _ _ _ _ => ⟨rfl, rfl⟩, fun _ => rfl, fun _ _ h => h⟩
theorem CP.trans {n n' : Nat} {P P' P2 : Nat → Nat → Nat → Nat → Prop} {Q Q' Q2 : Nat → Nat → Prop} {M M' M'' : MS} (hne : n' ≠ n) (h : CP n n' P Q M M') (h' : CP n n' P' Q' M' M'') (hP : ∀ g a b k, P2 g a b k ↔ P g a b k ∨ P' g a b k) (hQ : ∀ y a, Q2 y a ↔ Q y a ∨ Q' y a) : CP n n' P2 Q2 M M'' := by
  obtain ⟨a1, a2, a3, a4, a5, a6⟩ := h
  obtain ⟨b1, b2, b3, b4, b5, b6⟩ := h'
  refine ⟨fun g a b k q => ?_, fun g m a b k q => ?_, fun y a q => ?_, fun y m a q => ?_, fun i => (b5 i).trans (a5 i), fun z t hh => b6 z t (a6 z t hh)⟩
  · by_cases hp' : P' g a b k
    · rw [b1 g a b k hp', a2 g n' a b k (fun p => hne p.1)]
    · rw [b2 g n a b k (fun p => hp' p.2), a1 g a b k (((hP g a b k).mp q).resolve_right hp')]
  · rw [b2 g m a b k (fun p => q ⟨p.1, (hP g a b k).mpr (Or.inr p.2)⟩), a2 g m a b k (fun p => q ⟨p.1, (hP g a b k).mpr (Or.inl p.2)⟩)]
  · by_cases hp' : Q' y a
    · rw [b3 y a hp', (a4 y n' a (fun p => hne p.1)).1]
    · rw [(b4 y n a (fun p => hp' p.2)).1, a3 y a (((hQ y a).mp q).resolve_right hp')]
  · have h1 := b4 y m a (fun p => q ⟨p.1, (hQ y a).mpr (Or.inr p.2)⟩)
    have h2 := a4 y m a (fun p => q ⟨p.1, (hQ y a).mpr (Or.inl p.2)⟩)
    exact ⟨h1.1.trans h2.1, h1.2.trans h2.2⟩
/-- one number -/
theorem CP.one {n n' : Nat} (M : MS) (g a b k : Nat) : CP n n' (fun g' a' b' k' => g' = g ∧ a' = a ∧ b' = b ∧ k' = k) (fun _ _ => False) M (sV M g n a b k (gV M g n' a b k)) :=
  ⟨fun g' a' b' k' q => by obtain ⟨rfl, rfl, rfl, rfl⟩ := q; exact sV_self _ _ _ _ _ _ _, fun g' m a' b' k' q => sV_ne (fun p => q ⟨p.2.1, p.1, p.2.2.1, p.2.2.2.1, p.2.2.2.2⟩), fun _ _ q => q.elim, fun _ _ _ _ => ⟨rfl, rfl⟩, fun _ => rfl, fun z t h => h.of rfl rfl (fun _ _ _ => rfl)⟩
/-- one table -/
theorem CP.tab {n n' : Nat} {hp : AH} {M : MS} (hR : Rep hp M) {y a : Nat} (ht : vt y n a) (ht' : vt y n' a) : CP n n' (fun _ _ _ _ => False) (fun y' a' => y' = y ∧ a' = a) M (sW M (cZ M y n a n' a) (cQ M y n a n' a) y n a (gT M y n' a) (cP M y n a n' a)) :=
  ⟨fun _ _ _ _ q => q.elim, fun _ _ _ _ _ _ => rfl, fun y' a' q => by obtain ⟨rfl, rfl⟩ := q; exact gT_sW _ _ _ _ _ _ _ _, fun y' m a' q => ⟨gT_sWn (fun p => q ⟨p.2.1, p.1, p.2.2⟩), gP_sWn (fun p => q ⟨p.2.1, p.1, p.2.2⟩)⟩, fun _ => rfl, fun z t h => h.copy hR ht ht'⟩
section COPY
variable {L : Nat} {xs : Nat → Int32} {d : Nat} {hp : AH} {M : MS} {n n' c f : Nat}
theorem s_heCopy (hR : Rep hp M) (hn : n < 2) (hn' : n' < 2) (hne : ¬ n' = n) (hc : c < 4) (hf : f < 12) : WM L xs d mX1_copyFrom [.ref (xi 2 n c f), .ref (xi 2 n' c f)] hp (fun v hp' => v = none ∧ ∃ M', Rep hp' M' ∧ CP n n' (fun g a b k => g = 2 ∧ a = c ∧ b = f ∧ k < 8) (fun _ _ => False) M M') := by
  refine WM.of [some (.ref _), some (.ref _)] (by decide) rfl (Nat.le_of_ble_eq_true rfl) ?_
  refine wp_aload_n (i := 0) dX1_copyFrom_0 rfl rfl ?_
  refine wp_aload_n (i := 1) dX1_copyFrom_1 rfl rfl ?_
  refine wr_get (g := 2) (n := n') (a := c) (b := f) (k := 0) dX1_copyFrom_2 hR f_X1_15 (vs2 hn' hc hf (by decide)) (by decide) (by decide) ?_
  refine wr_put (g := 2) (n := n) (a := c) (b := f) (k := 0) dX1_copyFrom_5 hR (p_X1_15 rfl) (vs2 hn hc hf (by decide)) (by decide) (by decide) (okB rfl (hR.bool (vs2 hn' hc hf (by decide)) rfl (by decide))) (fun hp2 hR1 => ?_)
  refine wp_aload_n (i := 0) dX1_copyFrom_8 rfl rfl ?_
  refine wp_aload_n (i := 1) dX1_copyFrom_9 rfl rfl ?_
  refine wr_get (g := 2) (n := n') (a := c) (b := f) (k := 1) dX1_copyFrom_10 hR1 f_X1_22 (vs2 hn' hc hf (by decide)) (by decide) (by decide) ?_
  refine wr_put (g := 2) (n := n) (a := c) (b := f) (k := 1) dX1_copyFrom_13 hR1 (p_X1_22 rfl) (vs2 hn hc hf (by decide)) (by decide) (by decide) (okI rfl) (fun hp4 hR3 => ?_)
  refine wp_aload_n (i := 0) dX1_copyFrom_16 rfl rfl ?_
  refine wp_aload_n (i := 1) dX1_copyFrom_17 rfl rfl ?_
  refine wr_get (g := 2) (n := n') (a := c) (b := f) (k := 2) dX1_copyFrom_18 hR3 f_X1_28 (vs2 hn' hc hf (by decide)) (by decide) (by decide) ?_
  refine wr_put (g := 2) (n := n) (a := c) (b := f) (k := 2) dX1_copyFrom_21 hR3 (p_X1_28 rfl) (vs2 hn hc hf (by decide)) (by decide) (by decide) (okI rfl) (fun hp6 hR5 => ?_)
  refine wp_aload_n (i := 0) dX1_copyFrom_24 rfl rfl ?_
  refine wp_aload_n (i := 1) dX1_copyFrom_25 rfl rfl ?_
  refine wr_get (g := 2) (n := n') (a := c) (b := f) (k := 3) dX1_copyFrom_26 hR5 f_X1_9 (vs2 hn' hc hf (by decide)) (by decide) (by decide) ?_
  refine wr_put (g := 2) (n := n) (a := c) (b := f) (k := 3) dX1_copyFrom_29 hR5 (p_X1_9 rfl) (vs2 hn hc hf (by decide)) (by decide) (by decide) (okI rfl) (fun hp8 hR7 => ?_)
  refine wp_aload_n (i := 0) dX1_copyFrom_32 rfl rfl ?_
  refine wp_aload_n (i := 1) dX1_copyFrom_33 rfl rfl ?_
  refine wr_get (g := 2) (n := n') (a := c) (b := f) (k := 4) dX1_copyFrom_34 hR7 f_X1_19 (vs2 hn' hc hf (by decide)) (by decide) (by decide) ?_
  refine wr_put (g := 2) (n := n) (a := c) (b := f) (k := 4) dX1_copyFrom_37 hR7 (p_X1_19 rfl) (vs2 hn hc hf (by decide)) (by decide) (by decide) (okB rfl (hR7.bool (vs2 hn' hc hf (by decide)) rfl (by decide))) (fun hp10 hR9 => ?_)
  refine wp_aload_n (i := 0) dX1_copyFrom_40 rfl rfl ?_
  refine wp_aload_n (i := 1) dX1_copyFrom_41 rfl rfl ?_
  refine wr_get (g := 2) (n := n') (a := c) (b := f) (k := 5) dX1_copyFrom_42 hR9 f_X1_25 (vs2 hn' hc hf (by decide)) (by decide) (by decide) ?_
  refine wr_put (g := 2) (n := n) (a := c) (b := f) (k := 5) dX1_copyFrom_45 hR9 (p_X1_25 rfl) (vs2 hn hc hf (by decide)) (by decide) (by decide) (okI rfl) (fun hp12 hR11 => ?_)
  refine wp_aload_n (i := 0) dX1_copyFrom_48 rfl rfl ?_
  refine wp_aload_n (i := 1) dX1_copyFrom_49 rfl rfl ?_
  refine wr_get (g := 2) (n := n') (a := c) (b := f) (k := 6) dX1_copyFrom_50 hR11 f_X1_38 (vs2 hn' hc hf (by decide)) (by decide) (by decide) ?_
  refine wr_put (g := 2) (n := n) (a := c) (b := f) (k := 6) dX1_copyFrom_53 hR11 (p_X1_38 rfl) (vs2 hn hc hf (by decide)) (by decide) (by decide) (okB rfl (hR11.bool (vs2 hn' hc hf (by decide)) rfl (by decide))) (fun hp14 hR13 => ?_)
  refine wp_aload_n (i := 0) dX1_copyFrom_56 rfl rfl ?_
  refine wp_aload_n (i := 1) dX1_copyFrom_57 rfl rfl ?_
  refine wr_get (g := 2) (n := n') (a := c) (b := f) (k := 7) dX1_copyFrom_58 hR13 f_X1_31 (vs2 hn' hc hf (by decide)) (by decide) (by decide) ?_
  refine wr_put (g := 2) (n := n) (a := c) (b := f) (k := 7) dX1_copyFrom_61 hR13 (p_X1_31 rfl) (vs2 hn hc hf (by decide)) (by decide) (by decide) (okB rfl (hR13.bool (vs2 hn' hc hf (by decide)) rfl (by decide))) (fun hp16 hR15 => ?_)
  refine wp_ret (v := none) dX1_copyFrom_64 rfl ?_
  refine ⟨trivial, rfl, _, hR15, ?_⟩
  refine ⟨fun g a b k q => ?_, fun g m a b k q => ?_, fun _ _ q => q.elim, fun _ _ _ _ => ⟨rfl, rfl⟩, fun _ => rfl, fun z t h => h.of rfl rfl (fun _ _ _ => rfl)⟩
  · obtain ⟨rfl, rfl, rfl, q⟩ := q
    rcases (show k = 0 ∨ k = 1 ∨ k = 2 ∨ k = 3 ∨ k = 4 ∨ k = 5 ∨ k = 6 ∨ k = 7 by omega) with rfl | rfl | rfl | rfl | rfl | rfl | rfl | rfl <;> simp [gV_sV, hne]
  · rw [sV_ne (by omega), sV_ne (by omega), sV_ne (by omega), sV_ne (by omega), sV_ne (by omega), sV_ne (by omega), sV_ne (by omega), sV_ne (by omega)]
end COPY
