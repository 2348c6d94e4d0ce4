/-! ===== a table changes ===== -/
def sW (M : MS) (z t y n a : Nat) (r : List Row) (cap : Nat) : MS := (z, t, M.2.2.1, (fun y' n' a' => if y' = y ∧ n' = n ∧ a' = a then (r, cap) else M.2.2.2.1 y' n' a'), M.2.2.2.2)
theorem vt_cases {y n a : Nat} (h : vt y n a) {P : Nat → Nat → Nat → Prop} (p0 : n < 2 → a < 4 → P 0 n a) (p1 : n < 2 → a < 12 → P 1 n a) (p2 : n < 2 → a < 9 → P 2 n a) : P y n a := by
  obtain ⟨v1, v2⟩ := h
  match y, v2 with
  | 0, v2 => exact p0 v1 v2
  | 1, v2 => exact p1 v1 v2
  | 2, v2 => exact p2 v1 v2
  | n + 3, v2 => exact v2.elim
theorem xt_inj {y n a y' n' a' : Nat} (h : vt y n a) (h' : vt y' n' a') : (xt y n a = xt y' n' a' → y = y' ∧ n = n' ∧ a = a') ∧ xt y n a ≠ xt y' n' a' + 1 := by
  refine vt_cases h (P := fun y n a => (xt y n a = xt y' n' a' → y = y' ∧ n = n' ∧ a = a') ∧ xt y n a ≠ xt y' n' a' + 1) ?_ ?_ ?_
  · intro hn ha
    refine vt_cases h' (P := fun y' n' a' => (xt 0 n a = xt y' n' a' → 0 = y' ∧ n = n' ∧ a = a') ∧ xt 0 n a ≠ xt y' n' a' + 1) ?_ ?_ ?_ <;> intro hn' ha' <;> refine ⟨fun e => ?_, fun e => ?_⟩ <;> simp only [xt] at e <;> rcases (show n = 0 ∨ n = 1 by omega) with rfl | rfl <;> rcases (show n' = 0 ∨ n' = 1 by omega) with rfl | rfl <;> first | (exfalso; omega) | exact ⟨rfl, by omega, by omega⟩
  · intro hn ha
    refine vt_cases h' (P := fun y' n' a' => (xt 1 n a = xt y' n' a' → 1 = y' ∧ n = n' ∧ a = a') ∧ xt 1 n a ≠ xt y' n' a' + 1) ?_ ?_ ?_ <;> intro hn' ha' <;> refine ⟨fun e => ?_, fun e => ?_⟩ <;> simp only [xt] at e <;> rcases (show n = 0 ∨ n = 1 by omega) with rfl | rfl <;> rcases (show n' = 0 ∨ n' = 1 by omega) with rfl | rfl <;> first | (exfalso; omega) | exact ⟨rfl, by omega, by omega⟩
  · intro hn ha
    refine vt_cases h' (P := fun y' n' a' => (xt 2 n a = xt y' n' a' → 2 = y' ∧ n = n' ∧ a = a') ∧ xt 2 n a ≠ xt y' n' a' + 1) ?_ ?_ ?_ <;> intro hn' ha' <;> refine ⟨fun e => ?_, fun e => ?_⟩ <;> simp only [xt] at e <;> rcases (show n = 0 ∨ n = 1 by omega) with rfl | rfl <;> rcases (show n' = 0 ∨ n' = 1 by omega) with rfl | rfl <;> first | (exfalso; omega) | exact ⟨rfl, by omega, by omega⟩
theorem xt_apart {y n a : Nat} (h : vt y n a) : (∀ n', n' < 2 → rC n' ≠ xt y n a ∧ rC n' ≠ xt y n a + 1 ∧ rS n' ≠ xt y n a ∧ rS n' ≠ xt y n a + 1 ∧ rT n' ≠ xt y n a ∧ rT n' ≠ xt y n a + 1) ∧ (∀ n' c, n' < 2 → c < 4 → rF n' c ≠ xt y n a ∧ rF n' c ≠ xt y n a + 1) := by
  refine vt_cases h (P := fun y n a => (∀ n', n' < 2 → rC n' ≠ xt y n a ∧ rC n' ≠ xt y n a + 1 ∧ rS n' ≠ xt y n a ∧ rS n' ≠ xt y n a + 1 ∧ rT n' ≠ xt y n a ∧ rT n' ≠ xt y n a + 1) ∧ (∀ n' c, n' < 2 → c < 4 → rF n' c ≠ xt y n a ∧ rF n' c ≠ xt y n a + 1)) ?_ ?_ ?_ <;> intro hn ha <;> simp only [xt, rC, rS, rT, rF] <;> refine ⟨fun n' hn' => ?_, fun n' c hn' hc => ?_⟩ <;> rcases (show n = 0 ∨ n = 1 by omega) with rfl | rfl <;> rcases (show n' = 0 ∨ n' = 1 by omega) with rfl | rfl <;> omega
theorem TabAt.frame {hp hp' : AH} {i w : Nat} {r : List Row} {cap : Nat} (h : TabAt hp i w r cap) (hz : hsz hp ≤ hsz hp') (h1 : hk hp' i = hk hp i) (h2 : ∀ k, hv hp' i k = hv hp i k) (h3 : hk hp' (aix hp i) = hk hp (aix hp i)) (h4 : ∀ k, hv hp' (aix hp i) k = hv hp (aix hp i) k) : TabAt hp' i w r cap := by
  have e : aix hp' i = aix hp i := by unfold aix; rw [h2 1]
  obtain ⟨a1, a2, a3, a4, a5, a6, a7, a8, a9, a10, a11⟩ := h
  unfold TabAt
  rw [e]
  exact ⟨by rw [h1]; exact a1, by rw [h2]; exact a2, by rw [h2]; exact a3, by rw [h2]; exact a4, a5, Nat.le_trans a6 hz, by rw [h3]; exact a7, a8, a9, fun j hj => by rw [h4]; exact a10 j hj, fun k q hq c hc => by rw [h4]; exact a11 k q hq c hc⟩
theorem Rep.tab {hp hp' : AH} {M : MS} (h : Rep hp M) {y n a : Nat} (ht : vt y n a) {r : List Row} {cap : Nat} (hz : hsz hp ≤ hsz hp') (hfr : ∀ i, i ≤ hsz hp → i ≠ xt y n a → i ≠ aix hp (xt y n a) → hk hp' i = hk hp i ∧ ∀ k, hv hp' i k = hv hp i k) (hT : TabAt hp' (xt y n a) (tw y) r cap) (hA : aix hp' (xt y n a) = aix hp (xt y n a) ∨ hsz hp < aix hp' (xt y n a)) : Rep hp' (sW M (hsz hp') (htot hp') y n a r cap) := by
  obtain ⟨r1, r2, r3, r4, r5, r6, r7, r8, r9, r10, r11, r12, r13⟩ := h
  obtain ⟨d1, d2⟩ := xt_apart ht
  have hl := xt_le ht
  have ha := (r11 y n a ht).2.2.2.2.1
  have key : ∀ i, i ≤ 277 → i ≠ xt y n a → i ≠ xt y n a + 1 → hk hp' i = hk hp i ∧ ∀ k, hv hp' i k = hv hp i k := by
    intro i h1 h2 h3
    refine hfr i (by omega) h2 ?_
    rcases ha with e | e
    · rw [e]; exact h3
    · omega
  have kx : ∀ {g n' a' b k : Nat}, vs g n' a' b k → hk hp' (xi g n' a' b) = hk hp (xi g n' a' b) ∧ ∀ k, hv hp' (xi g n' a' b) k = hv hp (xi g n' a' b) k := by
    intro g n' a' b k hs
    have h1 := (xi_apart hs).2.2.2.2 y n a ht
    exact key _ (xi_le hs).2 h1.1 h1.2
  have kt : ∀ {y' n' a' : Nat}, vt y' n' a' → ¬ (y' = y ∧ n' = n ∧ a' = a) → (hk hp' (xt y' n' a') = hk hp (xt y' n' a') ∧ ∀ k, hv hp' (xt y' n' a') k = hv hp (xt y' n' a') k) ∧ (hk hp' (aix hp (xt y' n' a')) = hk hp (aix hp (xt y' n' a')) ∧ ∀ k, hv hp' (aix hp (xt y' n' a')) k = hv hp (aix hp (xt y' n' a')) k) := by
    intro y' n' a' ht' hne
    obtain ⟨x1, x2⟩ := xt_inj ht' ht
    obtain ⟨x3, x4⟩ := xt_inj ht ht'
    have hl' := xt_le ht'
    have ta := (r11 y' n' a' ht').2.2.2.2
    refine ⟨key _ (by omega) (fun q => hne (x1 q)) x2, hfr _ ta.2.1 ?_ ?_⟩
    · rcases ta.1 with e | e
      · rw [e]; exact fun q => x4 q.symm
      · omega
    · exact fun q => hne (r12 _ _ _ _ _ _ ht' ht q)
  have aixk : ∀ {y' n' a' : Nat}, vt y' n' a' → ¬ (y' = y ∧ n' = n ∧ a' = a) → aix hp' (xt y' n' a') = aix hp (xt y' n' a') := by
    intro y' n' a' ht' hne
    unfold aix
    rw [(kt ht' hne).1.2 1]
  refine ⟨Nat.le_trans r1 hz, rfl, rfl, ?_, ?_, ?_, ?_, ?_, ?_, ?_, ?_, ?_, ?_⟩
  · obtain ⟨a1, a2, a3⟩ := r4
    have h1 : (1 : Nat) ≠ xt y n a ∧ (1 : Nat) ≠ xt y n a + 1 := by
      refine vt_cases ht (P := fun y n a => (1 : Nat) ≠ xt y n a ∧ (1 : Nat) ≠ xt y n a + 1) ?_ ?_ ?_ <;> intro _ _ <;> simp only [xt] <;> omega
    obtain ⟨k1, k2⟩ := key 1 (by decide) h1.1 h1.2
    exact ⟨by rw [k1]; exact a1, by rw [k2]; exact a2, by rw [k2]; exact a3⟩
  · intro n' hn
    obtain ⟨a1, a2, a3, a4, a5, a6, a7⟩ := r5 n' hn
    obtain ⟨k1, k2⟩ := kx (vs0 hn (k := 0) (by decide))
    obtain ⟨q1, q2, q3, q4, q5, q6⟩ := d1 n' hn
    have z1 := key (rC n') (by simp only [rC]; omega) q1 q2
    have z2 := key (rS n') (by simp only [rS]; omega) q3 q4
    have z3 := key (rT n') (by simp only [rT]; omega) q5 q6
    exact ⟨by rw [k1]; exact a1, by rw [k2]; exact a2, by rw [k2]; exact a3, by rw [k2]; exact a4, by rw [z1.1]; exact a5, by rw [z2.1]; exact a6, by rw [z3.1]; exact a7⟩
  · intro n' c hn hc
    obtain ⟨a1, a2, a3, a4, a5, a6, a7⟩ := r6 n' c hn hc
    obtain ⟨k1, k2⟩ := kx (vs1 hn hc (k := 2) (by decide))
    have k3 := kx (vs3 hn hc (k := 0) (by decide))
    obtain ⟨q1, q2, q3, q4, q5, q6⟩ := d1 n' hn
    have z1 := key (rC n') (by simp only [rC]; omega) q1 q2
    have z2 := key (rF n' c) (by simp only [rF]; omega) (d2 n' c hn hc).1 (d2 n' c hn hc).2
    exact ⟨by rw [z1.2]; exact a1, by rw [k1]; exact a2, by rw [k2]; exact a3, by rw [k2]; exact a4, by rw [k2]; exact a5, by rw [z2.1]; exact a6, by rw [k3.1]; exact a7⟩
  · intro n' c f hn hc hf
    obtain ⟨a1, a2⟩ := r7 n' c f hn hc hf
    have k1 := kx (vs2 hn hc hf (k := 0) (by decide))
    have z2 := key (rF n' c) (by simp only [rF]; omega) (d2 n' c hn hc).1 (d2 n' c hn hc).2
    exact ⟨by rw [z2.2]; exact a1, by rw [k1.1]; exact a2⟩
  · intro n' f hn hf
    obtain ⟨a1, a2, a3, a4, a5⟩ := r8 n' f hn hf
    obtain ⟨k1, k2⟩ := kx (vs4 hn hf (k := 0) (by decide))
    have k3 := kx (vs5 hn hf (k := 0) (by decide))
    obtain ⟨q1, q2, q3, q4, q5, q6⟩ := d1 n' hn
    have z2 := key (rS n') (by simp only [rS]; omega) q3 q4
    exact ⟨by rw [z2.2]; exact a1, by rw [k1]; exact a2, by rw [k2]; exact a3, by rw [k2]; exact a4, by rw [k3.1]; exact a5⟩
  · intro n' k hn hk
    obtain ⟨q1, q2, q3, q4, q5, q6⟩ := d1 n' hn
    have z3 := key (rT n') (by simp only [rT]; omega) q5 q6
    rw [z3.2]
    exact r9 n' k hn hk
  · intro g n' a' b k hs
    rw [(kx hs).2]
    exact r10 g n' a' b k hs
  · intro y' n' a' ht'
    by_cases hne : y' = y ∧ n' = n ∧ a' = a
    · obtain ⟨rfl, rfl, rfl⟩ := hne
      have e1 : gT (sW M (hsz hp') (htot hp') y' n' a' r cap) y' n' a' = r := by show (if _ then (r, cap) else _).1 = r; rw [if_pos ⟨rfl, rfl, rfl⟩]
      have e2 : gP (sW M (hsz hp') (htot hp') y' n' a' r cap) y' n' a' = cap := by show (if _ then (r, cap) else _).2 = cap; rw [if_pos ⟨rfl, rfl, rfl⟩]
      rw [e1, e2]
      exact hT
    · have e1 : gT (sW M (hsz hp') (htot hp') y n a r cap) y' n' a' = gT M y' n' a' := by show (if _ then (r, cap) else _).1 = _; rw [if_neg hne]
      have e2 : gP (sW M (hsz hp') (htot hp') y n a r cap) y' n' a' = gP M y' n' a' := by show (if _ then (r, cap) else _).2 = _; rw [if_neg hne]
      rw [e1, e2]
      obtain ⟨k1, k2⟩ := kt ht' hne
      exact (r11 y' n' a' ht').frame hz k1.1 k1.2 k2.1 k2.2
  · intro y1 n1 a1 y2 n2 a2 t1 t2 e
    by_cases c1 : y1 = y ∧ n1 = n ∧ a1 = a
    · obtain ⟨rfl, rfl, rfl⟩ := c1
      by_cases c2 : y2 = y1 ∧ n2 = n1 ∧ a2 = a1
      · exact ⟨c2.1.symm, c2.2.1.symm, c2.2.2.symm⟩
      · rw [aixk t2 c2] at e
        rcases hA with hA | hA
        · rw [hA] at e; exact r12 _ _ _ _ _ _ t1 t2 e
        · have := (r11 _ _ _ t2).2.2.2.2.2.1
          omega
    · rw [aixk t1 c1] at e
      by_cases c2 : y2 = y ∧ n2 = n ∧ a2 = a
      · obtain ⟨rfl, rfl, rfl⟩ := c2
        rcases hA with hA | hA
        · rw [hA] at e; exact r12 _ _ _ _ _ _ t1 t2 e
        · have := (r11 _ _ _ t1).2.2.2.2.2.1
          omega
      · rw [aixk t2 c2] at e
        exact r12 _ _ _ _ _ _ t1 t2 e
  · intro i l f hx
    obtain ⟨x1, x2, x3, x4, x5⟩ := r13 i l f hx
    obtain ⟨k1, k2⟩ := hfr i x2 (by omega) (fun q => x5 y n a ht q.symm)
    refine ⟨x1, Nat.le_trans x2 hz, by rw [k1]; exact x3, fun k hk => by rw [k2]; exact x4 k hk, fun y' n' a' ht' => ?_⟩
    by_cases c2 : y' = y ∧ n' = n ∧ a' = a
    · obtain ⟨rfl, rfl, rfl⟩ := c2
      rcases hA with hA | hA
      · rw [hA]; exact x5 _ _ _ ht'
      · omega
    · rw [aixk ht' c2]
      exact x5 _ _ _ ht'
