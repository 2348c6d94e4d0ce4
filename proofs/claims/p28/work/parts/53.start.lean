/-! ===== the cache is made: the state in numbers, at the start ===== -/
section START
variable {L : Nat} {xs : Nat → Int32} {d : Nat} {hp : AH}
def IN (hp : AH) : Prop := hsz hp = 277 ∧ htot hp = 3538 ∧ hk hp 1 = (5, 2) ∧ hv hp 1 0 = .ref 2 ∧ hv hp 1 1 = .ref 140 ∧ NtAt hp 2 4 12 9 ∧ NtAt hp 140 4 12 9
/-- made -/
theorem s_xInit (hz : hsz hp = 1) (ht : htot hp = 2) (hkk : hk hp 1 = (5, 2)) : WM L xs (d + 4) mX5_init [.ref 1] hp (fun v hp' => v = none ∧ IN hp') := by
  refine WM.of [some (.ref 1)] (by decide) rfl (Nat.le_of_ble_eq_true rfl) ?_
  refine wp_aload_n (i := 0) dX5_init_0 rfl rfl ?_
  refine wp_obj dX5_init_1 o_X5_1 (by decide) (by decide) ?_
  refine wp_aload_n (i := 0) dX5_init_4 rfl rfl ?_
  refine wp_new dX5_init_5 n_X5_7 ?_
  refine wp_dup dX5_init_8 rfl ?_
  rw [show hsz hp + 1 = 2 by omega]
  refine wp_callI (N := mX2_init) (as := []) dX5_init_9 l_X5_9 v_X2_init rfl (by decide) rfl (Nat.le_of_ble_eq_true rfl) (s_nInit (z := 2) (by decide) (by rw [hsz_new, hz]) (by rw [hk_new, if_pos (by omega)]) (fun k hk => by rw [hv_nu, if_pos (by omega)]; exact zf2 hk)) (fun v hp9 hq => ?_)
  obtain ⟨rfl, z1, t1, k1, n1⟩ := hq
  have e1 := k1 1 (by decide)
  refine wp_put (ci := 5) (n := 2) (k := 0) dX5_init_12 ⟨by decide, by omega, by rw [e1.1, hk_new, if_neg (by omega)]; exact hkk⟩ (p_X5_10 rfl rfl) (fun _ _ => ⟨rfl, rfl⟩) (by decide) ?_
  refine wp_aload_n (i := 0) dX5_init_15 rfl rfl ?_
  refine wp_new dX5_init_16 n_X5_7 ?_
  refine wp_dup dX5_init_19 rfl ?_
  rw [show hsz (hset hp9 1 0 (.ref 2)) + 1 = 140 by rw [hsz_set]; omega]
  refine wp_callI (N := mX2_init) (as := []) dX5_init_20 l_X5_9 v_X2_init rfl (by decide) rfl (Nat.le_of_ble_eq_true rfl) (s_nInit (z := 140) (by decide) (by rw [hsz_new, hsz_set]; omega) (by rw [hk_new, if_pos (by rw [hsz_set]; omega)]) (fun k hk => by rw [hv_nu, if_pos (by rw [hsz_set]; omega)]; exact zf2 hk)) (fun v hp8 hq => ?_)
  obtain ⟨rfl, z2, t2, k2, n2⟩ := hq
  have e2 := k2 1 (by decide)
  refine wp_put (ci := 5) (n := 2) (k := 1) dX5_init_23 ⟨by decide, by omega, by rw [e2.1, hk_new, if_neg (by rw [hsz_set]; omega), hk_set, e1.1, hk_new, if_neg (by omega)]; exact hkk⟩ (p_X5_16 rfl rfl) (fun _ _ => ⟨rfl, rfl⟩) (by decide) ?_
  refine wp_ret (v := none) dX5_init_26 rfl ?_
  refine ⟨trivial, rfl, by rw [hsz_set]; omega, ?_, ?_, ?_, ?_, ?_, ?_⟩
  · rw [htot_set, t2, htot_new, htot_set, t1, htot_new, ht]
  · rw [hk_set, e2.1, hk_new, if_neg (by rw [hsz_set]; omega), hk_set, e1.1, hk_new, if_neg (by omega)]; exact hkk
  · rw [hv_set, if_neg (by omega), e2.2, hv_nu, if_neg (by rw [hsz_set]; omega), hv_set, if_pos ⟨rfl, rfl⟩]
  · rw [hv_set, if_pos ⟨rfl, rfl⟩]
  · refine n1.sm (fun j a b => ⟨?_, fun l => ?_⟩)
    · rw [hk_set, (k2 j (by omega)).1, hk_new, if_neg (by rw [hsz_set]; omega), hk_set]
    · rw [hv_set, if_neg (by omega), (k2 j (by omega)).2, hv_nu, if_neg (by rw [hsz_set]; omega), hv_set, if_neg (by omega)]
  · exact n2.sm (fun j a b => ⟨rfl, fun l => by rw [hv_set, if_neg (by omega)]⟩)
theorem TbAt.tab {i w : Nat} (h : TbAt hp i w) (hi : i + 1 ≤ hsz hp) : TabAt hp i w [] 8 ∧ aix hp i = i + 1 := by
  obtain ⟨a1, a2, a3, a4, a5, a6⟩ := h
  have e : aix hp i = i + 1 := by unfold aix; rw [a3]
  refine ⟨⟨a1, a2, a4, by rw [e]; exact a3, Or.inl e, by rw [e]; exact hi, by rw [e]; exact a5, Nat.zero_le _, by decide, fun j _ => ⟨0, by rw [e]; exact a6 j⟩, fun k q hq => by cases hq⟩, e⟩
/-- the state at the start -/
def M0 (hp : AH) : MS := (hsz hp, htot hp, (fun g n a b k => toI (hv hp (xi g n a b) k)), (fun _ _ _ => ([], 8)), fun _ => none)
theorem IN.net {n : Nat} (h : IN hp) (hn : n < 2) : NtAt hp (2 + 138 * n) 4 12 9 := by
  rcases (show n = 0 ∨ n = 1 by omega) with rfl | rfl
  · exact h.2.2.2.2.2.1
  · exact h.2.2.2.2.2.2
theorem IN.cl {n c : Nat} (h : IN hp) (hn : n < 2) (hc : c < 4) : hv hp (rC n) c = .ref (xi 1 n c 0) ∧ CaAt hp (xi 1 n c 0) 12 := by
  have h9 := (h.net hn).2.2.2.2.2.2.2.2.1 c hc
  rw [show 2 + 138 * n + 1 = rC n by simp only [rC]; omega, show 2 + 138 * n + 4 + 17 * c = xi 1 n c 0 by simp only [xi]; omega] at h9
  exact h9
theorem IN.sh {n f : Nat} (h : IN hp) (hn : n < 2) (hf : f < 12) : hv hp (rS n) f = .ref (xi 4 n f 0) ∧ ShAt hp (xi 4 n f 0) := by
  have h9 := (h.net hn).2.2.2.2.2.2.2.2.2.1 f hf
  rw [show 2 + 138 * n + 2 = rS n by simp only [rS]; omega, show 2 + 138 * n + 72 + 4 * f = xi 4 n f 0 by simp only [xi]; omega] at h9
  exact h9
theorem IN.sl {n k : Nat} (h : IN hp) (hn : n < 2) (hk : k < 9) : hv hp (rT n) k = .ref (xt 2 n k) ∧ TbAt hp (xt 2 n k) 8 := by
  have h9 := (h.net hn).2.2.2.2.2.2.2.2.2.2 k hk
  rw [show 2 + 138 * n + 3 = rT n by simp only [rT]; omega, show 2 + 138 * n + 120 + 2 * k = xt 2 n k by simp only [xt]; omega] at h9
  exact h9
theorem IN.tb {y n a : Nat} (h : IN hp) (ht : vt y n a) : TbAt hp (xt y n a) (tw y) := by
  refine vt_cases ht (P := fun y n a => TbAt hp (xt y n a) (tw y)) (fun hn ha => ?_) (fun hn ha => ?_) (fun hn ha => (h.sl hn ha).2)
  · have h9 := (h.cl hn ha).2.2.2.2.2.2.2.2.2.1
    rw [show xi 1 n a 0 + 3 = xt 0 n a by simp only [xi, xt]; omega] at h9
    exact h9
  · have h9 := (h.sh hn ha).2.2.2.2.2.2.2
    rw [show xi 4 n a 0 + 2 = xt 1 n a by simp only [xi, xt]; omega] at h9
    exact h9
theorem IN.nums {g n a b k : Nat} (h : IN hp) (hs : vs g n a b k) : ∃ v, hv hp (xi g n a b) k = .int v ∧ okg g k v := by
  obtain ⟨hn, h2⟩ := hs
  match g, h2 with
  | 0, h2 =>
    have h2 : a = 0 ∧ b = 0 ∧ k < 5 := h2
    refine ⟨_, (h.net hn).2.1 k h2.2.2, Or.inr (Or.inr ?_)⟩
    rcases (show k = 0 ∨ k = 1 ∨ k = 2 ∨ k = 3 ∨ k = 4 by omega) with rfl | rfl | rfl | rfl | rfl <;> exact okI rfl
  | 1, h2 =>
    have h2 : a < 4 ∧ b = 0 ∧ (k = 2 ∨ (4 ≤ k ∧ k < 12)) := h2
    obtain ⟨ha, rfl, hk⟩ := h2
    refine ⟨_, (h.cl hn ha).2.2.1 k hk, Or.inr (Or.inr ?_)⟩
    rcases (show k = 2 ∨ k = 4 ∨ k = 5 ∨ k = 6 ∨ k = 7 ∨ k = 8 ∨ k = 9 ∨ k = 10 ∨ k = 11 by omega) with rfl | rfl | rfl | rfl | rfl | rfl | rfl | rfl | rfl <;> first | exact okI rfl | exact okB rfl (Or.inl rfl)
  | 2, h2 =>
    have h2 : a < 4 ∧ b < 12 ∧ k < 8 := h2
    obtain ⟨ha, hb, hk⟩ := h2
    have h9 := ((h.cl hn ha).2.2.2.2.2.2.2.2.2.2 b hb).2.2 k hk
    rw [show xi 1 n a 0 + 5 + b = xi 2 n a b by simp only [xi]; omega] at h9
    refine ⟨_, h9, Or.inr (Or.inr ?_)⟩
    rcases (show k = 0 ∨ k = 1 ∨ k = 2 ∨ k = 3 ∨ k = 4 ∨ k = 5 ∨ k = 6 ∨ k = 7 by omega) with rfl | rfl | rfl | rfl | rfl | rfl | rfl | rfl <;> first | exact okI rfl | exact okB rfl (Or.inl rfl)
  | 3, h2 =>
    have h2 : a < 4 ∧ b = 0 ∧ k < 12 := h2
    have h9 := (h.cl hn h2.1).2.2.2.2.2.2.2.2.1 k
    rw [show xi 1 n a 0 + 2 = xi 3 n a b by simp only [xi]; omega] at h9
    exact ⟨_, h9, Or.inl rfl⟩
  | 4, h2 =>
    have h2 : a < 12 ∧ b = 0 ∧ (k < 2 ∨ k = 4) := h2
    obtain ⟨ha, rfl, hk⟩ := h2
    refine ⟨_, (h.sh hn ha).2.2.1 k hk, Or.inr (Or.inr ?_)⟩
    rcases (show k = 0 ∨ k = 1 ∨ k = 4 by omega) with rfl | rfl | rfl <;> first | exact okI rfl | exact okB rfl (Or.inl rfl)
  | 5, h2 =>
    have h2 : a < 12 ∧ b = 0 ∧ k < 4 := h2
    have h9 := (h.sh hn h2.1).2.2.2.2.2.2.1 k
    rw [show xi 4 n a 0 + 1 = xi 5 n a b by simp only [xi]; omega] at h9
    exact ⟨_, h9, Or.inr (Or.inl rfl)⟩
  | g + 6, h2 => exact h2.elim
theorem IN.rep (h : IN hp) : Rep hp (M0 hp) := by
  have hz := h.1
  refine ⟨by omega, rfl, rfl, ⟨h.2.2.1, h.2.2.2.1, h.2.2.2.2.1⟩, fun n hn => ?_, fun n c hn hc => ?_, fun n c f hn hc hf => ?_, fun n f hn hf => ?_, fun n k hn hk => (h.sl hn hk).1, fun g n a b k hs => ?_, fun y n a ht => ?_, fun y n a y' n' a' ht ht' e => ?_, fun i l f hx => by cases hx⟩
  · obtain ⟨a1, a2, a3, a4, a5, a6, a7, a8, -⟩ := h.net hn
    rw [show 2 + 138 * n + 1 = rC n by simp only [rC]; omega] at a3 a6
    rw [show 2 + 138 * n + 2 = rS n by simp only [rS]; omega] at a4 a7
    rw [show 2 + 138 * n + 3 = rT n by simp only [rT]; omega] at a5 a8
    exact ⟨a1, a3, a4, a5, a6, a7, a8⟩
  · obtain ⟨b1, a1, a2, a3, a4, a5, a6, a7, a8, a9, a10⟩ := h.cl hn hc
    rw [show xi 1 n c 0 + 1 = rF n c by simp only [xi, rF]; omega] at a3 a6
    rw [show xi 1 n c 0 + 2 = xi 3 n c 0 by simp only [xi]; omega] at a4 a7
    rw [show xi 1 n c 0 + 3 = xt 0 n c by simp only [xi, xt]; omega] at a5
    exact ⟨b1, a1, a3, a4, a5, a6, a7⟩
  · obtain ⟨b1, a1, a2, a3, a4, a5, a6, a7, a8, a9, a10⟩ := h.cl hn hc
    have h9 := a10 f hf
    rw [show xi 1 n c 0 + 1 = rF n c by simp only [xi, rF]; omega, show xi 1 n c 0 + 5 + f = xi 2 n c f by simp only [xi]; omega] at h9
    exact ⟨h9.1, h9.2.1⟩
  · obtain ⟨b1, a1, a2, a3, a4, a5, a6, a7⟩ := h.sh hn hf
    rw [show xi 4 n f 0 + 1 = xi 5 n f 0 by simp only [xi]; omega] at a3 a5
    rw [show xi 4 n f 0 + 2 = xt 1 n f by simp only [xi, xt]; omega] at a4
    exact ⟨b1, a1, a3, a4, a5⟩
  · obtain ⟨v, h1, h2⟩ := h.nums hs
    have e : gV (M0 hp) g n a b k = v := by show toI (hv hp (xi g n a b) k) = v; rw [h1]; rfl
    rw [e]
    exact ⟨h1, h2⟩
  · exact ((h.tb ht).tab (by have := (xt_le ht).2; omega)).1
  · rw [((h.tb ht).tab (by have := (xt_le ht).2; omega)).2, ((h.tb ht').tab (by have := (xt_le ht').2; omega)).2] at e
    exact (xt_inj ht ht').1 (by omega)
/-- nothing has happened -/
theorem IN.fr (h : IN hp) : Fr hp (M0 hp) 0 0 0 (fun _ => 1) := by
  have v0 : ∀ k, k < 5 → gV (M0 hp) 0 0 0 0 k = (if k = 1 then 20 else if k = 2 then 5 else if k = 3 then 4 else 0) := fun k hk => by
    show toI (hv hp (xi 0 0 0 0) k) = _
    rw [show hv hp (xi 0 0 0 0) k = _ from (h.net (n := 0) (by decide)).2.1 k hk]; rfl
  have v1 : ∀ c k, c < 4 → (k = 2 ∨ (4 ≤ k ∧ k < 12)) → gV (M0 hp) 1 0 c 0 k = (if k = 4 then 1 else 0) := fun c k hc hk => by
    show toI (hv hp (xi 1 0 c 0) k) = _
    rw [(h.cl (n := 0) (by decide) hc).2.2.1 k hk]; rfl
  have v2 : ∀ c f k, c < 4 → f < 12 → k < 8 → gV (M0 hp) 2 0 c f k = (if k = 3 then -1 else 0) := fun c f k hc hf hk => by
    have h9 := ((h.cl (n := 0) (by decide) hc).2.2.2.2.2.2.2.2.2.2 f hf).2.2 k hk
    rw [show xi 1 0 c 0 + 5 + f = xi 2 0 c f by simp only [xi]; omega] at h9
    show toI (hv hp (xi 2 0 c f) k) = _
    rw [h9]; rfl
  have v4 : ∀ f k, f < 12 → (k < 2 ∨ k = 4) → gV (M0 hp) 4 0 f 0 k = 0 := fun f k hf hk => by
    show toI (hv hp (xi 4 0 f 0) k) = _
    rw [(h.sh (n := 0) (by decide) hf).2.2.1 k hk]; rfl
  have hv : ∀ f, f < 12 → vrs (M0 hp) 0 f = 0 := fun f hf => by
    show vN (gV (M0 hp) 4 0 f 0 1) = 0
    rw [v4 f 1 hf (by decide)]; decide
  have c0 : cOk 0 := cOk_nI (k := 0) (by decide)
  refine ⟨⟨⟨h.rep, ⟨?_, ?_, fun y n a ht => ⟨⟨0, rfl⟩, ?_⟩⟩, ⟨⟨by decide, by decide, v0 0 (by decide), v0 4 (by decide), 4, by decide, v0 3 (by decide)⟩, fun c hc => ?_, fun f hf => ?_, fun k hk q hq => by cases hq⟩, ?_⟩, rfl⟩, fun k hk => rfl, fun c hc => ⟨v1 c 7 hc (by decide), v1 c 8 hc (by decide)⟩⟩
  · show hsz hp ≤ _
    rw [h.1]; exact Nat.le_of_ble_eq_true rfl
  · show htot hp ≤ _
    have e : ∀ y n a, gP (M0 hp) y n a = 8 := fun _ _ _ => rfl
    rw [h.2.1]
    simp only [SQ, sN, e]
    decide
  · show 8 ≤ cB y
    refine vt_cases ht (P := fun y _ _ => 8 ≤ cB y) (fun _ _ => ?_) (fun _ _ => ?_) (fun _ _ => ?_) <;> decide
  · have o1 : ∀ f : Nat, f ∈ ([] : List Nat) → f < 12 := fun f hf => by cases hf
    have o2 : ∀ (k f : Nat), ([] : List Nat)[k]? = some f → gV (M0 hp) 3 0 c 0 k = nI f := fun k f hf => by cases hf
    have o : CI (M0 hp) 0 c [] := ⟨⟨v1 c 2 hc (by decide), Nat.zero_le _, o1, o2⟩, List.nodup_nil, Nat.zero_le _, fun f hf => ⟨fun q => absurd (v2 c f 0 hc hf (by decide)) q, fun q => by cases q⟩, fun f hf q => absurd (v2 c f 4 hc hf (by decide)) q⟩
    refine ⟨⟨[], o⟩, v1 c 4 hc (by decide), ⟨Nat.le_refl 1, Nat.le_of_ble_eq_true rfl⟩, fun q => absurd (v1 c 6 hc (by decide)) q, Nat.zero_le _, fun f hf => ?_, fun _ => ⟨v1 c 6 hc (by decide), v1 c 11 hc (by decide)⟩⟩
    unfold HJ
    rw [v2 c f 1 hc hf (by decide), v2 c f 2 hc hf (by decide)]
    exact ⟨c0, by decide, Nat.le_trans (show vN 0 ≤ 0 by decide) (Nat.zero_le _)⟩
  · unfold SJ
    rw [v4 f 0 hf (by decide), v4 f 1 hf (by decide), hv f hf]
    exact ⟨c0, rfl, fun q hq => by cases hq⟩
  · refine ⟨⟨Nat.zero_le _, by decide, FL_le _ _, Nat.le_trans (sN_bd (k := 12) (b := 1) (fun f _ => bz_le _)) (by decide)⟩, fun c hc => Nat.zero_le _, fun c hc => Nat.zero_le _, fun f hf => ?_, fun k c hk hc => ⟨Nat.zero_le _, Nat.zero_le _⟩, fun c hc => ?_⟩
    · show vrs (M0 hp) 0 f + 0 + 0 ≤ _
      rw [hv f hf]; exact Nat.zero_le _
    · show gV (M0 hp) 1 0 c 0 9 = nI (vN (gV (M0 hp) 1 0 c 0 9)) ∧ vN (gV (M0 hp) 1 0 c 0 9) + (0 - 0) ≤ _
      rw [v1 c 9 hc (by decide)]
      exact ⟨by decide, Nat.le_trans (show vN (if 9 = 4 then 1 else 0) + (0 - 0) ≤ 0 by decide) (Nat.zero_le _)⟩
end START
