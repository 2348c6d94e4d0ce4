/-! ===== constructors, on an abstract heap: the object that is made is its last cell ===== -/
theorem hk_set (hp : AH) (i k : Nat) (v : Value) (j : Nat) : hk (hset hp i k v) j = hk hp j := rfl
theorem hsz_set (hp : AH) (i k : Nat) (v : Value) : hsz (hset hp i k v) = hsz hp := rfl
theorem htot_set (hp : AH) (i k : Nat) (v : Value) : htot (hset hp i k v) = htot hp := rfl
theorem hk_new (hp : AH) (t n : Nat) (z : Nat → Value) (j : Nat) : hk (hnew hp t n z) j = if j = hsz hp + 1 then (t, n) else hk hp j := rfl
theorem hv_nu (hp : AH) (t n : Nat) (z : Nat → Value) (j k : Nat) : hv (hnew hp t n z) j k = if j = hsz hp + 1 then z k else hv hp j k := rfl
theorem hsz_new (hp : AH) (t n : Nat) (z : Nat → Value) : hsz (hnew hp t n z) = hsz hp + 1 := rfl
theorem htot_new (hp : AH) (t n : Nat) (z : Nat → Value) : htot (hnew hp t n z) = htot hp + n := rfl
theorem zf0 {k : Nat} (h : k = 2 ∨ (4 ≤ k ∧ k < 12)) : zf 0 k = .int 0 := by
  rcases (show k = 2 ∨ k = 4 ∨ k = 5 ∨ k = 6 ∨ k = 7 ∨ k = 8 ∨ k = 9 ∨ k = 10 ∨ k = 11 by omega) with rfl | rfl | rfl | rfl | rfl | rfl | rfl | rfl | rfl <;> rfl
theorem zf1 {k : Nat} (h : k < 8) : zf 1 k = .int 0 := by
  rcases (show k = 0 ∨ k = 1 ∨ k = 2 ∨ k = 3 ∨ k = 4 ∨ k = 5 ∨ k = 6 ∨ k = 7 by omega) with rfl | rfl | rfl | rfl | rfl | rfl | rfl | rfl <;> rfl
theorem zf2 {k : Nat} (h : k < 5) : zf 2 k = .int 0 := by
  rcases (show k = 0 ∨ k = 1 ∨ k = 2 ∨ k = 3 ∨ k = 4 by omega) with rfl | rfl | rfl | rfl | rfl <;> rfl
theorem zf3 {k : Nat} (h : k < 2 ∨ k = 4) : zf 3 k = .int 0 := by
  rcases (show k = 0 ∨ k = 1 ∨ k = 4 by omega) with rfl | rfl | rfl <;> rfl
/-- what lies ahead of cell i is as it was -/
def Kp (hp hp' : AH) (i : Nat) : Prop := ∀ j, j < i → hk hp' j = hk hp j ∧ ∀ l, hv hp' j l = hv hp j l
theorem Kp.trans {hp hp' hp'' : AH} {i i' : Nat} (h : Kp hp hp' i) (h' : Kp hp' hp'' i') (hi : i ≤ i') : Kp hp hp'' i := fun j hj => ⟨((h' j (by omega)).1).trans (h j hj).1, fun l => ((h' j (by omega)).2 l).trans ((h j hj).2 l)⟩
def TbAt (hp : AH) (i w : Nat) : Prop := hk hp i = (4, 3) ∧ hv hp i 0 = .int (nI w) ∧ hv hp i 1 = .ref (i + 1) ∧ hv hp i 2 = .int 0 ∧ hk hp (i + 1) = (6, w * 8) ∧ ∀ l, hv hp (i + 1) l = .int 0
def HeAt (hp : AH) (i : Nat) : Prop := hk hp i = (1, 8) ∧ ∀ k, k < 8 → hv hp i k = .int (if k = 3 then -1 else 0)
def ShAt (hp : AH) (i : Nat) : Prop := hk hp i = (3, 5) ∧ (∀ k, (k < 2 ∨ k = 4) → hv hp i k = .int 0) ∧ hv hp i 2 = .ref (i + 1) ∧ hv hp i 3 = .ref (i + 2) ∧ hk hp (i + 1) = (6, 4) ∧ (∀ l, hv hp (i + 1) l = .int 0) ∧ TbAt hp (i + 2) 4
def CaAt (hp : AH) (i a : Nat) : Prop := hk hp i = (0, 12) ∧ (∀ k, (k = 2 ∨ (4 ≤ k ∧ k < 12)) → hv hp i k = .int (if k = 4 then 1 else 0)) ∧ hv hp i 0 = .ref (i + 1) ∧ hv hp i 1 = .ref (i + 2) ∧ hv hp i 3 = .ref (i + 3) ∧ hk hp (i + 1) = (8, 12) ∧ hk hp (i + 2) = (6, 12) ∧ (∀ l, hv hp (i + 2) l = .int 0) ∧ TbAt hp (i + 3) 2 ∧ ∀ f, f < a → hv hp (i + 1) f = .ref (i + 5 + f) ∧ HeAt hp (i + 5 + f)
/-- the same cells in another heap -/
def Sm (hp hp' : AH) (i n : Nat) : Prop := ∀ j, i ≤ j → j < i + n → hk hp' j = hk hp j ∧ ∀ l, hv hp' j l = hv hp j l
theorem Sm.sub {hp hp' : AH} {i n i' n' : Nat} (h : Sm hp hp' i n) (h1 : i ≤ i') (h2 : i' + n' ≤ i + n) : Sm hp hp' i' n' := fun j a b => h j (by omega) (by omega)
theorem Kp.sm {hp hp' : AH} {i i' n : Nat} (h : Kp hp hp' i) (h1 : i' + n ≤ i) : Sm hp hp' i' n := fun j _ b => h j (by omega)
theorem TbAt.sm {hp hp' : AH} {i w : Nat} (h : TbAt hp i w) (hs : Sm hp hp' i 2) : TbAt hp' i w := by
  obtain ⟨a1, a2, a3, a4, a5, a6⟩ := h
  have s0 := hs i (Nat.le_refl _) (by omega)
  have s1 := hs (i + 1) (by omega) (by omega)
  exact ⟨by rw [s0.1]; exact a1, by rw [s0.2]; exact a2, by rw [s0.2]; exact a3, by rw [s0.2]; exact a4, by rw [s1.1]; exact a5, fun l => by rw [s1.2]; exact a6 l⟩
theorem HeAt.sm {hp hp' : AH} {i : Nat} (h : HeAt hp i) (hs : Sm hp hp' i 1) : HeAt hp' i := by
  have s0 := hs i (Nat.le_refl _) (by omega)
  exact ⟨by rw [s0.1]; exact h.1, fun k hk => by rw [s0.2]; exact h.2 k hk⟩
theorem ShAt.sm {hp hp' : AH} {i : Nat} (h : ShAt hp i) (hs : Sm hp hp' i 4) : ShAt hp' i := by
  obtain ⟨a1, a2, a3, a4, a5, a6, a7⟩ := h
  have s0 := hs i (Nat.le_refl _) (by omega)
  have s1 := hs (i + 1) (by omega) (by omega)
  exact ⟨by rw [s0.1]; exact a1, fun k hk => by rw [s0.2]; exact a2 k hk, by rw [s0.2]; exact a3, by rw [s0.2]; exact a4, by rw [s1.1]; exact a5, fun l => by rw [s1.2]; exact a6 l, a7.sm (hs.sub (by omega) (by omega))⟩
theorem CaAt.sm {hp hp' : AH} {i a : Nat} (h : CaAt hp i a) (hs : Sm hp hp' i (5 + a)) : CaAt hp' i a := by
  obtain ⟨a1, a2, a3, a4, a5, a6, a7, a8, a9, a10⟩ := h
  have s0 := hs i (Nat.le_refl _) (by omega)
  have s1 := hs (i + 1) (by omega) (by omega)
  have s2 := hs (i + 2) (by omega) (by omega)
  exact ⟨by rw [s0.1]; exact a1, fun k hk => by rw [s0.2]; exact a2 k hk, by rw [s0.2]; exact a3, by rw [s0.2]; exact a4, by rw [s0.2]; exact a5, by rw [s1.1]; exact a6, by rw [s2.1]; exact a7, fun l => by rw [s2.2]; exact a8 l, a9.sm (hs.sub (by omega) (by omega)), fun f hf => ⟨by rw [s1.2]; exact (a10 f hf).1, (a10 f hf).2.sm (hs.sub (by omega) (by omega))⟩⟩
section MAKE
variable {L : Nat} {xs : Nat → Int32} {d : Nat} {hp : AH}
/-- a file as a client knows it -/
theorem s_hInit {i : Nat} (h1 : 1 ≤ i) (hi : i ≤ hsz hp) (hkk : hk hp i = (1, 8)) : WM L xs (d + 1) mX1_init [.ref i] hp (fun v hp' => v = none ∧ hp' = hset hp i 3 (.int (-1))) := by
  refine WM.of [some (.ref i)] (by decide) rfl (Nat.le_of_ble_eq_true rfl) ?_
  refine wp_aload_n (i := 0) dX1_init_0 rfl rfl ?_
  refine wp_obj dX1_init_1 o_X1_3 h1 (by decide) ?_
  refine wp_aload_n (i := 0) dX1_init_4 rfl rfl ?_
  refine wp_iconst (v := (-1)) dX1_init_5 rfl ?_
  refine wp_put (ci := 1) (n := 8) dX1_init_6 ⟨h1, hi, hkk⟩ (p_X1_9 rfl) (okI rfl) (by decide) ?_
  refine wp_ret (v := none) dX1_init_9 rfl ?_
  exact ⟨trivial, rfl, rfl⟩
/-- a table -/
theorem s_tInit {i w : Nat} (h1 : 1 ≤ i) (hz : hsz hp = i) (hkk : hk hp i = (4, 3)) (h2 : hv hp i 2 = .int 0) (hw : 1 ≤ w) (hw8 : w ≤ 8) : WM L xs (d + 1) mX4_init [.ref i, .int (nI w)] hp (fun v hp' => v = none ∧ hsz hp' = i + 1 ∧ htot hp' = htot hp + w * 8 ∧ Kp hp hp' i ∧ TbAt hp' i w) := by
  refine WM.of [some (.ref i), some (.int (nI w))] (by decide) rfl (Nat.le_of_ble_eq_true rfl) ?_
  refine wp_aload_n (i := 0) dX4_init_0 rfl rfl ?_
  refine wp_obj dX4_init_1 o_X4_3 h1 (by decide) ?_
  refine wp_aload_n (i := 0) dX4_init_4 rfl rfl ?_
  refine wp_iload_n (i := 1) dX4_init_5 rfl rfl ?_
  refine wp_iconst (v := 1) dX4_init_6 rfl ?_
  refine wp_max dX4_init_7 mx_X4_9 (Nat.le_of_ble_eq_true rfl) ?_
  have e : (if nI w < 1 then (1 : Int32) else nI w) = nI w := if_neg (show ¬ nI w < nI 1 from nI_nlt hw (by omega))
  rw [e]
  refine wp_put (ci := 4) (n := 3) (k := 0) dX4_init_10 ⟨h1, by omega, hkk⟩ (p_X4_15 rfl rfl) (okI rfl) (by decide) ?_
  refine wp_aload_n (i := 0) dX4_init_13 rfl rfl ?_
  refine wp_aload_n (i := 0) dX4_init_14 rfl rfl ?_
  refine wp_get (ci := 4) (n := 3) (k := 0) dX4_init_15 ⟨h1, by rw [hsz_set]; omega, hkk⟩ f_X4_15 (by decide) ?_
  rw [show hv (hset hp i 0 (.int (nI w))) i 0 = .int (nI w) from if_pos ⟨rfl, rfl⟩]
  refine wp_bipush (v := nI 8) dX4_init_18 (by decide) ?_
  refine wp_imul dX4_init_20 ?_
  rw [pk_mul]
  refine wp_newI (n := w * 8) dX4_init_21 arrI_in rfl (by omega) ?_
  refine wp_put (ci := 4) (n := 3) (k := 1) dX4_init_23 ⟨h1, by rw [hsz_new, hsz_set]; omega, by rw [hk_new, hsz_set, if_neg (by omega), hk_set]; exact hkk⟩ (p_X4_21 rfl) (fun _ _ => ⟨rfl, rfl⟩) (by decide) ?_
  refine wp_ret (v := none) dX4_init_26 rfl ?_
  refine ⟨trivial, rfl, by rw [hsz_set, hsz_new, hsz_set, hz], by rw [htot_set, htot_new, htot_set], fun j hj => ⟨?_, fun l => ?_⟩, ?_, ?_, ?_, ?_, ?_, fun l => ?_⟩
  · rw [hk_set, hk_new, hsz_set, if_neg (by omega), hk_set]
  · rw [hv_set, if_neg (by omega), hv_nu, hsz_set, if_neg (by omega), hv_set, if_neg (by omega)]
  · rw [hk_set, hk_new, hsz_set, if_neg (by omega), hk_set]; exact hkk
  · rw [hv_set, if_neg (by omega), hv_nu, hsz_set, if_neg (by omega), hv_set, if_pos ⟨rfl, rfl⟩]
  · rw [hv_set, if_pos ⟨rfl, rfl⟩, hsz_set, hz]
  · rw [hv_set, if_neg (by omega), hv_nu, hsz_set, if_neg (by omega), hv_set, if_neg (by omega)]; exact h2
  · rw [hk_set, hk_new, hsz_set, if_pos (by omega)]
  · rw [hv_set, if_neg (by omega), hv_nu, hsz_set, if_pos (by omega)]
/-- a file as the server keeps it -/
theorem s_sInit {i : Nat} (h1 : 1 ≤ i) (hz : hsz hp = i) (hkk : hk hp i = (3, 5)) (h2 : ∀ k, (k < 2 ∨ k = 4) → hv hp i k = .int 0) : WM L xs (d + 2) mX3_init [.ref i] hp (fun v hp' => v = none ∧ hsz hp' = i + 3 ∧ htot hp' = htot hp + 39 ∧ Kp hp hp' i ∧ ShAt hp' i) := by
  refine WM.of [some (.ref i)] (by decide) rfl (Nat.le_of_ble_eq_true rfl) ?_
  refine wp_aload_n (i := 0) dX3_init_0 rfl rfl ?_
  refine wp_obj dX3_init_1 o_X3_3 h1 (by decide) ?_
  refine wp_aload_n (i := 0) dX3_init_4 rfl rfl ?_
  refine wp_iconst (v := nI 4) dX3_init_5 (by decide) ?_
  refine wp_newI (n := 4) dX3_init_6 arrI_in rfl (by decide) ?_
  refine wp_put (ci := 3) (n := 5) (k := 2) dX3_init_8 ⟨h1, by rw [hsz_new]; omega, by rw [hk_new, if_neg (by omega)]; exact hkk⟩ (p_X3_9 rfl rfl) (fun _ _ => ⟨rfl, rfl⟩) (by decide) ?_
  refine wp_aload_n (i := 0) dX3_init_11 rfl rfl ?_
  refine wp_new dX3_init_12 n_X3_15 ?_
  refine wp_dup dX3_init_15 rfl ?_
  refine wp_iconst (v := nI 4) dX3_init_16 (by decide) ?_
  rw [hsz_set, hsz_new, hz]
  refine wp_callI (N := mX4_init) (as := [.int (nI 4)]) dX3_init_17 l_X3_17 v_X4_init rfl (by omega) rfl (Nat.le_of_ble_eq_true rfl) (s_tInit (i := i + 1 + 1) (w := 4) (by omega) (by rw [hsz_new, hsz_set, hsz_new, hz]) (by rw [hk_new, hsz_set, hsz_new, if_pos (by omega)]) (by rw [hv_nu, hsz_set, hsz_new, if_pos (by omega)]; rfl) (by decide) (by decide)) (fun v hp9 hq => ?_)
  obtain ⟨rfl, q1, q2, q3, q4⟩ := hq
  have k0 := q3 i (by omega)
  have k1 := q3 (i + 1) (by omega)
  refine wp_put (ci := 3) (n := 5) (k := 3) dX3_init_20 ⟨h1, by omega, by rw [k0.1, hk_new, hsz_set, hsz_new, if_neg (by omega), hk_set, hk_new, if_neg (by omega)]; exact hkk⟩ (p_X3_20 rfl rfl) (fun _ _ => ⟨rfl, rfl⟩) (by decide) ?_
  refine wp_ret (v := none) dX3_init_23 rfl ?_
  refine ⟨trivial, rfl, by rw [hsz_set, q1], by rw [htot_set, q2, htot_new, htot_set, htot_new], fun j hj => ⟨?_, fun l => ?_⟩, ?_, fun k hk => ?_, ?_, ?_, ?_, fun l => ?_, ?_⟩
  · rw [hk_set, (q3 j (by omega)).1, hk_new, hsz_set, hsz_new, if_neg (by omega), hk_set, hk_new, if_neg (by omega)]
  · rw [hv_set, if_neg (by omega), (q3 j (by omega)).2, hv_nu, hsz_set, hsz_new, if_neg (by omega), hv_set, if_neg (by omega), hv_nu, if_neg (by omega)]
  · rw [hk_set, k0.1, hk_new, hsz_set, hsz_new, if_neg (by omega), hk_set, hk_new, if_neg (by omega)]; exact hkk
  · rw [hv_set, if_neg (by omega), k0.2, hv_nu, hsz_set, hsz_new, if_neg (by omega), hv_set, if_neg (by omega), hv_nu, if_neg (by omega)]; exact h2 k hk
  · rw [hv_set, if_neg (by omega), k0.2, hv_nu, hsz_set, hsz_new, if_neg (by omega), hv_set, if_pos ⟨rfl, rfl⟩]
  · rw [hv_set, if_pos ⟨rfl, rfl⟩]
  · rw [hk_set, k1.1, hk_new, hsz_set, hsz_new, if_neg (by omega), hk_set, hk_new, if_pos (by omega)]
  · rw [hv_set, if_neg (by omega), k1.2, hv_nu, hsz_set, hsz_new, if_neg (by omega), hv_set, if_neg (by omega), hv_nu, if_pos (by omega)]
  · exact q4.sm (fun j a b => ⟨rfl, fun l => by rw [hv_set, if_neg (by omega)]⟩)
/-- a client's files are made -/
theorem w_ci_40 {hp0 : AH} {i : Nat} (h1 : 1 ≤ i) : ∀ (m a : Nat), 12 - a = m → a ≤ 12 → ∀ (hp : AH), hsz hp = i + 4 + a → htot hp = htot hp0 + (43 + 8 * a) → Kp hp0 hp i → CaAt hp i a → WP L xs (d + 2) mX0_init 40 [some (.ref i), some (.int (nI a))] [] hp (fun v hp' => retOk mX0_init.2.2.2 v ∧ v = none ∧ hsz hp' = i + 16 ∧ htot hp' = htot hp0 + 139 ∧ Kp hp0 hp' i ∧ CaAt hp' i 12) := by
  intro m
  induction m using Nat.strongRecOn with
  | ind m ih =>
    intro a hm ha hp hz ht hK hC
    subst hm
    obtain ⟨a1, a2, a3, a4, a5, a6, a7, a8, a9, a10⟩ := id hC
    refine wp_iload_n (i := 1) dX0_init_40 rfl rfl ?_
    refine wp_bipush (v := nI 12) dX0_init_41 (by decide) ?_
    refine wp_icmp_ge (tgt := 65) dX0_init_43 (by decide) (fun c43 => ?_) (fun c43 => ?_)
    · have e9 : a = 12 := by
        rcases Nat.lt_or_ge a 12 with q | q
        · exact absurd (nI_lt q (by decide)) c43
        · omega
      subst e9
      refine wp_ret (v := none) dX0_init_65 rfl ?_
      exact ⟨trivial, rfl, hz, ht, hK, hC⟩
    · have ha9 : a < 12 := (nI_ltI (by omega) (by decide)).mp c43
      refine wp_aload_n (i := 0) dX0_init_46 rfl rfl ?_
      refine wp_get (ci := 0) (n := 12) (k := 0) dX0_init_47 ⟨h1, by omega, a1⟩ f_X0_11 (by decide) ?_
      rw [a3]
      refine wp_iload_n (i := 1) dX0_init_50 rfl rfl ?_
      refine wp_new dX0_init_51 n_X0_9 ?_
      refine wp_dup dX0_init_54 rfl ?_
      rw [hz]
      refine wp_callI (N := mX1_init) (as := []) dX0_init_55 l_X0_34 v_X1_init rfl (by omega) rfl (Nat.le_of_ble_eq_true rfl) (s_hInit (i := i + 4 + a + 1) (by omega) (by rw [hsz_new]; omega) (by rw [hk_new, if_pos (by omega)])) (fun v hp9 hq => ?_)
      obtain ⟨rfl, rfl⟩ := hq
      refine wp_aast (t := 8) (n := 12) (ci := 1) (n2 := 8) (k := a) (C := RX1) dX0_init_58 ⟨by omega, by rw [hsz_set, hsz_new]; omega, by rw [hk_set, hk_new, if_neg (by omega)]; exact a6⟩ rfl ⟨by omega, by rw [hsz_set, hsz_new]; omega, by rw [hk_set, hk_new, if_pos (by omega)]⟩ rfl ha9 (by decide) ?_
      refine wp_iinc (v := nI (a + 1)) dX0_init_59 rfl (nI_1 _) ?_
      refine wp_goto (tgt := 40) dX0_init_62 (by decide) ?_
      have hsm : ∀ j, j ≤ i + 4 + a → j ≠ i + 1 → hk (hset (hset (hnew hp 1 8 (zf 1)) (i + 4 + a + 1) 3 (.int (-1))) (i + 1) a (.ref (i + 4 + a + 1))) j = hk hp j ∧ ∀ l, hv (hset (hset (hnew hp 1 8 (zf 1)) (i + 4 + a + 1) 3 (.int (-1))) (i + 1) a (.ref (i + 4 + a + 1))) j l = hv hp j l := fun j h2 h3 => ⟨by rw [hk_set, hk_set, hk_new, if_neg (by omega)], fun l => by rw [hv_set, if_neg (by omega), hv_set, if_neg (by omega), hv_nu, if_neg (by omega)]⟩
      refine ih (12 - (a + 1)) (by omega) (a + 1) rfl (by omega) _ (by rw [hsz_set, hsz_set, hsz_new]; omega) (by rw [htot_set, htot_set, htot_new]; omega) (hK.trans (i' := i) (fun j hj => hsm j (by omega) (by omega)) (Nat.le_refl _)) ?_
      refine ⟨by rw [(hsm i (by omega) (by omega)).1]; exact a1, fun k hk => by rw [(hsm i (by omega) (by omega)).2]; exact a2 k hk, by rw [(hsm i (by omega) (by omega)).2]; exact a3, by rw [(hsm i (by omega) (by omega)).2]; exact a4, by rw [(hsm i (by omega) (by omega)).2]; exact a5, ?_, by rw [(hsm (i + 2) (by omega) (by omega)).1]; exact a7, fun l => by rw [(hsm (i + 2) (by omega) (by omega)).2]; exact a8 l, a9.sm (fun j p q => hsm j (by omega) (by omega)), fun f hf => ?_⟩
      · rw [hk_set, hk_set, hk_new, if_neg (by omega)]; exact a6
      · by_cases hfa : f = a
        · subst hfa
          refine ⟨by rw [hv_set, if_pos ⟨rfl, rfl⟩, show i + 4 + f + 1 = i + 5 + f by omega], by rw [hk_set, hk_set, hk_new, if_pos (by omega)], fun k hk => ?_⟩
          rw [hv_set, if_neg (by omega), hv_set]
          by_cases h3 : k = 3
          · rw [if_pos ⟨by omega, h3⟩, if_pos h3]
          · rw [if_neg (fun q => h3 q.2), if_neg h3, hv_nu, if_pos (by omega), zf1 hk]
        · have hfl : f < a := by omega
          refine ⟨by rw [hv_set, if_neg (fun q => hfa q.2), hv_set, if_neg (by omega), hv_nu, if_neg (by omega)]; exact (a10 f hfl).1, (a10 f hfl).2.sm (fun j p q => hsm j (by omega) (by omega))⟩
/-- a client -/
theorem s_cInit {i : Nat} (h1 : 1 ≤ i) (hz : hsz hp = i) (hkk : hk hp i = (0, 12)) (h2 : ∀ k, (k = 2 ∨ (4 ≤ k ∧ k < 12)) → hv hp i k = .int 0) : WM L xs (d + 2) mX0_init [.ref i] hp (fun v hp' => v = none ∧ hsz hp' = i + 16 ∧ htot hp' = htot hp + 139 ∧ Kp hp hp' i ∧ CaAt hp' i 12) := by
  refine WM.of [some (.ref i), none] (by decide) rfl (Nat.le_of_ble_eq_true rfl) ?_
  refine wp_aload_n (i := 0) dX0_init_0 rfl rfl ?_
  refine wp_obj dX0_init_1 o_X0_3 h1 (by decide) ?_
  refine wp_aload_n (i := 0) dX0_init_4 rfl rfl ?_
  refine wp_bipush (v := nI 12) dX0_init_5 (by decide) ?_
  refine wp_newR (n := 12) (t := 8) dX0_init_7 rfl a_X0_9 rfl (by decide) ?_
  refine wp_put (ci := 0) (n := 12) (k := 0) dX0_init_10 ⟨h1, by rw [hsz_new]; omega, by rw [hk_new, if_neg (by omega)]; exact hkk⟩ (p_X0_11 rfl rfl) (fun _ _ => ⟨rfl, rfl⟩) (by decide) ?_
  refine wp_aload_n (i := 0) dX0_init_13 rfl rfl ?_
  refine wp_bipush (v := nI 12) dX0_init_14 (by decide) ?_
  refine wp_newI (n := 12) dX0_init_16 arrI_in rfl (by decide) ?_
  refine wp_put (ci := 0) (n := 12) (k := 1) dX0_init_18 ⟨h1, by rw [hsz_new, hsz_set, hsz_new]; omega, by rw [hk_new, hsz_set, hsz_new, if_neg (by omega), hk_set, hk_new, if_neg (by omega)]; exact hkk⟩ (p_X0_17 rfl rfl) (fun _ _ => ⟨rfl, rfl⟩) (by decide) ?_
  refine wp_aload_n (i := 0) dX0_init_21 rfl rfl ?_
  refine wp_new dX0_init_22 n_X0_21 ?_
  refine wp_dup dX0_init_25 rfl ?_
  refine wp_iconst (v := nI 2) dX0_init_26 (by decide) ?_
  simp only [hsz_set, hsz_new, hz]
  refine wp_callI (N := mX4_init) (as := [.int (nI 2)]) dX0_init_27 l_X0_23 v_X4_init rfl (by omega) rfl (Nat.le_of_ble_eq_true rfl) (s_tInit (i := i + 1 + 1 + 1) (w := 2) (by omega) (by simp only [hsz_set, hsz_new, hz]) (by rw [hk_new, if_pos (by simp only [hsz_set, hsz_new, hz])]) (by rw [hv_nu, if_pos (by simp only [hsz_set, hsz_new, hz])]; rfl) (by decide) (by decide)) (fun v hp9 hq => ?_)
  obtain ⟨rfl, q1, q2, q3, q4⟩ := hq
  have kk : ∀ j, j < i + 3 → hk hp9 j = (if j = i + 2 then (6, 12) else if j = i + 1 then (8, 12) else hk hp j) ∧ ∀ l, hv hp9 j l = (if j = i ∧ l = 1 then .ref (i + 2) else if j = i + 2 then .int 0 else if j = i ∧ l = 0 then .ref (i + 1) else if j = i + 1 then .null else hv hp j l) := fun j hj => by
    refine ⟨?_, fun l => ?_⟩
    · rw [(q3 j (by omega)).1, hk_new, if_neg (by simp only [hsz_set, hsz_new, hz]; omega), hk_set, hk_new, hsz_set, hsz_new, hz, hk_set, hk_new, hz]
    · rw [(q3 j (by omega)).2, hv_nu, if_neg (by simp only [hsz_set, hsz_new, hz]; omega), hv_set, hv_nu, hsz_set, hsz_new, hz, hv_set, hv_nu, hz]
  have k0 := kk i (by omega)
  refine wp_put (ci := 0) (n := 12) (k := 3) dX0_init_30 ⟨h1, by omega, by rw [k0.1, if_neg (by omega), if_neg (by omega)]; exact hkk⟩ (p_X0_26 rfl rfl) (fun _ _ => ⟨rfl, rfl⟩) (by decide) ?_
  refine wp_aload_n (i := 0) dX0_init_33 rfl rfl ?_
  refine wp_iconst (v := 1) dX0_init_34 rfl ?_
  refine wp_put (ci := 0) (n := 12) (k := 4) dX0_init_35 ⟨h1, by rw [hsz_set]; omega, by rw [hk_set, k0.1, if_neg (by omega), if_neg (by omega)]; exact hkk⟩ (p_X0_30 rfl) (okI rfl) (by decide) ?_
  refine wp_iconst (v := 0) dX0_init_38 rfl ?_
  refine wp_istore_n (i := 1) dX0_init_39 rfl (Nat.le_of_ble_eq_true rfl) ?_
  refine w_ci_40 h1 12 0 rfl (by decide) _ (by rw [hsz_set, hsz_set, q1]) (by rw [htot_set, htot_set, q2]; simp only [htot_set, htot_new]) (fun j hj => ⟨?_, fun l => ?_⟩) ⟨?_, fun k hk => ?_, ?_, ?_, ?_, ?_, ?_, fun l => ?_, ?_, fun f hf => absurd hf (Nat.not_lt_zero _)⟩
  · rw [hk_set, hk_set, (kk j (by omega)).1, if_neg (by omega), if_neg (by omega)]
  · rw [hv_set, if_neg (by omega), hv_set, if_neg (by omega), (kk j (by omega)).2, if_neg (by omega), if_neg (by omega), if_neg (by omega), if_neg (by omega)]
  · rw [hk_set, hk_set, k0.1, if_neg (by omega), if_neg (by omega)]; exact hkk
  · rw [hv_set]
    by_cases h4 : k = 4
    · rw [if_pos ⟨rfl, h4⟩, if_pos h4]
    · rw [if_neg (fun q => h4 q.2), if_neg h4, hv_set, if_neg (by omega), k0.2, if_neg (by omega), if_neg (by omega), if_neg (by omega), if_neg (by omega)]; exact h2 k hk
  · rw [hv_set, if_neg (by omega), hv_set, if_neg (by omega), k0.2, if_neg (by omega), if_neg (by omega), if_pos ⟨rfl, rfl⟩]
  · rw [hv_set, if_neg (by omega), hv_set, if_neg (by omega), k0.2, if_pos ⟨rfl, rfl⟩]
  · rw [hv_set, if_neg (by omega), hv_set, if_pos ⟨rfl, rfl⟩]
  · rw [hk_set, hk_set, (kk (i + 1) (by omega)).1, if_neg (by omega), if_pos rfl]
  · rw [hk_set, hk_set, (kk (i + 2) (by omega)).1, if_pos rfl]
  · rw [hv_set, if_neg (by omega), hv_set, if_neg (by omega), (kk (i + 2) (by omega)).2, if_neg (by omega), if_pos rfl]
  · exact q4.sm (fun j a b => ⟨rfl, fun l => by rw [hv_set, if_neg (by omega), hv_set, if_neg (by omega)]⟩)
end MAKE
