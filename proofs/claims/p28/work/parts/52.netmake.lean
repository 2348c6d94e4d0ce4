/-! ===== a net is made ===== -/
/-- a net of a clients, b files, s slots so far, at cell z -/
def NtAt (hp : AH) (z a b s : Nat) : Prop := hk hp z = (2, 8) ∧ (∀ k, k < 5 → hv hp z k = .int (if k = 1 then 20 else if k = 2 then 5 else if k = 3 then 4 else 0)) ∧ hv hp z 5 = .ref (z + 1) ∧ hv hp z 6 = .ref (z + 2) ∧ hv hp z 7 = .ref (z + 3) ∧ hk hp (z + 1) = (7, 4) ∧ hk hp (z + 2) = (9, 12) ∧ hk hp (z + 3) = (10, 9) ∧ (∀ c, c < a → hv hp (z + 1) c = .ref (z + 4 + 17 * c) ∧ CaAt hp (z + 4 + 17 * c) 12) ∧ (∀ f, f < b → hv hp (z + 2) f = .ref (z + 72 + 4 * f) ∧ ShAt hp (z + 72 + 4 * f)) ∧ (∀ k, k < s → hv hp (z + 3) k = .ref (z + 120 + 2 * k) ∧ TbAt hp (z + 120 + 2 * k) 8)
def NB (hp0 hp : AH) (z a b s : Nat) : Prop := hsz hp = z + 3 + 17 * a + 4 * b + 2 * s ∧ htot hp = htot hp0 + (25 + 151 * a + 44 * b + 67 * s) ∧ Kp hp0 hp z ∧ NtAt hp z a b s
theorem NtAt.sm {hp hp' : AH} {z : Nat} (h : NtAt hp z 4 12 9) (hs : Sm hp hp' z 138) : NtAt hp' z 4 12 9 := by
  obtain ⟨a1, a2, a3, a4, a5, a6, a7, a8, a9, a10, a11⟩ := h
  have s0 := hs z (Nat.le_refl _) (by omega)
  have s1 := hs (z + 1) (by omega) (by omega)
  have s2 := hs (z + 2) (by omega) (by omega)
  have s3 := hs (z + 3) (by omega) (by omega)
  exact ⟨by rw [s0.1]; exact a1, fun k hk => by rw [s0.2]; exact a2 k hk, by rw [s0.2]; exact a3, by rw [s0.2]; exact a4, by rw [s0.2]; exact a5, by rw [s1.1]; exact a6, by rw [s2.1]; exact a7, by rw [s3.1]; exact a8, fun c hc => ⟨by rw [s1.2]; exact (a9 c hc).1, (a9 c hc).2.sm (hs.sub (by omega) (by omega))⟩, fun f hf => ⟨by rw [s2.2]; exact (a10 f hf).1, (a10 f hf).2.sm (hs.sub (by omega) (by omega))⟩, fun k hk => ⟨by rw [s3.2]; exact (a11 k hk).1, (a11 k hk).2.sm (hs.sub (by omega) (by omega))⟩⟩
section NETMAKE
variable {L : Nat} {xs : Nat → Int32} {d : Nat} {hp0 : AH} {z : Nat}
/-- the slots -/
theorem w_ni_101 (h1 : 1 ≤ z) : ∀ (m s : Nat), 9 - s = m → s ≤ 9 → ∀ (hp : AH), NB hp0 hp z 4 12 s → WP L xs (d + 3) mX2_init 101 [some (.ref z), some (.int (nI s))] [] hp (fun v hp' => retOk mX2_init.2.2.2 v ∧ v = none ∧ NB hp0 hp' z 4 12 9) := by
  intro m
  induction m using Nat.strongRecOn with
  | ind m ih =>
    intro s hm hs hp hN
    subst hm
    obtain ⟨hz, ht, hK, a1, a2, a3, a4, a5, a6, a7, a8, a9, a10, a11⟩ := id hN
    refine wp_iload_n (i := 1) dX2_init_101 rfl rfl ?_
    refine wp_bipush (v := nI 9) dX2_init_102 (by decide) ?_
    refine wp_icmp_ge (tgt := 128) dX2_init_104 (by decide) (fun c => ?_) (fun c => ?_)
    · have e9 : s = 9 := by
        rcases Nat.lt_or_ge s 9 with q | q
        · exact absurd (nI_lt q (by decide)) c
        · omega
      subst e9
      refine wp_ret (v := none) dX2_init_128 rfl ?_
      exact ⟨trivial, rfl, hN⟩
    · have hs9 : s < 9 := (nI_ltI (by omega) (by decide)).mp c
      refine wp_aload_n (i := 0) dX2_init_107 rfl rfl ?_
      refine wp_get (ci := 2) (n := 8) (k := 7) dX2_init_108 ⟨h1, by omega, a1⟩ f_X2_35 (by decide) ?_
      rw [a5]
      refine wp_iload_n (i := 1) dX2_init_111 rfl rfl ?_
      refine wp_new dX2_init_112 n_X2_33 ?_
      refine wp_dup dX2_init_115 rfl ?_
      refine wp_bipush (v := nI 8) dX2_init_116 (by decide) ?_
      rw [show hsz hp + 1 = z + 120 + 2 * s by omega]
      refine wp_callI (N := mX4_init) (as := [.int (nI 8)]) dX2_init_118 l_X2_41 v_X4_init rfl (by omega) rfl (Nat.le_of_ble_eq_true rfl) (s_tInit (i := z + 120 + 2 * s) (w := 8) (by omega) (by rw [hsz_new]; omega) (by rw [hk_new, if_pos (by omega)]) (by rw [hv_nu, if_pos (by omega)]; rfl) (by decide) (by decide)) (fun v hp9 hq => ?_)
      obtain ⟨rfl, q1, q2, q3, q4⟩ := hq
      have k3 := q3 (z + 3) (by omega)
      refine wp_aast (t := 10) (n := 9) (ci := 4) (n2 := 3) (k := s) (C := RX4) dX2_init_121 ⟨by omega, by omega, by rw [k3.1, hk_new, if_neg (by omega)]; exact a8⟩ rfl ⟨by omega, by omega, q4.1⟩ rfl hs9 (by decide) ?_
      refine wp_iinc (v := nI (s + 1)) dX2_init_122 rfl (nI_1 _) ?_
      refine wp_goto (tgt := 101) dX2_init_125 (by decide) ?_
      have hsm : ∀ j, j < z + 120 + 2 * s → j ≠ z + 3 → hk (hset hp9 (z + 3) s (.ref (z + 120 + 2 * s))) j = hk hp j ∧ ∀ l, hv (hset hp9 (z + 3) s (.ref (z + 120 + 2 * s))) j l = hv hp j l := fun j h2 h3 => ⟨by rw [hk_set, (q3 j h2).1, hk_new, if_neg (by omega)], fun l => by rw [hv_set, if_neg (by omega), (q3 j h2).2, hv_nu, if_neg (by omega)]⟩
      refine ih (9 - (s + 1)) (by omega) (s + 1) rfl (by omega) _ ⟨by rw [hsz_set]; omega, by rw [htot_set, q2, htot_new]; omega, hK.trans (i' := z) (fun j hj => hsm j (by omega) (by omega)) (Nat.le_refl _), by rw [(hsm z (by omega) (by omega)).1]; exact a1, fun k hk => by rw [(hsm z (by omega) (by omega)).2]; exact a2 k hk, by rw [(hsm z (by omega) (by omega)).2]; exact a3, by rw [(hsm z (by omega) (by omega)).2]; exact a4, by rw [(hsm z (by omega) (by omega)).2]; exact a5, by rw [(hsm (z + 1) (by omega) (by omega)).1]; exact a6, by rw [(hsm (z + 2) (by omega) (by omega)).1]; exact a7, by rw [hk_set, k3.1, hk_new, if_neg (by omega)]; exact a8, fun c hc => ⟨by rw [(hsm (z + 1) (by omega) (by omega)).2]; exact (a9 c hc).1, (a9 c hc).2.sm (fun j p q => hsm j (by omega) (by omega))⟩, fun f hf => ⟨by rw [(hsm (z + 2) (by omega) (by omega)).2]; exact (a10 f hf).1, (a10 f hf).2.sm (fun j p q => hsm j (by omega) (by omega))⟩, fun k hk => ?_⟩
      by_cases hks : k = s
      · subst hks
        exact ⟨by rw [hv_set, if_pos ⟨rfl, rfl⟩], q4.sm (fun j p q => ⟨rfl, fun l => by rw [hv_set, if_neg (by omega)]⟩)⟩
      · exact ⟨by rw [hv_set, if_neg (fun q => hks q.2), k3.2, hv_nu, if_neg (by omega)]; exact (a11 k (by omega)).1, (a11 k (by omega)).2.sm (fun j p q => hsm j (by omega) (by omega))⟩
/-- the files -/
theorem w_ni_74 (h1 : 1 ≤ z) : ∀ (m b : Nat), 12 - b = m → b ≤ 12 → ∀ (hp : AH), NB hp0 hp z 4 b 0 → WP L xs (d + 3) mX2_init 74 [some (.ref z), some (.int (nI b))] [] hp (fun v hp' => retOk mX2_init.2.2.2 v ∧ v = none ∧ NB hp0 hp' z 4 12 9) := by
  intro m
  induction m using Nat.strongRecOn with
  | ind m ih =>
    intro b hm hb hp hN
    subst hm
    obtain ⟨hz, ht, hK, a1, a2, a3, a4, a5, a6, a7, a8, a9, a10, a11⟩ := id hN
    refine wp_iload_n (i := 1) dX2_init_74 rfl rfl ?_
    refine wp_bipush (v := nI 12) dX2_init_75 (by decide) ?_
    refine wp_icmp_ge (tgt := 99) dX2_init_77 (by decide) (fun c => ?_) (fun c => ?_)
    · have e9 : b = 12 := by
        rcases Nat.lt_or_ge b 12 with q | q
        · exact absurd (nI_lt q (by decide)) c
        · omega
      subst e9
      refine wp_iconst (v := nI 0) dX2_init_99 (by decide) ?_
      refine wp_istore_n (i := 1) dX2_init_100 rfl (Nat.le_of_ble_eq_true rfl) ?_
      exact w_ni_101 h1 9 0 rfl (by decide) _ hN
    · have hb9 : b < 12 := (nI_ltI (by omega) (by decide)).mp c
      refine wp_aload_n (i := 0) dX2_init_80 rfl rfl ?_
      refine wp_get (ci := 2) (n := 8) (k := 6) dX2_init_81 ⟨h1, by omega, a1⟩ f_X2_29 (by decide) ?_
      rw [a4]
      refine wp_iload_n (i := 1) dX2_init_84 rfl rfl ?_
      refine wp_new dX2_init_85 n_X2_27 ?_
      refine wp_dup dX2_init_88 rfl ?_
      rw [show hsz hp + 1 = z + 72 + 4 * b by omega]
      refine wp_callI (N := mX3_init) (as := []) dX2_init_89 l_X2_40 v_X3_init rfl (by omega) rfl (Nat.le_of_ble_eq_true rfl) (s_sInit (i := z + 72 + 4 * b) (by omega) (by rw [hsz_new]; omega) (by rw [hk_new, if_pos (by omega)]) (fun k hk => by rw [hv_nu, if_pos (by omega)]; exact zf3 hk)) (fun v hp9 hq => ?_)
      obtain ⟨rfl, q1, q2, q3, q4⟩ := hq
      have k3 := q3 (z + 2) (by omega)
      refine wp_aast (t := 9) (n := 12) (ci := 3) (n2 := 5) (k := b) (C := RX3) dX2_init_92 ⟨by omega, by omega, by rw [k3.1, hk_new, if_neg (by omega)]; exact a7⟩ rfl ⟨by omega, by omega, q4.1⟩ rfl hb9 (by decide) ?_
      refine wp_iinc (v := nI (b + 1)) dX2_init_93 rfl (nI_1 _) ?_
      refine wp_goto (tgt := 74) dX2_init_96 (by decide) ?_
      have hsm : ∀ j, j < z + 72 + 4 * b → j ≠ z + 2 → hk (hset hp9 (z + 2) b (.ref (z + 72 + 4 * b))) j = hk hp j ∧ ∀ l, hv (hset hp9 (z + 2) b (.ref (z + 72 + 4 * b))) j l = hv hp j l := fun j h2 h3 => ⟨by rw [hk_set, (q3 j h2).1, hk_new, if_neg (by omega)], fun l => by rw [hv_set, if_neg (by omega), (q3 j h2).2, hv_nu, if_neg (by omega)]⟩
      refine ih (12 - (b + 1)) (by omega) (b + 1) rfl (by omega) _ ⟨by rw [hsz_set]; omega, by rw [htot_set, q2, htot_new]; omega, hK.trans (i' := z) (fun j hj => hsm j (by omega) (by omega)) (Nat.le_refl _), by rw [(hsm z (by omega) (by omega)).1]; exact a1, fun k hk => by rw [(hsm z (by omega) (by omega)).2]; exact a2 k hk, by rw [(hsm z (by omega) (by omega)).2]; exact a3, by rw [(hsm z (by omega) (by omega)).2]; exact a4, by rw [(hsm z (by omega) (by omega)).2]; exact a5, by rw [(hsm (z + 1) (by omega) (by omega)).1]; exact a6, by rw [hk_set, k3.1, hk_new, if_neg (by omega)]; exact a7, by rw [(hsm (z + 3) (by omega) (by omega)).1]; exact a8, fun c hc => ⟨by rw [(hsm (z + 1) (by omega) (by omega)).2]; exact (a9 c hc).1, (a9 c hc).2.sm (fun j p q => hsm j (by omega) (by omega))⟩, fun f hf => ?_, fun k hk => absurd hk (Nat.not_lt_zero _)⟩
      by_cases hfs : f = b
      · subst hfs
        exact ⟨by rw [hv_set, if_pos ⟨rfl, rfl⟩], q4.sm (fun j p q => ⟨rfl, fun l => by rw [hv_set, if_neg (by omega)]⟩)⟩
      · exact ⟨by rw [hv_set, if_neg (fun q => hfs q.2), k3.2, hv_nu, if_neg (by omega)]; exact (a10 f (by omega)).1, (a10 f (by omega)).2.sm (fun j p q => hsm j (by omega) (by omega))⟩
/-- the clients -/
theorem w_ni_48 (h1 : 1 ≤ z) : ∀ (m a : Nat), 4 - a = m → a ≤ 4 → ∀ (hp : AH), NB hp0 hp z a 0 0 → WP L xs (d + 3) mX2_init 48 [some (.ref z), some (.int (nI a))] [] hp (fun v hp' => retOk mX2_init.2.2.2 v ∧ v = none ∧ NB hp0 hp' z 4 12 9) := by
  intro m
  induction m using Nat.strongRecOn with
  | ind m ih =>
    intro a hm ha hp hN
    subst hm
    obtain ⟨hz, ht, hK, a1, a2, a3, a4, a5, a6, a7, a8, a9, a10, a11⟩ := id hN
    refine wp_iload_n (i := 1) dX2_init_48 rfl rfl ?_
    refine wp_iconst (v := nI 4) dX2_init_49 (by decide) ?_
    refine wp_icmp_ge (tgt := 72) dX2_init_50 (by decide) (fun c => ?_) (fun c => ?_)
    · have e9 : a = 4 := by
        rcases Nat.lt_or_ge a 4 with q | q
        · exact absurd (nI_lt q (by decide)) c
        · omega
      subst e9
      refine wp_iconst (v := nI 0) dX2_init_72 (by decide) ?_
      refine wp_istore_n (i := 1) dX2_init_73 rfl (Nat.le_of_ble_eq_true rfl) ?_
      exact w_ni_74 h1 12 0 rfl (by decide) _ hN
    · have ha9 : a < 4 := (nI_ltI (by omega) (by decide)).mp c
      refine wp_aload_n (i := 0) dX2_init_53 rfl rfl ?_
      refine wp_get (ci := 2) (n := 8) (k := 5) dX2_init_54 ⟨h1, by omega, a1⟩ f_X2_23 (by decide) ?_
      rw [a3]
      refine wp_iload_n (i := 1) dX2_init_57 rfl rfl ?_
      refine wp_new dX2_init_58 n_X2_21 ?_
      refine wp_dup dX2_init_61 rfl ?_
      rw [show hsz hp + 1 = z + 4 + 17 * a by omega]
      refine wp_callI (N := mX0_init) (as := []) dX2_init_62 l_X2_39 v_X0_init rfl (by omega) rfl (Nat.le_of_ble_eq_true rfl) (s_cInit (i := z + 4 + 17 * a) (by omega) (by rw [hsz_new]; omega) (by rw [hk_new, if_pos (by omega)]) (fun k hk => by rw [hv_nu, if_pos (by omega)]; exact zf0 hk)) (fun v hp9 hq => ?_)
      obtain ⟨rfl, q1, q2, q3, q4⟩ := hq
      have k3 := q3 (z + 1) (by omega)
      refine wp_aast (t := 7) (n := 4) (ci := 0) (n2 := 12) (k := a) (C := RX0) dX2_init_65 ⟨by omega, by omega, by rw [k3.1, hk_new, if_neg (by omega)]; exact a6⟩ rfl ⟨by omega, by omega, q4.1⟩ rfl ha9 (by decide) ?_
      refine wp_iinc (v := nI (a + 1)) dX2_init_66 rfl (nI_1 _) ?_
      refine wp_goto (tgt := 48) dX2_init_69 (by decide) ?_
      have hsm : ∀ j, j < z + 4 + 17 * a → j ≠ z + 1 → hk (hset hp9 (z + 1) a (.ref (z + 4 + 17 * a))) j = hk hp j ∧ ∀ l, hv (hset hp9 (z + 1) a (.ref (z + 4 + 17 * a))) j l = hv hp j l := fun j h2 h3 => ⟨by rw [hk_set, (q3 j h2).1, hk_new, if_neg (by omega)], fun l => by rw [hv_set, if_neg (by omega), (q3 j h2).2, hv_nu, if_neg (by omega)]⟩
      refine ih (4 - (a + 1)) (by omega) (a + 1) rfl (by omega) _ ⟨by rw [hsz_set]; omega, by rw [htot_set, q2, htot_new]; omega, hK.trans (i' := z) (fun j hj => hsm j (by omega) (by omega)) (Nat.le_refl _), by rw [(hsm z (by omega) (by omega)).1]; exact a1, fun k hk => by rw [(hsm z (by omega) (by omega)).2]; exact a2 k hk, by rw [(hsm z (by omega) (by omega)).2]; exact a3, by rw [(hsm z (by omega) (by omega)).2]; exact a4, by rw [(hsm z (by omega) (by omega)).2]; exact a5, by rw [hk_set, k3.1, hk_new, if_neg (by omega)]; exact a6, by rw [(hsm (z + 2) (by omega) (by omega)).1]; exact a7, by rw [(hsm (z + 3) (by omega) (by omega)).1]; exact a8, fun c hc => ?_, fun f hf => absurd hf (Nat.not_lt_zero _), fun k hk => absurd hk (Nat.not_lt_zero _)⟩
      by_cases hcs : c = a
      · subst hcs
        exact ⟨by rw [hv_set, if_pos ⟨rfl, rfl⟩], q4.sm (fun j p q => ⟨rfl, fun l => by rw [hv_set, if_neg (by omega)]⟩)⟩
      · exact ⟨by rw [hv_set, if_neg (fun q => hcs q.2), k3.2, hv_nu, if_neg (by omega)]; exact (a9 c (by omega)).1, (a9 c (by omega)).2.sm (fun j p q => hsm j (by omega) (by omega))⟩
/-- a net -/
theorem s_nInit {hp : AH} (h1 : 1 ≤ z) (hz : hsz hp = z) (hkk : hk hp z = (2, 8)) (h2 : ∀ k, k < 5 → hv hp z k = .int 0) : WM L xs (d + 3) mX2_init [.ref z] hp (fun v hp' => v = none ∧ NB hp hp' z 4 12 9) := by
  refine WM.of [some (.ref z), none] (by decide) rfl (Nat.le_of_ble_eq_true rfl) ?_
  refine wp_aload_n (i := 0) dX2_init_0 rfl rfl ?_
  refine wp_obj dX2_init_1 o_X2_3 h1 (by decide) ?_
  refine wp_aload_n (i := 0) dX2_init_4 rfl rfl ?_
  refine wp_bipush (v := nI 20) dX2_init_5 (by decide) ?_
  refine wp_put (ci := 2) (n := 8) (k := 1) dX2_init_7 ⟨h1, by omega, hkk⟩ (p_X2_9 rfl) (okI rfl) (by decide) ?_
  refine wp_aload_n (i := 0) dX2_init_10 rfl rfl ?_
  refine wp_iconst (v := nI 5) dX2_init_11 (by decide) ?_
  refine wp_put (ci := 2) (n := 8) (k := 2) dX2_init_12 ⟨h1, by rw [hsz_set]; omega, by rw [hk_set]; exact hkk⟩ (p_X2_15 rfl) (okI rfl) (by decide) ?_
  refine wp_aload_n (i := 0) dX2_init_15 rfl rfl ?_
  refine wp_iconst (v := nI 4) dX2_init_16 (by decide) ?_
  refine wp_put (ci := 2) (n := 8) (k := 3) dX2_init_17 ⟨h1, by rw [hsz_set, hsz_set]; omega, by rw [hk_set, hk_set]; exact hkk⟩ (p_X2_18 rfl) (okI rfl) (by decide) ?_
  have ga : ∃ hpa, hpa = hset (hset (hset hp z 1 (.int (nI 20))) z 2 (.int (nI 5))) z 3 (.int (nI 4)) := ⟨_, rfl⟩
  obtain ⟨hpa, ea⟩ := ga
  rw [← ea]
  have za : hsz hpa = z := by rw [ea, hsz_set, hsz_set, hsz_set, hz]
  have ta : htot hpa = htot hp := by rw [ea, htot_set, htot_set, htot_set]
  have ka : ∀ j, hk hpa j = hk hp j := fun j => by rw [ea, hk_set, hk_set, hk_set]
  have va : ∀ j l, hv hpa j l = if j = z ∧ l = 3 then .int (nI 4) else if j = z ∧ l = 2 then .int (nI 5) else if j = z ∧ l = 1 then .int (nI 20) else hv hp j l := fun j l => by rw [ea, hv_set, hv_set, hv_set]
  refine wp_aload_n (i := 0) dX2_init_20 rfl rfl ?_
  refine wp_iconst (v := nI 4) dX2_init_21 (by decide) ?_
  refine wp_newR (n := 4) (t := 7) dX2_init_22 rfl a_X2_21 rfl (by decide) ?_
  refine wp_put (ci := 2) (n := 8) (k := 5) dX2_init_25 ⟨h1, by rw [hsz_new]; omega, by rw [hk_new, if_neg (by omega), ka]; exact hkk⟩ (p_X2_23 rfl rfl) (fun _ _ => ⟨rfl, rfl⟩) (by decide) ?_
  refine wp_aload_n (i := 0) dX2_init_28 rfl rfl ?_
  refine wp_bipush (v := nI 12) dX2_init_29 (by decide) ?_
  refine wp_newR (n := 12) (t := 9) dX2_init_31 rfl a_X2_27 rfl (by decide) ?_
  refine wp_put (ci := 2) (n := 8) (k := 6) dX2_init_34 ⟨h1, by rw [hsz_new, hsz_set, hsz_new]; omega, by rw [hk_new, hsz_set, hsz_new, if_neg (by omega), hk_set, hk_new, if_neg (by omega), ka]; exact hkk⟩ (p_X2_29 rfl rfl) (fun _ _ => ⟨rfl, rfl⟩) (by decide) ?_
  refine wp_aload_n (i := 0) dX2_init_37 rfl rfl ?_
  refine wp_bipush (v := nI 9) dX2_init_38 (by decide) ?_
  refine wp_newR (n := 9) (t := 10) dX2_init_40 rfl a_X2_33 rfl (by decide) ?_
  refine wp_put (ci := 2) (n := 8) (k := 7) dX2_init_43 ⟨h1, by rw [hsz_new, hsz_set, hsz_new, hsz_set, hsz_new]; omega, by rw [hk_new, hsz_set, hsz_new, hsz_set, hsz_new, if_neg (by omega), hk_set, hk_new, hsz_set, hsz_new, if_neg (by omega), hk_set, hk_new, if_neg (by omega), ka]; exact hkk⟩ (p_X2_35 rfl rfl) (fun _ _ => ⟨rfl, rfl⟩) (by decide) ?_
  simp only [hsz_set, hsz_new, za]
  have gb : ∃ hpb, hpb = hset (hnew (hset (hnew (hset (hnew hpa 7 4 (fun _ => .null)) z 5 (.ref (z + 1))) 9 12 (fun _ => .null)) z 6 (.ref (z + 1 + 1))) 10 9 (fun _ => .null)) z 7 (.ref (z + 1 + 1 + 1)) := ⟨_, rfl⟩
  obtain ⟨hpb, eb⟩ := gb
  rw [← eb]
  have zb : hsz hpb = z + 3 := by rw [eb]; simp only [hsz_set, hsz_new, za]
  have tb : htot hpb = htot hp + 25 := by rw [eb]; simp only [htot_set, htot_new, ta]
  have kb : ∀ j, hk hpb j = if j = z + 3 then (10, 9) else if j = z + 2 then (9, 12) else if j = z + 1 then (7, 4) else hk hp j := fun j => by
    rw [eb]; simp only [hk_set, hk_new, hsz_set, hsz_new, za, ka]
  have vb : ∀ l, hv hpb z l = if l = 7 then .ref (z + 3) else if l = 6 then .ref (z + 2) else if l = 5 then .ref (z + 1) else hv hpa z l := fun l => by
    rw [eb, hv_set]
    simp only [true_and, hv_nu, hv_set, hsz_set, hsz_new, za, show ¬ z = z + 1 by omega, show ¬ z = z + 1 + 1 by omega, show ¬ z = z + 1 + 1 + 1 by omega, if_false]
  have vc : ∀ j l, j < z → hv hpb j l = hv hp j l := fun j l hj => by
    rw [eb, hv_set, if_neg (by omega), hv_nu, if_neg (by simp only [hsz_set, hsz_new, za]; omega), hv_set, if_neg (by omega), hv_nu, if_neg (by simp only [hsz_set, hsz_new, za]; omega), hv_set, if_neg (by omega), hv_nu, if_neg (by omega), va, if_neg (by omega), if_neg (by omega), if_neg (by omega)]
  refine wp_iconst (v := nI 0) dX2_init_46 (by decide) ?_
  refine wp_istore_n (i := 1) dX2_init_47 rfl (Nat.le_of_ble_eq_true rfl) ?_
  refine w_ni_48 h1 4 0 rfl (by decide) _ ⟨by rw [zb], by rw [tb], fun j hj => ⟨by rw [kb, if_neg (by omega), if_neg (by omega), if_neg (by omega)], fun l => vc j l hj⟩, by rw [kb, if_neg (by omega), if_neg (by omega), if_neg (by omega)]; exact hkk, fun k hk => ?_, by rw [vb]; rfl, by rw [vb]; rfl, by rw [vb]; rfl, by rw [kb, if_neg (by omega), if_neg (by omega), if_pos rfl], by rw [kb, if_neg (by omega), if_pos rfl], by rw [kb, if_pos rfl], fun c hc => absurd hc (Nat.not_lt_zero _), fun f hf => absurd hf (Nat.not_lt_zero _), fun k hk => absurd hk (Nat.not_lt_zero _)⟩
  rw [vb, if_neg (by omega), if_neg (by omega), if_neg (by omega), va]
  rcases (show k = 0 ∨ k = 1 ∨ k = 2 ∨ k = 3 ∨ k = 4 by omega) with rfl | rfl | rfl | rfl | rfl
  · rw [if_neg (by omega), if_neg (by omega), if_neg (by omega), h2 0 (by decide)]; rfl
  · rw [if_neg (by omega), if_neg (by omega), if_pos ⟨rfl, rfl⟩]; rfl
  · rw [if_neg (by omega), if_pos ⟨rfl, rfl⟩]; rfl
  · rw [if_pos ⟨rfl, rfl⟩]; rfl
  · rw [if_neg (by omega), if_neg (by omega), if_neg (by omega), h2 4 (by decide)]; rfl
end NETMAKE
