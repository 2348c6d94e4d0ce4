/-! ===== the law: what is used, what is on its way ===== -/
section LAW1
variable {L : Nat} {xs : Nat → Int32} {d : Nat} {hp : AH} {M : MS} {zB tB clk cc K : Nat} {D : Nat → Nat} {ev : Bool} {c f p q : Nat}
theorem w_ur_5 (h : S0 hp M zB tB clk cc K D ev) (hc : c < cc) {l : List Nat} (hI : CI M 0 c l) : ∀ (m i : Nat), l.length - i = m → i ≤ l.length → ∀ (S : Int32), (∀ g, g < 12 → ((S >>> (nI g &&& 31)) &&& 1 = 0 ↔ g ∉ l.take i)) → ∀ (l5 : Option Value), WP L xs (d + 3) mL_areUsedRight 5 [some (.ref 1), some (.int (nI c)), some (.int (nI l.length)), some (.int S), some (.int (nI i)), l5] [] hp (fun v hp' => retOk mL_areUsedRight.2.2.2 v ∧ hp' = hp ∧ v = some (.int 1)) := by
  have hR := h.1.1
  obtain ⟨b1, b2, b3, b4, b5⟩ := h.1.2.2.1.1
  have hc4 : c < 4 := by omega
  obtain ⟨⟨o1, o2, o3, o4⟩, i2, i3, i4, i5⟩ := id hI
  intro m
  induction m using Nat.strongRecOn with
  | ind m ih =>
    intro i hm hi0 S hS l5
    subst hm
    refine wp_iload dL_areUsedRight_5 rfl ?_
    refine wp_iload_n (i := 2) dL_areUsedRight_7 rfl rfl ?_
    refine wp_icmp_ge (tgt := 55) dL_areUsedRight_8 (by decide) (fun c8 => ?_) (fun c8 => ?_)
    · skip
      refine wp_iconst (v := 1) dL_areUsedRight_55 rfl ?_
      refine wp_ret (v := some (.int _)) dL_areUsedRight_56 rfl ?_
      exact ⟨Or.inr rfl, rfl, rfl⟩
    · skip
      have hil : i < l.length := (nI_ltI (by omega) (by omega)).mp c8
      obtain ⟨f, hf⟩ : ∃ f, l[i]? = some f := ⟨l[i], List.getElem?_eq_getElem hil⟩
      have hf12 : f < 12 := o3 f (List.mem_of_getElem? hf)
      have htk : l.take (i + 1) = l.take i ++ [f] := by rw [List.take_succ, hf]; rfl
      have hnf : f ∉ l.take i := by
        have hn : (l.take (i + 1)).Nodup := (List.take_sublist _ _).nodup i2
        rw [htk] at hn
        intro q
        exact (List.nodup_append.mp hn).2.2 f q f (List.mem_singleton.mpr rfl) rfl
      refine wp_aload_n (i := 0) dL_areUsedRight_11 rfl rfl ?_
      refine wp_iload_n (i := 1) dL_areUsedRight_12 rfl rfl ?_
      refine wp_iload dL_areUsedRight_13 rfl ?_
      refine wp_callV (N := mX5_used) (as := [.int (nI c), .int (nI i)]) dL_areUsedRight_15 l_L_32 v_X5_used rfl hR.top.1 rfl (Nat.le_of_ble_eq_true rfl) (s_used h hc o1 hil (by omega)) (fun v hp9 hq => ?_)
      obtain ⟨rfl, rfl⟩ := hq
      rw [o4 i f hf]
      refine wp_istore dL_areUsedRight_18 (Nat.le_of_ble_eq_true rfl) ?_
      refine wp_iload_n (i := 3) dL_areUsedRight_20 rfl rfl ?_
      refine wp_iload dL_areUsedRight_21 rfl ?_
      refine wp_ishr dL_areUsedRight_23 ?_
      refine wp_iconst (v := 1) dL_areUsedRight_24 rfl ?_
      refine wp_iand dL_areUsedRight_25 ?_
      refine wp_if_ne (tgt := 40) dL_areUsedRight_26 (by decide) (fun c26 => ?_) (fun c26 => ?_)
      · skip
        exact absurd ((hS f hf12).mpr hnf) c26
      · skip
        refine wp_aload_n (i := 0) dL_areUsedRight_29 rfl rfl ?_
        refine wp_iload_n (i := 1) dL_areUsedRight_30 rfl rfl ?_
        refine wp_iload dL_areUsedRight_31 rfl ?_
        refine wp_iconst (v := 0) dL_areUsedRight_33 rfl ?_
        refine wp_callV (N := mX5_has) (as := [.int (nI c), .int (nI f), .int (nI 0)]) dL_areUsedRight_34 l_L_25 v_X5_has rfl hR.top.1 rfl (Nat.le_of_ble_eq_true rfl) (s_has h hc hf12 (p := 0) (by decide)) (fun v hp9 hq => ?_)
        obtain ⟨rfl, rfl⟩ := hq
        refine wp_if_ge (tgt := 42) dL_areUsedRight_37 (by decide) (fun c37 => ?_) (fun c37 => ?_)
        · skip
          refine wp_iload_n (i := 3) dL_areUsedRight_42 rfl rfl ?_
          refine wp_iconst (v := 1) dL_areUsedRight_43 rfl ?_
          refine wp_iload dL_areUsedRight_44 rfl ?_
          refine wp_ishl dL_areUsedRight_46 ?_
          refine wp_ior dL_areUsedRight_47 ?_
          refine wp_istore_n (i := 3) dL_areUsedRight_48 rfl (Nat.le_of_ble_eq_true rfl) ?_
          refine wp_iinc (v := nI (i + 1)) dL_areUsedRight_49 rfl (nI_1 _) ?_
          refine wp_goto (tgt := 5) dL_areUsedRight_52 (by decide) ?_
          exact ih (l.length - (i + 1)) (by omega) (i + 1) rfl (by omega) _ (fun g hg => by
            rw [bs_step S hf12 hg, hS g hg, htk, List.mem_append, List.mem_singleton]
            exact ⟨fun z y => y.elim z.1 z.2, fun z => ⟨fun y => z (Or.inl y), fun y => z (Or.inr y)⟩⟩) _
        · skip
          exact absurd ((hT0_lt (((h.1.2.2.1.2.1 c hc4).2.2.2.2.2.1 f hf12).1)).mp c37) ((i4 f hf12).mpr (List.mem_of_getElem? hf))
/-- what is used -/
theorem s_usedRight (h : S0 hp M zB tB clk cc K D ev) (hc : c < cc) {l : List Nat} (hI : CI M 0 c l) : WM L xs (d + 3) mL_areUsedRight [.ref 1, .int (nI c), .int (nI l.length)] hp (fun v hp' => hp' = hp ∧ v = some (.int 1)) := by
  refine WM.of [some (.ref 1), some (.int (nI c)), some (.int (nI l.length)), none, none, none] (by decide) rfl (Nat.le_of_ble_eq_true rfl) ?_
  refine wp_iconst (v := 0) dL_areUsedRight_0 rfl ?_
  refine wp_istore_n (i := 3) dL_areUsedRight_1 rfl (Nat.le_of_ble_eq_true rfl) ?_
  refine wp_iconst (v := 0) dL_areUsedRight_2 rfl ?_
  refine wp_istore dL_areUsedRight_3 (Nat.le_of_ble_eq_true rfl) ?_
  exact w_ur_5 h hc hI l.length 0 rfl (Nat.zero_le _) 0 (fun g hg => by
    rw [List.take_zero]
    exact ⟨fun _ q => (by cases q), fun _ => by rcases (show g = 0 ∨ g = 1 ∨ g = 2 ∨ g = 3 ∨ g = 4 ∨ g = 5 ∨ g = 6 ∨ g = 7 ∨ g = 8 ∨ g = 9 ∨ g = 10 ∨ g = 11 by omega) with rfl | rfl | rfl | rfl | rfl | rfl | rfl | rfl | rfl | rfl | rfl | rfl <;> decide⟩) _
theorem LU_le (M : MS) (clk : Nat) {u v : Nat} (h : u ≤ v) : LU M 0 clk u ≤ LU M 0 clk v := by
  induction v with
  | zero => rw [show u = 0 by omega]; exact Nat.le_refl _
  | succ v ih =>
    rcases Nat.lt_or_ge u (v + 1) with q | q
    · exact Nat.le_trans (ih (by omega)) (Nat.le_add_right _ _)
    · rw [show u = v + 1 by omega]; exact Nat.le_refl _
/-- what is on its way, by its slots in the order of the clock -/
theorem TN_LU (h : S0 hp M zB tB clk cc K D ev) : TN M 0 9 = LU M 0 clk 8 := by
  have hE : (gT M 2 0 (clk % 9)).length = 0 := by rw [h.2]; rfl
  have e : ∀ i, (clk + (i + 1)) % 9 = (clk % 9 + (i + 1)) % 9 := fun i => by omega
  have hr : clk % 9 < 9 := Nat.mod_lt _ (by decide)
  unfold TN LU
  simp only [e]
  revert hE hr
  generalize clk % 9 = r
  intro hE hr
  rcases (show r = 0 ∨ r = 1 ∨ r = 2 ∨ r = 3 ∨ r = 4 ∨ r = 5 ∨ r = 6 ∨ r = 7 ∨ r = 8 by omega) with rfl | rfl | rfl | rfl | rfl | rfl | rfl | rfl | rfl <;> simp only [sN, Nat.reduceAdd, Nat.reduceMod] <;> omega
theorem TN_bd (h : S0 hp M zB tB clk cc K D ev) : TN M 0 9 < 2 ^ 30 := by
  have hb : TN M 0 9 ≤ 9 * 140000 := sN_bd (fun k hk => by
    have h9 := (h.1.1.T (vt2 (n := 0) (by decide) hk)).2.2.2.2.2.2.2
    omega)
  omega
/-- a thing -/
theorem wy_of (h : S0 hp M zB tB clk cc K D ev) {k : Nat} {x : Int32} (hp0 : p < TN M 0 9) (ht : tTh M 0 clk p k x) : ∃ (u : Nat) (r : Row), u < 6 ∧ LU M 0 clk u ≤ p ∧ p < LU M 0 clk (u + 1) ∧ x = r k ∧ r 3 = nI (clk + u + 1) ∧ (∃ c, c < cc ∧ r 0 = nI c) ∧ ∃ e, e ≤ 6 ∧ r 1 = nI e := by
  rw [TN_LU h] at hp0
  rcases ht with q | ⟨u, hu, h1, h2, hx⟩
  · omega
  have hlen : LU M 0 clk (u + 1) = LU M 0 clk u + (gT M 2 0 ((clk + (u + 1)) % 9)).length := rfl
  have hlt : p - LU M 0 clk u < (gT M 2 0 ((clk + (u + 1)) % 9)).length := by omega
  have hm : (clk + (u + 1)) % 9 < 9 := Nat.mod_lt _ (by decide)
  have hmem : (gT M 2 0 ((clk + (u + 1)) % 9))[p - LU M 0 clk u] ∈ gT M 2 0 ((clk + (u + 1)) % 9) := List.getElem_mem hlt
  have hg : gC M 2 0 ((clk + (u + 1)) % 9) (p - LU M 0 clk u) k = (gT M 2 0 ((clk + (u + 1)) % 9))[p - LU M 0 clk u] k := by
    unfold gC
    rw [List.getD_eq_getElem?_getD, List.getElem?_eq_getElem hlt]; rfl
  obtain ⟨⟨c, w, y1, y2, y3, y4, y5, y6⟩, -, ⟨e, z1, z2⟩, -⟩ := h.1.2.2.1.2.2.2 _ hm _ hmem
  have hcc := h.1.2.2.1.1.2.1
  have hD := (h.1.2.2.1.2.1 c (by omega)).2.2.1
  have hw : w = clk + u + 1 := by omega
  exact ⟨u, _, by omega, h1, h2, by rw [hx, hg], by rw [y3, hw], ⟨c, y1, y2⟩, e, z1, z2⟩
theorem wy_le {u v : Nat} {pp : Nat} (h1 : LU M 0 clk u ≤ pp) (h2 : p < LU M 0 clk (v + 1)) (h : pp ≤ p) : u ≤ v := by
  rcases Nat.lt_or_ge v u with q | q
  · have := LU_le M clk (u := v + 1) (v := u) (by omega); omega
  · exact q
theorem w_wr_2 (h : S0 hp M zB tB clk cc K D ev) : ∀ (m p : Nat), TN M 0 9 - p = m → p ≤ TN M 0 9 → ∀ (l2 : Option Value), WP L xs (d + 4) mL_isWayRight 2 [some (.ref 1), some (.int (nI p)), l2] [] hp (fun v hp' => retOk mL_isWayRight.2.2.2 v ∧ hp' = hp ∧ v = some (.int 1)) := by
  have hR := h.1.1
  obtain ⟨b1, b2, b3, b4, b5⟩ := h.1.2.2.1.1
  have hN := TN_bd h
  intro m
  induction m using Nat.strongRecOn with
  | ind m ih =>
    intro p hm hi0 l2
    subst hm
    refine wp_iload_n (i := 1) dL_isWayRight_2 rfl rfl ?_
    refine wp_aload_n (i := 0) dL_isWayRight_3 rfl rfl ?_
    refine wp_callV (N := mX5_onTheWay) (as := []) dL_isWayRight_4 l_L_91 v_X5_onTheWay rfl hR.top.1 rfl (Nat.le_of_ble_eq_true rfl) (s_onTheWay h) (fun v hp9 hq => ?_)
    obtain ⟨rfl, rfl⟩ := hq
    refine wp_icmp_ge (tgt := 84) dL_isWayRight_7 (by decide) (fun c7 => ?_) (fun c7 => ?_)
    · skip
      refine wp_iconst (v := 1) dL_isWayRight_84 rfl ?_
      refine wp_ret (v := some (.int _)) dL_isWayRight_85 rfl ?_
      exact ⟨Or.inr rfl, rfl, rfl⟩
    · skip
      have hpN : p < TN M 0 9 := (nI_ltI (by omega) (by omega)).mp c7
      refine wp_aload_n (i := 0) dL_isWayRight_10 rfl rfl ?_
      refine wp_iload_n (i := 1) dL_isWayRight_11 rfl rfl ?_
      refine wp_iconst (v := 3) dL_isWayRight_12 rfl ?_
      refine wp_callV (N := mX5_way) (as := [.int (nI p), .int (nI 3)]) dL_isWayRight_13 l_L_108 v_X5_way rfl hR.top.1 rfl (Nat.le_of_ble_eq_true rfl) (s_way h (p := p) (q := 3) hpN hN (by decide)) (fun v hp9 hq => ?_)
      obtain ⟨rfl, xA, rfl, htA⟩ := hq
      obtain ⟨uA, rA, uaA, ubA, ucA, udA, ueA, ⟨ccA, ufA, ugA⟩, eeA, uhA, ukA⟩ := wy_of h hpN htA
      rw [udA, ueA]
      refine wp_istore_n (i := 2) dL_isWayRight_16 rfl (Nat.le_of_ble_eq_true rfl) ?_
      refine wp_iload_n (i := 2) dL_isWayRight_17 rfl rfl ?_
      refine wp_aload_n (i := 0) dL_isWayRight_18 rfl rfl ?_
      refine wp_callV (N := mX5_clock) (as := []) dL_isWayRight_19 l_L_81 v_X5_clock rfl hR.top.1 rfl (Nat.le_of_ble_eq_true rfl) (s_clock h) (fun v hp9 hq => ?_)
      obtain ⟨rfl, rfl⟩ := hq
      refine wp_icmp_le (tgt := 76) dL_isWayRight_22 (by decide) (fun c22 => ?_) (fun c22 => ?_)
      · skip
        exact absurd (nI_lt (show clk < clk + uA + 1 by omega) (by omega)) c22
      · skip
        refine wp_iload_n (i := 2) dL_isWayRight_25 rfl rfl ?_
        refine wp_aload_n (i := 0) dL_isWayRight_26 rfl rfl ?_
        refine wp_callV (N := mX5_clock) (as := []) dL_isWayRight_27 l_L_81 v_X5_clock rfl hR.top.1 rfl (Nat.le_of_ble_eq_true rfl) (s_clock h) (fun v hp9 hq => ?_)
        obtain ⟨rfl, rfl⟩ := hq
        refine wp_bipush (v := nI 6) dL_isWayRight_30 (by decide) ?_
        refine wp_iadd dL_isWayRight_32 ?_
        rw [show nI clk + nI 6 = nI (clk + 6) from nI_add _ _]
        refine wp_icmp_gt (tgt := 76) dL_isWayRight_33 (by decide) (fun c33 => ?_) (fun c33 => ?_)
        · skip
          exact absurd c33 (nI_nlt (by omega) (by omega))
        · skip
          refine wp_iload_n (i := 1) dL_isWayRight_36 rfl rfl ?_
          refine wp_if_le (tgt := 52) dL_isWayRight_37 (by decide) (fun c37 => ?_) (fun c37 => ?_)
          · skip
            refine wp_aload_n (i := 0) dL_isWayRight_52 rfl rfl ?_
            refine wp_iload_n (i := 1) dL_isWayRight_53 rfl rfl ?_
            refine wp_iconst (v := 1) dL_isWayRight_54 rfl ?_
            refine wp_callV (N := mX5_way) (as := [.int (nI p), .int (nI 1)]) dL_isWayRight_55 l_L_108 v_X5_way rfl hR.top.1 rfl (Nat.le_of_ble_eq_true rfl) (s_way h (p := p) (q := 1) hpN hN (by decide)) (fun v hp9 hq => ?_)
            obtain ⟨rfl, xC, rfl, htC⟩ := hq
            obtain ⟨uC, rC, uaC, ubC, ucC, udC, ueC, ⟨ccC, ufC, ugC⟩, eeC, uhC, ukC⟩ := wy_of h hpN htC
            rw [udC, ukC]
            refine wp_bipush (v := nI 6) dL_isWayRight_58 (by decide) ?_
            refine wp_icmp_gt (tgt := 76) dL_isWayRight_60 (by decide) (fun c60 => ?_) (fun c60 => ?_)
            · skip
              exact absurd c60 (nI_nlt uhC (by omega))
            · skip
              refine wp_aload_n (i := 0) dL_isWayRight_63 rfl rfl ?_
              refine wp_iload_n (i := 1) dL_isWayRight_64 rfl rfl ?_
              refine wp_iconst (v := 0) dL_isWayRight_65 rfl ?_
              refine wp_callV (N := mX5_way) (as := [.int (nI p), .int (nI 0)]) dL_isWayRight_66 l_L_108 v_X5_way rfl hR.top.1 rfl (Nat.le_of_ble_eq_true rfl) (s_way h (p := p) (q := 0) hpN hN (by decide)) (fun v hp9 hq => ?_)
              obtain ⟨rfl, xE, rfl, htE⟩ := hq
              obtain ⟨uE, rE, uaE, ubE, ucE, udE, ueE, ⟨ccE, ufE, ugE⟩, eeE, uhE, ukE⟩ := wy_of h hpN htE
              rw [udE, ugE]
              refine wp_aload_n (i := 0) dL_isWayRight_69 rfl rfl ?_
              refine wp_callV (N := mX5_clients) (as := []) dL_isWayRight_70 l_L_94 v_X5_clients rfl hR.top.1 rfl (Nat.le_of_ble_eq_true rfl) (s_clients h) (fun v hp9 hq => ?_)
              obtain ⟨rfl, rfl⟩ := hq
              refine wp_icmp_lt (tgt := 78) dL_isWayRight_73 (by decide) (fun c73 => ?_) (fun c73 => ?_)
              · skip
                refine wp_iinc (v := nI (p + 1)) dL_isWayRight_78 rfl (nI_1 _) ?_
                refine wp_goto (tgt := 2) dL_isWayRight_81 (by decide) ?_
                exact ih (TN M 0 9 - (p + 1)) (by omega) (p + 1) rfl (by omega) _
              · skip
                exact absurd (nI_lt ufE (by omega)) c73
          · skip
            refine wp_iload_n (i := 2) dL_isWayRight_40 rfl rfl ?_
            refine wp_aload_n (i := 0) dL_isWayRight_41 rfl rfl ?_
            refine wp_iload_n (i := 1) dL_isWayRight_42 rfl rfl ?_
            refine wp_iconst (v := 1) dL_isWayRight_43 rfl ?_
            refine wp_isub dL_isWayRight_44 ?_
            have hp1 : 0 < p := (nI_ltI (a := 0) (by decide) (by omega)).mp c37
            rw [show nI p - 1 = nI (p - 1) from pk_sub (b := 1) (by omega)]
            refine wp_iconst (v := 3) dL_isWayRight_45 rfl ?_
            refine wp_callV (N := mX5_way) (as := [.int (nI (p - 1)), .int (nI 3)]) dL_isWayRight_46 l_L_108 v_X5_way rfl hR.top.1 rfl (Nat.le_of_ble_eq_true rfl) (s_way h (p := (p - 1)) (q := 3) (show p - 1 < TN M 0 9 by omega) hN (by decide)) (fun v hp9 hq => ?_)
            obtain ⟨rfl, xB, rfl, htB⟩ := hq
            obtain ⟨uB, rB, uaB, ubB, ucB, udB, ueB, ⟨ccB, ufB, ugB⟩, eeB, uhB, ukB⟩ := wy_of h (show p - 1 < TN M 0 9 by omega) htB
            rw [udB, ueB]
            refine wp_icmp_lt (tgt := 76) dL_isWayRight_49 (by decide) (fun c49 => ?_) (fun c49 => ?_)
            · skip
              exact absurd c49 (nI_nlt (show clk + uB + 1 ≤ clk + uA + 1 from by have := wy_le ubB ucA (show p - 1 ≤ p by omega); omega) (by omega))
            · skip
              refine wp_aload_n (i := 0) dL_isWayRight_52 rfl rfl ?_
              refine wp_iload_n (i := 1) dL_isWayRight_53 rfl rfl ?_
              refine wp_iconst (v := 1) dL_isWayRight_54 rfl ?_
              refine wp_callV (N := mX5_way) (as := [.int (nI p), .int (nI 1)]) dL_isWayRight_55 l_L_108 v_X5_way rfl hR.top.1 rfl (Nat.le_of_ble_eq_true rfl) (s_way h (p := p) (q := 1) hpN hN (by decide)) (fun v hp9 hq => ?_)
              obtain ⟨rfl, xC, rfl, htC⟩ := hq
              obtain ⟨uC, rC, uaC, ubC, ucC, udC, ueC, ⟨ccC, ufC, ugC⟩, eeC, uhC, ukC⟩ := wy_of h hpN htC
              rw [udC, ukC]
              refine wp_bipush (v := nI 6) dL_isWayRight_58 (by decide) ?_
              refine wp_icmp_gt (tgt := 76) dL_isWayRight_60 (by decide) (fun c60 => ?_) (fun c60 => ?_)
              · skip
                exact absurd c60 (nI_nlt uhC (by omega))
              · skip
                refine wp_aload_n (i := 0) dL_isWayRight_63 rfl rfl ?_
                refine wp_iload_n (i := 1) dL_isWayRight_64 rfl rfl ?_
                refine wp_iconst (v := 0) dL_isWayRight_65 rfl ?_
                refine wp_callV (N := mX5_way) (as := [.int (nI p), .int (nI 0)]) dL_isWayRight_66 l_L_108 v_X5_way rfl hR.top.1 rfl (Nat.le_of_ble_eq_true rfl) (s_way h (p := p) (q := 0) hpN hN (by decide)) (fun v hp9 hq => ?_)
                obtain ⟨rfl, xE, rfl, htE⟩ := hq
                obtain ⟨uE, rE, uaE, ubE, ucE, udE, ueE, ⟨ccE, ufE, ugE⟩, eeE, uhE, ukE⟩ := wy_of h hpN htE
                rw [udE, ugE]
                refine wp_aload_n (i := 0) dL_isWayRight_69 rfl rfl ?_
                refine wp_callV (N := mX5_clients) (as := []) dL_isWayRight_70 l_L_94 v_X5_clients rfl hR.top.1 rfl (Nat.le_of_ble_eq_true rfl) (s_clients h) (fun v hp9 hq => ?_)
                obtain ⟨rfl, rfl⟩ := hq
                refine wp_icmp_lt (tgt := 78) dL_isWayRight_73 (by decide) (fun c73 => ?_) (fun c73 => ?_)
                · skip
                  refine wp_iinc (v := nI (p + 1)) dL_isWayRight_78 rfl (nI_1 _) ?_
                  refine wp_goto (tgt := 2) dL_isWayRight_81 (by decide) ?_
                  exact ih (TN M 0 9 - (p + 1)) (by omega) (p + 1) rfl (by omega) _
                · skip
                  exact absurd (nI_lt ufE (by omega)) c73
/-- what is on its way -/
theorem s_wayRight (h : S0 hp M zB tB clk cc K D ev) : WM L xs (d + 4) mL_isWayRight [.ref 1] hp (fun v hp' => hp' = hp ∧ v = some (.int 1)) := by
  refine WM.of [some (.ref 1), none, none] (by decide) rfl (Nat.le_of_ble_eq_true rfl) ?_
  refine wp_iconst (v := 0) dL_isWayRight_0 rfl ?_
  refine wp_istore_n (i := 1) dL_isWayRight_1 rfl (Nat.le_of_ble_eq_true rfl) ?_
  exact w_wr_2 h _ 0 rfl (Nat.zero_le _) _
end LAW1
