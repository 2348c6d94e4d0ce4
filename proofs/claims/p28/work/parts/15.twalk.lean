/-! ===== Table: its walks ===== -/
theorem gT_sW (M : MS) (z t y n a : Nat) (r : List Row) (cap : Nat) : gT (sW M z t y n a r cap) y n a = r := by show (if _ then (r, cap) else _).1 = r; rw [if_pos ⟨rfl, rfl, rfl⟩]
theorem gP_sW (M : MS) (z t y n a : Nat) (r : List Row) (cap : Nat) : gP (sW M z t y n a r cap) y n a = cap := by show (if _ then (r, cap) else _).2 = cap; rw [if_pos ⟨rfl, rfl, rfl⟩]
theorem gT_sWn {M : MS} {z t y n a : Nat} {r : List Row} {cap y' n' a' : Nat} (h : ¬ (y' = y ∧ n' = n ∧ a' = a)) : gT (sW M z t y n a r cap) y' n' a' = gT M y' n' a' := by show (if _ then (r, cap) else _).1 = _; rw [if_neg h]
theorem gP_sWn {M : MS} {z t y n a : Nat} {r : List Row} {cap y' n' a' : Nat} (h : ¬ (y' = y ∧ n' = n ∧ a' = a)) : gP (sW M z t y n a r cap) y' n' a' = gP M y' n' a' := by show (if _ then (r, cap) else _).2 = _; rw [if_neg h]
theorem sW_sW (M : MS) (z t z2 t2 y n a : Nat) (r r2 : List Row) (cap cap2 : Nat) : sW (sW M z t y n a r cap) z2 t2 y n a r2 cap2 = sW M z2 t2 y n a r2 cap2 := by
  unfold sW
  congr 4
  funext y' n' a'
  by_cases h : y' = y ∧ n' = n ∧ a' = a
  · rw [if_pos h, if_pos h]
  · rw [if_neg h, if_neg h]; exact if_neg h
theorem hv_new {hp : AH} {t n : Nat} {z : Nat → Value} {i k : Nat} (h : i ≤ hsz hp) : hv (hnew hp t n z) i k = hv hp i k := if_neg (by have : i ≤ hp.1 := h; omega)
theorem okc_new {hp : AH} {t n : Nat} {z : Nat → Value} {i ci m : Nat} (h : okc hp i ci m) : okc (hnew hp t n z) i ci m := by
  obtain ⟨h1, h2, h3⟩ := h
  refine ⟨h1, Nat.le_succ_of_le h2, ?_⟩
  show (if i = hp.1 + 1 then (t, n) else hp.2.2.1 i) = _
  rw [if_neg (by have : i ≤ hp.1 := h2; omega)]
  exact h3
theorem okc_new_self (hp : AH) (t n : Nat) (z : Nat → Value) : okc (hnew hp t n z) (hsz hp + 1) t n := ⟨Nat.succ_pos _, Nat.le_refl _, if_pos rfl⟩
theorem TabAt.read {hp : AH} {M : MS} {y n a : Nat} (h : TabAt hp (xt y n a) (tw y) (gT M y n a) (gP M y n a)) {r c : Nat} (hr : r < (gT M y n a).length) (hc : c < tw y) : hv hp (aix hp (xt y n a)) (r * tw y + c) = .int (gC M y n a r c) := by
  obtain ⟨a1, a2, a3, a4, a5, a6, a7, a8, a9, a10, a11⟩ := h
  refine (a11 r _ (List.getElem?_eq_getElem hr) c hc).trans ?_
  show _ = Value.int (((gT M y n a).getD r (fun _ => 0)) c)
  rw [List.getD_eq_getElem?_getD, List.getElem?_eq_getElem hr]; rfl
section TABLE
variable {L : Nat} {xs : Nat → Int32} {d : Nat} {hp : AH} {M : MS} {y n a : Nat}
/-- a place in the table -/
theorem s_isCell (hR : Rep hp M) (ht : vt y n a) {r c : Nat} (hr : r < (gT M y n a).length) (hc : c < tw y) : WM L xs d mX4_isCell [.ref (xt y n a), .int (nI r), .int (nI c)] hp (fun v hp' => hp' = hp ∧ v = some (.int 1)) := by
  have hl := (hR.T ht).2.2.2.2.2.2.2.1
  have hl2 := (hR.T ht).2.2.2.2.2.2.2.2.1
  refine WM.of [some (.ref _), some (.int (nI r)), some (.int (nI c))] (by decide) rfl (Nat.le_of_ble_eq_true rfl) ?_
  refine wp_iload_n (i := 1) dX4_isCell_0 rfl rfl ?_
  refine wp_if_lt (tgt := 28) dX4_isCell_1 (by decide) (fun c1 => ?_) (fun c1 => ?_)
  · skip
    exact absurd c1 (nI_pos (by omega))
  · skip
    refine wp_iload_n (i := 1) dX4_isCell_4 rfl rfl ?_
    refine wp_aload_n (i := 0) dX4_isCell_5 rfl rfl ?_
    refine wr_rows dX4_isCell_6 hR f_X4_25 ht ?_
    refine wp_icmp_ge (tgt := 28) dX4_isCell_9 (by decide) (fun c9 => ?_) (fun c9 => ?_)
    · skip
      exact absurd (nI_lt hr (by omega)) c9
    · skip
      refine wp_iload_n (i := 2) dX4_isCell_12 rfl rfl ?_
      refine wp_if_lt (tgt := 28) dX4_isCell_13 (by decide) (fun c13 => ?_) (fun c13 => ?_)
      · skip
        exact absurd c13 (nI_pos (by have := (tw_pos y).2; omega))
      · skip
        refine wp_iload_n (i := 2) dX4_isCell_16 rfl rfl ?_
        refine wp_aload_n (i := 0) dX4_isCell_17 rfl rfl ?_
        refine wr_width dX4_isCell_18 hR f_X4_15 ht ?_
        refine wp_icmp_ge (tgt := 28) dX4_isCell_21 (by decide) (fun c21 => ?_) (fun c21 => ?_)
        · skip
          exact absurd (nI_lt hc (by have := (tw_pos y).2; omega)) c21
        · skip
          refine wp_iconst (v := 1) dX4_isCell_24 rfl ?_
          refine wp_goto (tgt := 29) dX4_isCell_25 (by decide) ?_
          refine wp_ret (v := some (.int _)) dX4_isCell_29 rfl ?_
          exact ⟨Or.inr rfl, rfl, rfl⟩
/-- a number of a row -/
theorem s_get (hR : Rep hp M) (ht : vt y n a) {r c : Nat} (hr : r < (gT M y n a).length) (hc : c < tw y) : WM L xs (d + 1) mX4_get [.ref (xt y n a), .int (nI r), .int (nI c)] hp (fun v hp' => hp' = hp ∧ v = some (.int (gC M y n a r c))) := by
  have hT := hR.T ht
  refine WM.of [some (.ref _), some (.int (nI r)), some (.int (nI c))] (by decide) rfl (Nat.le_of_ble_eq_true rfl) ?_
  refine wp_aload_n (i := 0) dX4_get_0 rfl rfl ?_
  refine wp_iload_n (i := 1) dX4_get_1 rfl rfl ?_
  refine wp_iload_n (i := 2) dX4_get_2 rfl rfl ?_
  refine wp_callV (N := mX4_isCell) dX4_get_3 l_X4_35 v_X4_isCell rfl (hR.oT ht) rfl (by decide) (s_isCell hR ht hr hc) (fun v hp1 hq => ?_)
  obtain ⟨rfl, rfl⟩ := hq
  refine wp_if_eq (tgt := 25) dX4_get_6 (by decide) (fun c6 => ?_) (fun c6 => ?_)
  · skip
    exact absurd c6 (by decide)
  · skip
    refine wp_aload_n (i := 0) dX4_get_9 rfl rfl ?_
    refine wr_cells dX4_get_10 hR f_X4_21 ht ?_
    refine wp_iload_n (i := 1) dX4_get_13 rfl rfl ?_
    refine wp_aload_n (i := 0) dX4_get_14 rfl rfl ?_
    refine wr_width dX4_get_15 hR f_X4_15 ht ?_
    refine wp_imul dX4_get_18 ?_
    refine wp_iload_n (i := 2) dX4_get_19 rfl rfl ?_
    refine wp_iadd dX4_get_20 ?_
    refine wp_iald dX4_get_21 hT.okA (k := r * tw y + c) (by rw [pk_mul, nI_add]) (cell_lt hr hc hT.2.2.2.2.2.2.2.1) (cap_lt hT.2.2.2.2.2.2.2.2.1) ?_
    rw [hT.read hr hc]
    refine wp_goto (tgt := 26) dX4_get_22 (by decide) ?_
    refine wp_ret (v := some (.int _)) dX4_get_26 rfl ?_
    exact ⟨trivial, rfl, rfl⟩
/-- a number of a row is put -/
theorem s_put (hR : Rep hp M) (ht : vt y n a) {r c : Nat} (hr : r < (gT M y n a).length) (hc : c < tw y) (x : Int32) : WM L xs (d + 1) mX4_put [.ref (xt y n a), .int (nI r), .int (nI c), .int x] hp (fun v hp' => v = none ∧ Rep hp' (sW M (mz M) (mt M) y n a ((gT M y n a).set r (upd ((gT M y n a).getD r (fun _ => 0)) c x)) (gP M y n a))) := by
  have hT := hR.T ht
  refine WM.of [some (.ref _), some (.int (nI r)), some (.int (nI c)), some (.int x)] (by decide) rfl (Nat.le_of_ble_eq_true rfl) ?_
  refine wp_aload_n (i := 0) dX4_put_0 rfl rfl ?_
  refine wp_iload_n (i := 1) dX4_put_1 rfl rfl ?_
  refine wp_iload_n (i := 2) dX4_put_2 rfl rfl ?_
  refine wp_callV (N := mX4_isCell) dX4_put_3 l_X4_35 v_X4_isCell rfl (hR.oT ht) rfl (by decide) (s_isCell hR ht hr hc) (fun v hp1 hq => ?_)
  obtain ⟨rfl, rfl⟩ := hq
  refine wp_if_eq (tgt := 23) dX4_put_6 (by decide) (fun c6 => ?_) (fun c6 => ?_)
  · skip
    exact absurd c6 (by decide)
  · skip
    refine wp_aload_n (i := 0) dX4_put_9 rfl rfl ?_
    refine wr_cells dX4_put_10 hR f_X4_21 ht ?_
    refine wp_iload_n (i := 1) dX4_put_13 rfl rfl ?_
    refine wp_aload_n (i := 0) dX4_put_14 rfl rfl ?_
    refine wr_width dX4_put_15 hR f_X4_15 ht ?_
    refine wp_imul dX4_put_18 ?_
    refine wp_iload_n (i := 2) dX4_put_19 rfl rfl ?_
    refine wp_iadd dX4_put_20 ?_
    refine wp_iload_n (i := 3) dX4_put_21 rfl rfl ?_
    refine wp_iast dX4_put_22 hT.okA (k := r * tw y + c) (by rw [pk_mul, nI_add]) (cell_lt hr hc hT.2.2.2.2.2.2.2.1) (cap_lt hT.2.2.2.2.2.2.2.2.1) ?_
    refine wp_ret (v := none) dX4_put_23 rfl ?_
    exact ⟨trivial, rfl, hR.cell ht hr hc x⟩
theorem w_addRow_62 (hR : Rep hp M) (ht : vt y n a) (hl : (gT M y n a).length < gP M y n a) (l1 l2 : Option Value) : WP L xs d mX4_addRow 62 [some (.ref (xt y n a)), l1, l2] [] hp (fun v hp' => retOk mX4_addRow.2.2.2 v ∧ v = some (.int (nI (gT M y n a).length)) ∧ ∃ q : Row, Rep hp' (sW M (mz M) (mt M) y n a (gT M y n a ++ [q]) (gP M y n a))) := by
  refine wp_aload_n (i := 0) dX4_addRow_62 rfl rfl ?_
  refine wp_dup dX4_addRow_63 rfl ?_
  refine wr_rows dX4_addRow_64 hR f_X4_25 ht ?_
  refine wp_iconst (v := 1) dX4_addRow_67 rfl ?_
  refine wp_iadd dX4_addRow_68 ?_
  rw [nI_1]
  obtain ⟨q, hR1⟩ := hR.addPlain ht hl
  refine wp_put dX4_addRow_69 (hR.oT ht) (p_X4_25 rfl) (okI rfl) (by decide) ?_
  refine wp_aload_n (i := 0) dX4_addRow_72 rfl rfl ?_
  refine wr_rows dX4_addRow_73 hR1 f_X4_25 ht ?_
  refine wp_iconst (v := 1) dX4_addRow_76 rfl ?_
  refine wp_isub dX4_addRow_77 ?_
  refine wp_ret (v := some (.int _)) dX4_addRow_78 rfl ?_
  refine ⟨trivial, ?_, q, hR1⟩
  rw [gT_sW, List.length_append]
  exact congrArg (fun z => some (Value.int z)) (nI_pred _)
/-- how much room a table has with one more row, and what that costs -/
def aP (M : MS) (y n a : Nat) : Nat := if (gT M y n a).length < gP M y n a then gP M y n a else 2 * ((gT M y n a).length + 1)
def aZ (M : MS) (y n a : Nat) : Nat := if (gT M y n a).length < gP M y n a then mz M else mz M + 1
def aT (M : MS) (y n a : Nat) : Nat := if (gT M y n a).length < gP M y n a then mt M else mt M + tw y * (2 * ((gT M y n a).length + 1))
/-- a row more, its numbers still to be put -/
theorem s_addRow (hR : Rep hp M) (ht : vt y n a) (hl : (gT M y n a).length < 65536) : WM L xs (d + 1) mX4_addRow [.ref (xt y n a)] hp (fun v hp' => v = some (.int (nI (gT M y n a).length)) ∧ ∃ q : Row, Rep hp' (sW M (aZ M y n a) (aT M y n a) y n a (gT M y n a ++ [q]) (aP M y n a))) := by
  have hT := hR.T ht
  have hle := hT.2.2.2.2.2.2.2.1
  have hcap := hT.2.2.2.2.2.2.2.2.1
  have hw := tw_pos y
  have hlw : (gT M y n a).length * tw y ≤ 65536 * 8 := Nat.mul_le_mul (by omega) hw.2
  have hcw := cap_lt (y := y) hcap
  refine WM.of [some (.ref _), none, none] (by decide) rfl (Nat.le_of_ble_eq_true rfl) ?_
  refine wp_aload_n (i := 0) dX4_addRow_0 rfl rfl ?_
  refine wr_rows dX4_addRow_1 hR f_X4_25 ht ?_
  refine wp_ldc dX4_addRow_4 k_X4_28 ?_
  refine wp_icmp_lt (tgt := 11) dX4_addRow_6 (by decide) (fun c6 => ?_) (fun c6 => ?_)
  · skip
    refine wp_aload_n (i := 0) dX4_addRow_11 rfl rfl ?_
    refine wr_rows dX4_addRow_12 hR f_X4_25 ht ?_
    refine wp_aload_n (i := 0) dX4_addRow_15 rfl rfl ?_
    refine wr_width dX4_addRow_16 hR f_X4_15 ht ?_
    refine wp_imul dX4_addRow_19 ?_
    refine wp_istore_n (i := 1) dX4_addRow_20 rfl (Nat.le_of_ble_eq_true rfl) ?_
    refine wp_iload_n (i := 1) dX4_addRow_21 rfl rfl ?_
    refine wp_aload_n (i := 0) dX4_addRow_22 rfl rfl ?_
    refine wr_width dX4_addRow_23 hR f_X4_15 ht ?_
    refine wp_iadd dX4_addRow_26 ?_
    refine wp_aload_n (i := 0) dX4_addRow_27 rfl rfl ?_
    refine wr_cells dX4_addRow_28 hR f_X4_21 ht ?_
    refine wp_alenI dX4_addRow_31 hT.okA ?_
    refine wp_icmp_le (tgt := 62) dX4_addRow_32 (by decide) (fun c32 => ?_) (fun c32 => ?_)
    · skip
      have e9 : nI (gT M y n a).length * nI (tw y) + nI (tw y) = nI ((gT M y n a).length * tw y + tw y) := by rw [pk_mul, nI_add]
      rw [e9, nI_ltI hcw (by omega)] at c32
      have e8 : (gT M y n a).length * tw y + tw y = tw y * ((gT M y n a).length + 1) := by rw [Nat.mul_succ, Nat.mul_comm (tw y)]
      rw [e8] at c32
      have hlt : (gT M y n a).length < gP M y n a := by
        rcases Nat.lt_or_ge (gT M y n a).length (gP M y n a) with q | q
        · exact q
        · have h1 : tw y * gP M y n a < tw y * ((gT M y n a).length + 1) := Nat.mul_lt_mul_of_pos_left (by omega) hw.1
          exact absurd h1 c32
      refine WP.mono (w_addRow_62 hR ht hlt _ _) (fun v hp' hq => ?_)
      obtain ⟨q1, q2, q, q3⟩ := hq
      refine ⟨q1, q2, q, ?_⟩
      rw [aZ, aT, aP, if_pos hlt, if_pos hlt, if_pos hlt]
      exact q3
    · skip
      have e9 : nI (gT M y n a).length * nI (tw y) + nI (tw y) = nI ((gT M y n a).length * tw y + tw y) := by rw [pk_mul, nI_add]
      rw [e9, nI_ltI hcw (by omega)] at c32
      have e8 : (gT M y n a).length * tw y + tw y = tw y * ((gT M y n a).length + 1) := by rw [Nat.mul_succ, Nat.mul_comm (tw y)]
      rw [e8] at c32
      have hge : ¬ (gT M y n a).length < gP M y n a := fun q => by
        have h1 : tw y * ((gT M y n a).length + 1) ≤ tw y * gP M y n a := Nat.mul_le_mul_left _ q
        omega
      have hbig : tw y * (2 * ((gT M y n a).length + 1)) ≤ 8 * 131074 := Nat.mul_le_mul hw.2 (by omega)
      have hbig2 : (gT M y n a).length * tw y ≤ tw y * (2 * ((gT M y n a).length + 1)) := by rw [Nat.mul_comm]; exact Nat.mul_le_mul_left _ (by omega)
      have hle2 : (gT M y n a).length * tw y ≤ tw y * gP M y n a := by rw [Nat.mul_comm]; exact Nat.mul_le_mul_left _ hle
      refine wp_iconst (v := 2) dX4_addRow_35 rfl ?_
      refine wp_iload_n (i := 1) dX4_addRow_36 rfl rfl ?_
      refine wp_aload_n (i := 0) dX4_addRow_37 rfl rfl ?_
      refine wr_width dX4_addRow_38 hR f_X4_15 ht ?_
      refine wp_iadd dX4_addRow_41 ?_
      refine wp_imul dX4_addRow_42 ?_
      refine wp_newI (n := tw y * (2 * ((gT M y n a).length + 1))) dX4_addRow_43 arrI_in (by rw [e9, show (2 : Int32) = nI 2 from rfl, pk_mul, e8, Nat.mul_left_comm]) (by omega) ?_
      refine wp_astore_n (i := 2) dX4_addRow_45 rfl (Nat.le_of_ble_eq_true rfl) ?_
      refine wp_aload_n (i := 0) dX4_addRow_46 rfl rfl ?_
      refine wp_get dX4_addRow_47 (okc_new (hR.oT ht)) f_X4_21 (by decide) ?_
      rw [hv_new (hR.oT ht).2.1, hT.2.2.2.1]
      refine wp_iconst (v := 0) dX4_addRow_50 rfl ?_
      refine wp_aload_n (i := 2) dX4_addRow_51 rfl rfl ?_
      refine wp_iconst (v := 0) dX4_addRow_52 rfl ?_
      refine wp_iload_n (i := 1) dX4_addRow_53 rfl rfl ?_
      refine wp_copy (sp := 0) (dp := 0) (n := (gT M y n a).length * tw y) dX4_addRow_54 o_X4_29 (okc_new hT.okA) (okc_new_self _ _ _ _) nI_0.symm nI_0.symm (pk_mul _ _) (by omega) (by omega) (by omega) (by omega) (by decide) ?_
      refine wp_aload_n (i := 0) dX4_addRow_57 rfl rfl ?_
      refine wp_aload_n (i := 2) dX4_addRow_58 rfl rfl ?_
      refine wp_put dX4_addRow_59 (okc_new (z := fun _ => .int 0) (n := tw y * (2 * ((gT M y n a).length + 1))) (t := 6) (hR.oT ht)) (p_X4_21 rfl) (fun _ _ => ⟨rfl, rfl⟩) (by decide) ?_
      have hR2 := hR.fresh ht (c2 := 2 * ((gT M y n a).length + 1)) (by omega) (by omega)
      refine WP.mono (w_addRow_62 hR2 ht (by rw [gT_sW, gP_sW]; omega) _ _) (fun v hp' hq => ?_)
      obtain ⟨q1, q2, q, q3⟩ := hq
      rw [gT_sW] at q2
      rw [gT_sW, gP_sW, sW_sW] at q3
      refine ⟨q1, q2, q, ?_⟩
      rw [aZ, aT, aP, if_neg hge, if_neg hge, if_neg hge]
      exact q3
  · skip
    exact absurd (by rw [show (65536 : Int32) = nI 65536 from by decide]; exact nI_lt hl (by decide)) c6
/-- the first rows go -/
theorem s_dropFirst (hR : Rep hp M) (ht : vt y n a) {m : Nat} (hm : m ≤ (gT M y n a).length) : WM L xs (d + 1) mX4_dropFirst [.ref (xt y n a), .int (nI m)] hp (fun v hp' => v = none ∧ Rep hp' (sW M (mz M) (mt M) y n a ((gT M y n a).drop m) (gP M y n a))) := by
  have hT := hR.T ht
  have hne := hT.apart (xt_le ht).2
  have hle := hT.2.2.2.2.2.2.2.1
  have hcap := hT.2.2.2.2.2.2.2.2.1
  have hcw := cap_lt (y := y) hcap
  have hlw : (gT M y n a).length * tw y ≤ tw y * gP M y n a := by rw [Nat.mul_comm]; exact Nat.mul_le_mul_left _ hle
  have hmw : m * tw y + ((gT M y n a).length - m) * tw y = (gT M y n a).length * tw y := by rw [← Nat.add_mul]; congr 1; omega
  refine WM.of [some (.ref _), some (.int (nI m))] (by decide) rfl (Nat.le_of_ble_eq_true rfl) ?_
  refine wp_iload_n (i := 1) dX4_dropFirst_0 rfl rfl ?_
  refine wp_if_le (tgt := 12) dX4_dropFirst_1 (by decide) (fun c1 => ?_) (fun c1 => ?_)
  · skip
    have hm0 : m = 0 := by
      rcases Nat.eq_zero_or_pos m with q | q
      · exact q
      · exact absurd (by rw [← nI_0]; exact nI_lt q (by omega)) c1
    subst hm0
    refine wp_ret (v := none) dX4_dropFirst_12 rfl ?_
    refine ⟨trivial, rfl, ?_⟩
    rw [List.drop_zero]
    have e1 : sW M (mz M) (mt M) y n a (gT M y n a) (gP M y n a) = M := by
      unfold sW
      refine Prod.ext rfl (Prod.ext rfl (Prod.ext rfl (Prod.ext ?_ rfl)))
      funext y' n' a'
      by_cases h : y' = y ∧ n' = n ∧ a' = a
      · obtain ⟨rfl, rfl, rfl⟩ := h
        exact if_pos ⟨rfl, rfl, rfl⟩
      · exact if_neg h
    rw [e1]
    exact hR
  · skip
    refine wp_iload_n (i := 1) dX4_dropFirst_4 rfl rfl ?_
    refine wp_aload_n (i := 0) dX4_dropFirst_5 rfl rfl ?_
    refine wr_rows dX4_dropFirst_6 hR f_X4_25 ht ?_
    refine wp_icmp_le (tgt := 13) dX4_dropFirst_9 (by decide) (fun c9 => ?_) (fun c9 => ?_)
    · skip
      refine wp_aload_n (i := 0) dX4_dropFirst_13 rfl rfl ?_
      refine wr_cells dX4_dropFirst_14 hR f_X4_21 ht ?_
      refine wp_iload_n (i := 1) dX4_dropFirst_17 rfl rfl ?_
      refine wp_aload_n (i := 0) dX4_dropFirst_18 rfl rfl ?_
      refine wr_width dX4_dropFirst_19 hR f_X4_15 ht ?_
      refine wp_imul dX4_dropFirst_22 ?_
      refine wp_aload_n (i := 0) dX4_dropFirst_23 rfl rfl ?_
      refine wr_cells dX4_dropFirst_24 hR f_X4_21 ht ?_
      refine wp_iconst (v := 0) dX4_dropFirst_27 rfl ?_
      refine wp_aload_n (i := 0) dX4_dropFirst_28 rfl rfl ?_
      refine wr_rows dX4_dropFirst_29 hR f_X4_25 ht ?_
      refine wp_iload_n (i := 1) dX4_dropFirst_32 rfl rfl ?_
      refine wp_isub dX4_dropFirst_33 ?_
      refine wp_aload_n (i := 0) dX4_dropFirst_34 rfl rfl ?_
      refine wr_width dX4_dropFirst_35 hR f_X4_15 ht ?_
      refine wp_imul dX4_dropFirst_38 ?_
      refine wp_copy (sp := m * tw y) (dp := 0) (n := ((gT M y n a).length - m) * tw y) dX4_dropFirst_39 o_X4_29 hT.okA hT.okA (pk_mul _ _) nI_0.symm (by rw [pk_sub hm, pk_mul]) (by omega) (by omega) hcw hcw (by decide) ?_
      refine wp_aload_n (i := 0) dX4_dropFirst_42 rfl rfl ?_
      refine wp_dup dX4_dropFirst_43 rfl ?_
      refine wp_get dX4_dropFirst_44 (hR.oT ht) f_X4_25 (by decide) ?_
      rw [show hv (hcpy hp (aix hp (xt y n a)) (aix hp (xt y n a)) (m * tw y) 0 (((gT M y n a).length - m) * tw y)) (xt y n a) 2 = hv hp (xt y n a) 2 from if_neg (fun q => hne q.symm), hT.2.2.1]
      refine wp_iload_n (i := 1) dX4_dropFirst_47 rfl rfl ?_
      refine wp_isub dX4_dropFirst_48 ?_
      rw [pk_sub hm]
      refine wp_put dX4_dropFirst_49 (hR.oT ht) (p_X4_25 rfl) (okI rfl) (by decide) ?_
      refine wp_ret (v := none) dX4_dropFirst_52 rfl ?_
      exact ⟨trivial, rfl, hR.drop ht hm⟩
    · skip
      exact absurd c9 (nI_nlt hm (by omega))
theorem sW_id (M : MS) (y n a : Nat) : sW M (mz M) (mt M) y n a (gT M y n a) (gP M y n a) = M := by
  unfold sW
  refine Prod.ext rfl (Prod.ext rfl (Prod.ext rfl (Prod.ext ?_ rfl)))
  funext y' n' a'
  by_cases h : y' = y ∧ n' = n ∧ a' = a
  · obtain ⟨rfl, rfl, rfl⟩ := h
    exact if_pos ⟨rfl, rfl, rfl⟩
  · exact if_neg h
theorem w_tcopy_30 (hR : Rep hp M) (ht : vt y n a) {n' a' : Nat} (ht' : vt y n' a') (hne0 : ¬ (n' = n ∧ a' = a)) (hl : (gT M y n' a').length ≤ gP M y n a) : WP L xs (d + 1) mX4_copyFrom 30 [some (.ref (xt y n a)), some (.ref (xt y n' a')), some (.int (nI ((gT M y n' a').length * tw y)))] [] hp (fun v hp' => retOk mX4_copyFrom.2.2.2 v ∧ v = none ∧ Rep hp' (sW M (mz M) (mt M) y n a (gT M y n' a') (gP M y n a))) := by
  have hT := hR.T ht
  have hT' := hR.T ht'
  have hcw := cap_lt (y := y) hT.2.2.2.2.2.2.2.2.1
  have hcw' := cap_lt (y := y) hT'.2.2.2.2.2.2.2.2.1
  have hlw : (gT M y n' a').length * tw y ≤ tw y * gP M y n a := by rw [Nat.mul_comm]; exact Nat.mul_le_mul_left _ hl
  have hlw' : (gT M y n' a').length * tw y ≤ tw y * gP M y n' a' := by rw [Nat.mul_comm]; exact Nat.mul_le_mul_left _ hT'.2.2.2.2.2.2.2.1
  have hxA : xt y n' a' ≠ aix hp (xt y n a) := by
    have h1 := xt_le ht'
    have h2 := (xt_inj ht' ht).2
    rcases hT.2.2.2.2.1 with e | e <;> omega
  refine wp_aload_n (i := 1) dX4_copyFrom_30 rfl rfl ?_
  refine wr_cells dX4_copyFrom_31 hR f_X4_21 ht' ?_
  refine wp_iconst (v := 0) dX4_copyFrom_34 rfl ?_
  refine wp_aload_n (i := 0) dX4_copyFrom_35 rfl rfl ?_
  refine wr_cells dX4_copyFrom_36 hR f_X4_21 ht ?_
  refine wp_iconst (v := 0) dX4_copyFrom_39 rfl ?_
  refine wp_iload_n (i := 2) dX4_copyFrom_40 rfl rfl ?_
  refine wp_copy (sp := 0) (dp := 0) (n := (gT M y n' a').length * tw y) dX4_copyFrom_41 o_X4_29 hT'.okA hT.okA nI_0.symm nI_0.symm rfl (by omega) (by omega) hcw' hcw (by decide) ?_
  refine wp_aload_n (i := 0) dX4_copyFrom_44 rfl rfl ?_
  refine wp_aload_n (i := 1) dX4_copyFrom_45 rfl rfl ?_
  refine wp_get dX4_copyFrom_46 (hR.oT ht') f_X4_25 (by decide) ?_
  rw [show hv (hcpy hp (aix hp (xt y n' a')) (aix hp (xt y n a)) 0 0 ((gT M y n' a').length * tw y)) (xt y n' a') 2 = hv hp (xt y n' a') 2 from if_neg hxA, hT'.2.2.1]
  refine wp_put dX4_copyFrom_49 (hR.oT ht) (p_X4_25 rfl) (okI rfl) (by decide) ?_
  refine wp_ret (v := none) dX4_copyFrom_52 rfl ?_
  exact ⟨trivial, rfl, hR.tcopy ht ht' hne0 hl⟩
def cP (M : MS) (y n a n' a' : Nat) : Nat := if (gT M y n' a').length ≤ gP M y n a then gP M y n a else gP M y n' a'
def cZ (M : MS) (y n a n' a' : Nat) : Nat := if (gT M y n' a').length ≤ gP M y n a then mz M else mz M + 1
def cQ (M : MS) (y n a n' a' : Nat) : Nat := if (gT M y n' a').length ≤ gP M y n a then mt M else mt M + tw y * gP M y n' a'
/-- rows as another table has them -/
theorem s_tabCopy (hR : Rep hp M) (ht : vt y n a) {n' a' : Nat} (ht' : vt y n' a') (hne0 : ¬ (n' = n ∧ a' = a)) : WM L xs (d + 1) mX4_copyFrom [.ref (xt y n a), .ref (xt y n' a')] hp (fun v hp' => v = none ∧ Rep hp' (sW M (cZ M y n a n' a') (cQ M y n a n' a') y n a (gT M y n' a') (cP M y n a n' a'))) := by
  have hT := hR.T ht
  have hT' := hR.T ht'
  have hcw := cap_lt (y := y) hT.2.2.2.2.2.2.2.2.1
  have hcap' := hT'.2.2.2.2.2.2.2.2.1
  have hcw' := cap_lt (y := y) hcap'
  have hw := tw_pos y
  have hlw' : (gT M y n' a').length * tw y ≤ tw y * gP M y n' a' := by rw [Nat.mul_comm]; exact Nat.mul_le_mul_left _ hT'.2.2.2.2.2.2.2.1
  refine WM.of [some (.ref _), some (.ref _), none] (by decide) rfl (Nat.le_of_ble_eq_true rfl) ?_
  refine wp_aload_n (i := 1) dX4_copyFrom_0 rfl rfl ?_
  refine wr_rows dX4_copyFrom_1 hR f_X4_25 ht' ?_
  refine wp_aload_n (i := 1) dX4_copyFrom_4 rfl rfl ?_
  refine wr_width dX4_copyFrom_5 hR f_X4_15 ht' ?_
  refine wp_imul dX4_copyFrom_8 ?_
  rw [pk_mul]
  refine wp_istore_n (i := 2) dX4_copyFrom_9 rfl (Nat.le_of_ble_eq_true rfl) ?_
  refine wp_iload_n (i := 2) dX4_copyFrom_10 rfl rfl ?_
  refine wp_aload_n (i := 0) dX4_copyFrom_11 rfl rfl ?_
  refine wr_cells dX4_copyFrom_12 hR f_X4_21 ht ?_
  refine wp_alenI dX4_copyFrom_15 hT.okA ?_
  refine wp_icmp_le (tgt := 30) dX4_copyFrom_16 (by decide) (fun c16 => ?_) (fun c16 => ?_)
  · skip
    rw [nI_ltI hcw (by omega)] at c16
    have hle : (gT M y n' a').length ≤ gP M y n a := by
      rcases Nat.lt_or_ge (gP M y n a) (gT M y n' a').length with q | q
      · have h1 : tw y * gP M y n a < tw y * (gT M y n' a').length := Nat.mul_lt_mul_of_pos_left q hw.1
        rw [Nat.mul_comm (tw y) (gT M y n' a').length] at h1
        exact absurd h1 c16
      · exact q
    rw [cZ, cQ, cP, if_pos hle, if_pos hle, if_pos hle]
    exact w_tcopy_30 hR ht ht' hne0 hle
  · skip
    rw [nI_ltI hcw (by omega)] at c16
    have hgt : ¬ (gT M y n' a').length ≤ gP M y n a := fun q => by
      have h1 : tw y * (gT M y n' a').length ≤ tw y * gP M y n a := Nat.mul_le_mul_left _ q
      rw [Nat.mul_comm (tw y) (gT M y n' a').length] at h1
      omega
    have hl1 := hT.2.2.2.2.2.2.2.1
    have hl2 := hT'.2.2.2.2.2.2.2.1
    refine wp_aload_n (i := 0) dX4_copyFrom_19 rfl rfl ?_
    refine wp_aload_n (i := 1) dX4_copyFrom_20 rfl rfl ?_
    refine wr_cells dX4_copyFrom_21 hR f_X4_21 ht' ?_
    refine wp_alenI dX4_copyFrom_24 hT'.okA ?_
    refine wp_newI (n := tw y * gP M y n' a') dX4_copyFrom_25 arrI_in rfl (by have := Nat.mul_le_mul hw.2 hcap'; omega) ?_
    refine wp_put dX4_copyFrom_27 (okc_new (hR.oT ht)) (p_X4_21 rfl) (fun _ _ => ⟨rfl, rfl⟩) (by decide) ?_
    have hR2 := hR.zeros ht (c2 := gP M y n' a') (by omega) hcap'
    have e1 : gT (sW M (mz M + 1) (mt M + tw y * gP M y n' a') y n a (List.replicate (gT M y n a).length (fun _ => 0)) (gP M y n' a')) y n' a' = gT M y n' a' := gT_sWn (fun q => hne0 q.2)
    have hw9 := w_tcopy_30 (L := L) (xs := xs) (d := d) hR2 ht ht' hne0 (by rw [e1, gP_sW]; exact hl2)
    rw [e1, sW_sW, gP_sW] at hw9
    rw [cZ, cQ, cP, if_neg hgt, if_neg hgt, if_neg hgt]
    exact hw9
end TABLE
section SLOT
variable {L : Nat} {xs : Nat → Int32} {d : Nat} {hp : AH} {M : MS}

/-- the slot of what comes at a clock -/
theorem s_slotAt (hR : Rep hp M) {n k : Nat} (hn : n < 2) (hk : k < 2 ^ 31) : WM L xs (d + 1) mX2_slotAt [.ref (xi 0 n 0 0), .int (nI k)] hp (fun v hp' => hp' = hp ∧ v = some (.ref (xt 2 n (k % 9)))) := by
  have hk9 : k % 9 < 9 := Nat.mod_lt _ (by decide)
  refine WM.of [some (.ref _), some (.int (nI k))] (by decide) rfl (Nat.le_of_ble_eq_true rfl) ?_
  refine wp_aload_n (i := 0) dX2_slotAt_0 rfl rfl ?_
  refine wr_netR (j := rT n) dX2_slotAt_1 hR f_X2_35 hn (Or.inr (Or.inr ⟨rfl, rfl⟩)) ?_
  refine wp_iload_n (i := 1) dX2_slotAt_4 rfl rfl ?_
  refine wp_bipush (v := nI 9) dX2_slotAt_5 (by decide) ?_
  refine wp_fmod (k := k) (q := 9) dX2_slotAt_7 fm_X2_53 rfl hk rfl (by decide) (by decide) (Nat.le_of_ble_eq_true rfl) ?_
  refine wr_aT (k := (k % 9)) dX2_slotAt_10 hR rfl hn hk9 ?_
  refine wp_ret (v := some (.ref _)) dX2_slotAt_11 rfl ?_
  exact ⟨trivial, rfl, rfl⟩
end SLOT
