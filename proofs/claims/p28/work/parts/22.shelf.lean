/-! ===== Shelf ===== -/
theorem put_last (l : List Row) (q d0 : Row) (c : Nat) (x : Int32) : (l ++ [q]).set l.length (upd ((l ++ [q]).getD l.length d0) c x) = l ++ [upd q c x] := by
  rw [List.set_append_right _ _ (Nat.le_refl _), Nat.sub_self, List.getD_eq_getElem?_getD, List.getElem?_append_right (Nat.le_refl _), Nat.sub_self]
  rfl
section SHELF
variable {L : Nat} {xs : Nat → Int32} {d : Nat} {hp : AH} {M : MS} {n f : Nat}
/-- a number of the last row -/
theorem s_putLast {y a z t cap : Nat} {l : List Row} {q : Row} (hR : Rep hp (sW M z t y n a (l ++ [q]) cap)) (ht : vt y n a) {c : Nat} (hc : c < tw y) (x : Int32) : WM L xs (d + 1) mX4_put [.ref (xt y n a), .int (nI l.length), .int (nI c), .int x] hp (fun v hp' => v = none ∧ Rep hp' (sW M z t y n a (l ++ [upd q c x]) cap)) := by
  refine WM.mono (s_put hR ht (r := l.length) (c := c) (by rw [gT_sW, List.length_append]; exact Nat.lt_succ_self _) hc x) (fun v hp' hq => ?_)
  obtain ⟨h1, h2⟩ := hq
  refine ⟨h1, ?_⟩
  rw [gT_sW, gP_sW, sW_sW, put_last] at h2
  exact h2
/-- whether a client has a lease -/
theorem s_isLeased (hR : Rep hp M) (hn : n < 2) (hf : f < 12) {c : Nat} (hc : c < 4) (x : Int32) : WM L xs d mX3_isLeased [.ref (xi 4 n f 0), .int (nI c), .int x] hp (fun v hp' => hp' = hp ∧ v = some (.int (bI (x < gV M 5 n f 0 c)))) := by
  refine WM.of [some (.ref _), some (.int (nI c)), some (.int x)] (by decide) rfl (Nat.le_of_ble_eq_true rfl) ?_
  refine wp_iload_n (i := 2) dX3_isLeased_0 rfl rfl ?_
  refine wp_aload_n (i := 0) dX3_isLeased_1 rfl rfl ?_
  refine wr_sheR (j := xi 5 n f 0) dX3_isLeased_2 hR f_X3_9 hn hf (Or.inl ⟨rfl, rfl⟩) ?_
  refine wp_iload_n (i := 1) dX3_isLeased_5 rfl rfl ?_
  refine wr_untG (k := c) dX3_isLeased_6 hR rfl (vs5 hn hf hc) ?_
  refine wp_icmp_ge (tgt := 14) dX3_isLeased_7 (by decide) (fun c7 => ?_) (fun c7 => ?_)
  · skip
    refine wp_iconst (v := 0) dX3_isLeased_14 rfl ?_
    refine wp_ret (v := some (.int _)) dX3_isLeased_15 rfl ?_
    exact ⟨by first | exact Or.inr rfl | exact Or.inl rfl, rfl, by first | rw [bI_t (by assumption)] | rw [bI_f (by assumption)]⟩
  · skip
    refine wp_iconst (v := 1) dX3_isLeased_10 rfl ?_
    refine wp_goto (tgt := 15) dX3_isLeased_11 (by decide) ?_
    refine wp_ret (v := some (.int _)) dX3_isLeased_15 rfl ?_
    exact ⟨by first | exact Or.inr rfl | exact Or.inl rfl, rfl, by first | rw [bI_t (by assumption)] | rw [bI_f (by assumption)]⟩
/-- whether a request has to wait -/
def hWt (M : MS) (n f r : Nat) (x : Int32) : Prop := ¬ gC M 1 n f r 1 = 0 ∧ ∃ o, o < 4 ∧ ¬ nI o = gC M 1 n f r 0 ∧ x < gV M 5 n f 0 o
theorem w_wait_27 (hR : Rep hp M) (hn : n < 2) (hf : f < 12) {r : Nat} (x : Int32) (h1 : ¬ gC M 1 n f r 1 = 0) : ∀ (m o : Nat), 4 - o = m → o ≤ 4 → (∀ j, j < o → ¬ (¬ nI j = gC M 1 n f r 0 ∧ x < gV M 5 n f 0 j)) → WP L xs (d + 1) mX3_hasToWait 27 [some (.ref (xi 4 n f 0)), some (.int (nI r)), some (.int x), some (.int (gC M 1 n f r 0)), some (.int (nI o))] [] hp (fun v hp' => retOk mX3_hasToWait.2.2.2 v ∧ hp' = hp ∧ ((hWt M n f r x ∧ v = some (.int 1)) ∨ (¬ hWt M n f r x ∧ v = some (.int 0)))) := by
  intro m
  induction m using Nat.strongRecOn with
  | ind m ih =>
    intro o hm ho0 hno
    subst hm
    refine wp_iload dX3_hasToWait_27 rfl ?_
    refine wp_iconst (v := 4) dX3_hasToWait_29 rfl ?_
    refine wp_icmp_ge (tgt := 57) dX3_hasToWait_30 (by decide) (fun c30 => ?_) (fun c30 => ?_)
    · skip
      have ho4 : o = 4 := by
        rcases Nat.lt_or_ge o 4 with q | q
        · exact absurd (nI_lt q (by decide)) c30
        · omega
      subst ho4
      refine wp_iconst (v := 0) dX3_hasToWait_57 rfl ?_
      refine wp_ret (v := some (.int _)) dX3_hasToWait_58 rfl ?_
      refine ⟨Or.inl rfl, rfl, Or.inr ⟨?_, rfl⟩⟩
      rintro ⟨-, o', q1, q2⟩
      exact hno o' q1 q2
    · skip
      refine wp_iload dX3_hasToWait_33 rfl ?_
      refine wp_iload_n (i := 3) dX3_hasToWait_35 rfl rfl ?_
      refine wp_icmp_eq (tgt := 51) dX3_hasToWait_36 (by decide) (fun c36 => ?_) (fun c36 => ?_)
      · skip
        refine wp_iinc (v := nI (o + 1)) dX3_hasToWait_51 rfl (nI_1 _) ?_
        refine wp_goto (tgt := 27) dX3_hasToWait_54 (by decide) ?_
        have ho9 : o < 4 := (nI_ltI (by omega) (by decide)).mp c30
        exact ih (4 - (o + 1)) (by omega) (o + 1) rfl (by omega) (fun j hj => by
          rcases Nat.lt_or_ge j o with q | q
          · exact hno j q
          · have hjo : j = o := by omega
            subst hjo
            exact fun q => q.1 c36)
      · skip
        refine wp_aload_n (i := 0) dX3_hasToWait_39 rfl rfl ?_
        refine wp_iload dX3_hasToWait_40 rfl ?_
        refine wp_iload_n (i := 2) dX3_hasToWait_42 rfl rfl ?_
        have ho9 : o < 4 := (nI_ltI (by omega) (by decide)).mp c30
        refine wp_callV (N := mX3_isLeased) dX3_hasToWait_43 l_X3_28 v_X3_isLeased rfl (hR.oo (vs4 hn hf (k := 0) (by decide)) (by decide)) rfl (by decide) (s_isLeased hR hn hf ho9 x) (fun v hp1 hq => ?_)
        obtain ⟨rfl, rfl⟩ := hq
        refine wp_if_eq (tgt := 51) dX3_hasToWait_46 (by decide) (fun c46 => ?_) (fun c46 => ?_)
        · skip
          refine wp_iinc (v := nI (o + 1)) dX3_hasToWait_51 rfl (nI_1 _) ?_
          refine wp_goto (tgt := 27) dX3_hasToWait_54 (by decide) ?_
          have c46 := bI_eq.mp c46
          exact ih (4 - (o + 1)) (by omega) (o + 1) rfl (by omega) (fun j hj => by
            rcases Nat.lt_or_ge j o with q | q
            · exact hno j q
            · have hjo : j = o := by omega
              subst hjo
              exact fun q => c46 q.2)
        · skip
          refine wp_iconst (v := 1) dX3_hasToWait_49 rfl ?_
          refine wp_ret (v := some (.int _)) dX3_hasToWait_50 rfl ?_
          have c46 := bI_ne.mp c46
          exact ⟨Or.inr rfl, rfl, Or.inl ⟨⟨h1, o, ho9, c36, c46⟩, rfl⟩⟩
/-- whether the request has to wait -/
theorem s_hasToWait (hR : Rep hp M) (hn : n < 2) (hf : f < 12) {r : Nat} (hr : r < (gT M 1 n f).length) (x : Int32) : WM L xs (d + 2) mX3_hasToWait [.ref (xi 4 n f 0), .int (nI r), .int x] hp (fun v hp' => hp' = hp ∧ ((hWt M n f r x ∧ v = some (.int 1)) ∨ (¬ hWt M n f r x ∧ v = some (.int 0)))) := by
  refine WM.of [some (.ref _), some (.int (nI r)), some (.int x), none, none] (by decide) rfl (Nat.le_of_ble_eq_true rfl) ?_
  refine wp_aload_n (i := 0) dX3_hasToWait_0 rfl rfl ?_
  refine wr_sheR (j := xt 1 n f) dX3_hasToWait_1 hR f_X3_20 hn hf (Or.inr ⟨rfl, rfl⟩) ?_
  refine wp_iload_n (i := 1) dX3_hasToWait_4 rfl rfl ?_
  refine wp_iconst (v := 1) dX3_hasToWait_5 rfl ?_
  refine wp_callV (N := mX4_get) dX3_hasToWait_6 l_X3_24 v_X4_get rfl (hR.oT (vt1 hn hf)) rfl (by decide) (s_get hR (vt1 hn hf) hr (c := 1) (by decide)) (fun v hp1 hq => ?_)
  obtain ⟨rfl, rfl⟩ := hq
  refine wp_if_ne (tgt := 14) dX3_hasToWait_9 (by decide) (fun c9 => ?_) (fun c9 => ?_)
  · skip
    refine wp_aload_n (i := 0) dX3_hasToWait_14 rfl rfl ?_
    refine wr_sheR (j := xt 1 n f) dX3_hasToWait_15 hR f_X3_20 hn hf (Or.inr ⟨rfl, rfl⟩) ?_
    refine wp_iload_n (i := 1) dX3_hasToWait_18 rfl rfl ?_
    refine wp_iconst (v := 0) dX3_hasToWait_19 rfl ?_
    refine wp_callV (N := mX4_get) dX3_hasToWait_20 l_X3_24 v_X4_get rfl (hR.oT (vt1 hn hf)) rfl (by decide) (s_get hR (vt1 hn hf) hr (c := 0) (by decide)) (fun v hp1 hq => ?_)
    obtain ⟨rfl, rfl⟩ := hq
    refine wp_istore_n (i := 3) dX3_hasToWait_23 rfl (Nat.le_of_ble_eq_true rfl) ?_
    refine wp_iconst (v := 0) dX3_hasToWait_24 rfl ?_
    refine wp_istore dX3_hasToWait_25 (Nat.le_of_ble_eq_true rfl) ?_
    exact w_wait_27 hR hn hf x c9 4 0 rfl (by decide) (fun j hj => absurd hj (Nat.not_lt_zero j))
  · skip
    refine wp_iconst (v := 0) dX3_hasToWait_12 rfl ?_
    refine wp_ret (v := some (.int _)) dX3_hasToWait_13 rfl ?_
    refine ⟨Or.inl rfl, rfl, Or.inr ⟨fun q => q.1 ?_, rfl⟩⟩
    exact c9
/-- one more request -/
theorem s_addRequest (hR : Rep hp M) (hn : n < 2) (hf : f < 12) (hl : (gT M 1 n f).length < 65536) (x0 x1 x2 x3 : Int32) : WM L xs (d + 2) mX3_addRequest [.ref (xi 4 n f 0), .int x0, .int x1, .int x2, .int x3] hp (fun v hp' => v = some (.int (nI (gT M 1 n f).length)) ∧ ∃ q : Row, q 0 = x0 ∧ q 1 = x1 ∧ q 2 = x2 ∧ q 3 = x3 ∧ Rep hp' (sW M (aZ M 1 n f) (aT M 1 n f) 1 n f (gT M 1 n f ++ [q]) (aP M 1 n f))) := by
  refine WM.of [some (.ref _), some (.int x0), some (.int x1), some (.int x2), some (.int x3), none] (by decide) rfl (Nat.le_of_ble_eq_true rfl) ?_
  refine wp_aload_n (i := 0) dX3_addRequest_0 rfl rfl ?_
  refine wr_sheR (j := xt 1 n f) dX3_addRequest_1 hR f_X3_20 hn hf (Or.inr ⟨rfl, rfl⟩) ?_
  refine wp_callV (N := mX4_addRow) (as := []) dX3_addRequest_4 l_X3_32 v_X4_addRow rfl (hR.oT (vt1 hn hf)) rfl (by decide) (s_addRow hR (vt1 hn hf) hl) (fun v hp1 hq => ?_)
  obtain ⟨rfl, q0, hR0⟩ := hq
  refine wp_istore dX3_addRequest_7 (Nat.le_of_ble_eq_true rfl) ?_
  refine wp_aload_n (i := 0) dX3_addRequest_9 rfl rfl ?_
  refine wr_sheR (j := xt 1 n f) dX3_addRequest_10 hR0 f_X3_20 hn hf (Or.inr ⟨rfl, rfl⟩) ?_
  refine wp_iload dX3_addRequest_13 rfl ?_
  refine wp_iconst (v := 0) dX3_addRequest_15 rfl ?_
  refine wp_iload_n (i := 1) dX3_addRequest_16 rfl rfl ?_
  refine wp_callV (N := mX4_put) (as := [.int (nI (gT M 1 n f).length), .int (nI 0), .int x0]) dX3_addRequest_17 l_X3_36 v_X4_put rfl (hR0.oT (vt1 hn hf)) rfl (by decide) (s_putLast hR0 (vt1 hn hf) (c := 0) (by decide) x0) (fun v hp1 hq => ?_)
  obtain ⟨rfl, hR1⟩ := hq
  refine wp_aload_n (i := 0) dX3_addRequest_20 rfl rfl ?_
  refine wr_sheR (j := xt 1 n f) dX3_addRequest_21 hR1 f_X3_20 hn hf (Or.inr ⟨rfl, rfl⟩) ?_
  refine wp_iload dX3_addRequest_24 rfl ?_
  refine wp_iconst (v := 1) dX3_addRequest_26 rfl ?_
  refine wp_iload_n (i := 2) dX3_addRequest_27 rfl rfl ?_
  refine wp_callV (N := mX4_put) (as := [.int (nI (gT M 1 n f).length), .int (nI 1), .int x1]) dX3_addRequest_28 l_X3_36 v_X4_put rfl (hR1.oT (vt1 hn hf)) rfl (by decide) (s_putLast hR1 (vt1 hn hf) (c := 1) (by decide) x1) (fun v hp1 hq => ?_)
  obtain ⟨rfl, hR2⟩ := hq
  refine wp_aload_n (i := 0) dX3_addRequest_31 rfl rfl ?_
  refine wr_sheR (j := xt 1 n f) dX3_addRequest_32 hR2 f_X3_20 hn hf (Or.inr ⟨rfl, rfl⟩) ?_
  refine wp_iload dX3_addRequest_35 rfl ?_
  refine wp_iconst (v := 2) dX3_addRequest_37 rfl ?_
  refine wp_iload_n (i := 3) dX3_addRequest_38 rfl rfl ?_
  refine wp_callV (N := mX4_put) (as := [.int (nI (gT M 1 n f).length), .int (nI 2), .int x2]) dX3_addRequest_39 l_X3_36 v_X4_put rfl (hR2.oT (vt1 hn hf)) rfl (by decide) (s_putLast hR2 (vt1 hn hf) (c := 2) (by decide) x2) (fun v hp1 hq => ?_)
  obtain ⟨rfl, hR3⟩ := hq
  refine wp_aload_n (i := 0) dX3_addRequest_42 rfl rfl ?_
  refine wr_sheR (j := xt 1 n f) dX3_addRequest_43 hR3 f_X3_20 hn hf (Or.inr ⟨rfl, rfl⟩) ?_
  refine wp_iload dX3_addRequest_46 rfl ?_
  refine wp_iconst (v := 3) dX3_addRequest_48 rfl ?_
  refine wp_iload dX3_addRequest_49 rfl ?_
  refine wp_callV (N := mX4_put) (as := [.int (nI (gT M 1 n f).length), .int (nI 3), .int x3]) dX3_addRequest_51 l_X3_36 v_X4_put rfl (hR3.oT (vt1 hn hf)) rfl (by decide) (s_putLast hR3 (vt1 hn hf) (c := 3) (by decide) x3) (fun v hp1 hq => ?_)
  obtain ⟨rfl, hR4⟩ := hq
  refine wp_iload dX3_addRequest_54 rfl ?_
  refine wp_ret (v := some (.int _)) dX3_addRequest_56 rfl ?_
  exact ⟨trivial, rfl, _, rfl, rfl, rfl, rfl, hR4⟩
/-- the set of those that have a lease -/
def lsS (M : MS) (n f : Nat) (x : Int32) : Nat → Int32
  | 0 => 0
  | k + 1 => if x < gV M 5 n f 0 k then lsS M n f x k ||| (1 <<< (nI k &&& 31)) else lsS M n f x k
theorem w_lset_4 (hR : Rep hp M) (hn : n < 2) (hf : f < 12) (x : Int32) : ∀ (m o : Nat), 4 - o = m → o ≤ 4 → WP L xs (d + 1) mX3_leasedSet 4 [some (.ref (xi 4 n f 0)), some (.int x), some (.int (lsS M n f x o)), some (.int (nI o))] [] hp (fun v hp' => retOk mX3_leasedSet.2.2.2 v ∧ hp' = hp ∧ v = some (.int (lsS M n f x 4))) := by
  intro m
  induction m using Nat.strongRecOn with
  | ind m ih =>
    intro o hm ho0
    subst hm
    refine wp_iload_n (i := 3) dX3_leasedSet_4 rfl rfl ?_
    refine wp_iconst (v := 4) dX3_leasedSet_5 rfl ?_
    refine wp_icmp_ge (tgt := 30) dX3_leasedSet_6 (by decide) (fun c6 => ?_) (fun c6 => ?_)
    · skip
      have ho4 : o = 4 := by
        rcases Nat.lt_or_ge o 4 with q | q
        · exact absurd (nI_lt q (by decide)) c6
        · omega
      subst ho4
      refine wp_iload_n (i := 2) dX3_leasedSet_30 rfl rfl ?_
      refine wp_ret (v := some (.int _)) dX3_leasedSet_31 rfl ?_
      exact ⟨trivial, rfl, rfl⟩
    · skip
      refine wp_aload_n (i := 0) dX3_leasedSet_9 rfl rfl ?_
      refine wp_iload_n (i := 3) dX3_leasedSet_10 rfl rfl ?_
      refine wp_iload_n (i := 1) dX3_leasedSet_11 rfl rfl ?_
      have ho9 : o < 4 := (nI_ltI (by omega) (by decide)).mp c6
      refine wp_callV (N := mX3_isLeased) dX3_leasedSet_12 l_X3_28 v_X3_isLeased rfl (hR.oo (vs4 hn hf (k := 0) (by decide)) (by decide)) rfl (by decide) (s_isLeased hR hn hf ho9 x) (fun v hp1 hq => ?_)
      obtain ⟨rfl, rfl⟩ := hq
      refine wp_if_eq (tgt := 24) dX3_leasedSet_15 (by decide) (fun c15 => ?_) (fun c15 => ?_)
      · skip
        refine wp_iinc (v := nI (o + 1)) dX3_leasedSet_24 rfl (nI_1 _) ?_
        refine wp_goto (tgt := 4) dX3_leasedSet_27 (by decide) ?_
        have e9 : lsS M n f x (o + 1) = lsS M n f x o := if_neg (bI_eq.mp c15)
        have h9 := ih (4 - (o + 1)) (by omega) (o + 1) rfl (by omega)
        rw [e9] at h9
        exact h9
      · skip
        refine wp_iload_n (i := 2) dX3_leasedSet_18 rfl rfl ?_
        refine wp_iconst (v := 1) dX3_leasedSet_19 rfl ?_
        refine wp_iload_n (i := 3) dX3_leasedSet_20 rfl rfl ?_
        refine wp_ishl dX3_leasedSet_21 ?_
        refine wp_ior dX3_leasedSet_22 ?_
        refine wp_istore_n (i := 2) dX3_leasedSet_23 rfl (Nat.le_of_ble_eq_true rfl) ?_
        refine wp_iinc (v := nI (o + 1)) dX3_leasedSet_24 rfl (nI_1 _) ?_
        refine wp_goto (tgt := 4) dX3_leasedSet_27 (by decide) ?_
        have e9 : lsS M n f x (o + 1) = lsS M n f x o ||| (1 <<< (nI o &&& 31)) := if_pos (bI_ne.mp c15)
        have h9 := ih (4 - (o + 1)) (by omega) (o + 1) rfl (by omega)
        rw [e9] at h9
        exact h9
/-- the set of those that have a lease, asked -/
theorem s_leasedSet (hR : Rep hp M) (hn : n < 2) (hf : f < 12) (x : Int32) : WM L xs (d + 1) mX3_leasedSet [.ref (xi 4 n f 0), .int x] hp (fun v hp' => hp' = hp ∧ v = some (.int (lsS M n f x 4))) := by
  refine WM.of [some (.ref _), some (.int x), none, none] (by decide) rfl (Nat.le_of_ble_eq_true rfl) ?_
  refine wp_iconst (v := 0) dX3_leasedSet_0 rfl ?_
  refine wp_istore_n (i := 2) dX3_leasedSet_1 rfl (Nat.le_of_ble_eq_true rfl) ?_
  refine wp_iconst (v := 0) dX3_leasedSet_2 rfl ?_
  refine wp_istore_n (i := 3) dX3_leasedSet_3 rfl (Nat.le_of_ble_eq_true rfl) ?_
  exact w_lset_4 hR hn hf x 4 0 rfl (by decide)
/-- what a shelf tells -/
def shTell (M : MS) (n f k : Nat) (x : Int32) : Int32 := match k with
  | 0 => gV M 4 n f 0 0
  | 1 => gV M 4 n f 0 1
  | 2 => nI (gT M 1 n f).length
  | _ => lsS M n f x 4
/-- asked -/
theorem s_shTell (hR : Rep hp M) (hn : n < 2) (hf : f < 12) (x : Int32) {k : Nat} (hk : k < 4) : WM L xs (d + 2) mX3_tell [.ref (xi 4 n f 0), .int (nI k), .int x] hp (fun v hp' => hp' = hp ∧ v = some (.int (shTell M n f k x))) := by
  refine WM.of [some (.ref _), some (.int (nI k)), some (.int x)] (by decide) rfl (Nat.le_of_ble_eq_true rfl) ?_
  rcases (show k = 0 ∨ k = 1 ∨ k = 2 ∨ k = 3 by omega) with rfl | rfl | rfl | rfl
  · skip
    refine wp_iload_n (i := 1) dX3_tell_0 rfl rfl ?_
    refine wp_tabIn dX3_tell_1 (by decide) (by decide) (off := 27) (tgt := 28) (by decide) (by decide) ?_
    refine wp_aload_n (i := 0) dX3_tell_28 rfl rfl ?_
    refine wr_get (g := 4) (n := n) (a := f) (b := 0) (k := 0) dX3_tell_29 hR f_X3_40 (vs4 hn hf (by decide)) (by decide) (by decide) ?_
    refine wp_ret (v := some (.int _)) dX3_tell_32 rfl ?_
    exact ⟨trivial, rfl, rfl⟩
  · skip
    refine wp_iload_n (i := 1) dX3_tell_0 rfl rfl ?_
    refine wp_tabIn dX3_tell_1 (by decide) (by decide) (off := 32) (tgt := 33) (by decide) (by decide) ?_
    refine wp_aload_n (i := 0) dX3_tell_33 rfl rfl ?_
    refine wr_get (g := 4) (n := n) (a := f) (b := 0) (k := 1) dX3_tell_34 hR f_X3_44 (vs4 hn hf (by decide)) (by decide) (by decide) ?_
    refine wp_ret (v := some (.int _)) dX3_tell_37 rfl ?_
    exact ⟨trivial, rfl, rfl⟩
  · skip
    refine wp_iload_n (i := 1) dX3_tell_0 rfl rfl ?_
    refine wp_tabIn dX3_tell_1 (by decide) (by decide) (off := 37) (tgt := 38) (by decide) (by decide) ?_
    refine wp_aload_n (i := 0) dX3_tell_38 rfl rfl ?_
    refine wr_sheR (j := xt 1 n f) dX3_tell_39 hR f_X3_20 hn hf (Or.inr ⟨rfl, rfl⟩) ?_
    refine wr_rows dX3_tell_42 hR f_X3_47 (vt1 hn hf) ?_
    refine wp_ret (v := some (.int _)) dX3_tell_45 rfl ?_
    exact ⟨trivial, rfl, rfl⟩
  · skip
    refine wp_iload_n (i := 1) dX3_tell_0 rfl rfl ?_
    refine wp_tabOut dX3_tell_1 (tgt := 46) (by decide) (by decide) ?_
    refine wp_aload_n (i := 0) dX3_tell_46 rfl rfl ?_
    refine wp_iload_n (i := 2) dX3_tell_47 rfl rfl ?_
    refine wp_callV (N := mX3_leasedSet) dX3_tell_48 l_X3_50 v_X3_leasedSet rfl (hR.oo (vs4 hn hf (k := 0) (by decide)) (by decide)) rfl (by decide) (s_leasedSet hR hn hf x) (fun v hp1 hq => ?_)
    obtain ⟨rfl, rfl⟩ := hq
    refine wp_ret (v := some (.int _)) dX3_tell_51 rfl ?_
    exact ⟨trivial, rfl, rfl⟩
end SHELF
