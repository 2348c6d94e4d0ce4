/-! ===== Client, II: the order of use changes, files go ===== -/
/-- the order of use, and files that went -/
def cO (M : MS) (n c : Nat) (cnt : Int32) (F : Nat → Int32) (z : List Nat) : MS := wV M (fun g' n' a' b' k' => if g' = 1 ∧ n' = n ∧ a' = c ∧ b' = 0 ∧ k' = 2 then cnt else if g' = 3 ∧ n' = n ∧ a' = c ∧ b' = 0 then F k' else if g' = 2 ∧ n' = n ∧ a' = c ∧ b' ∈ z ∧ k' = 0 then 0 else if g' = 2 ∧ n' = n ∧ a' = c ∧ b' ∈ z ∧ k' = 3 then -1 else gV M g' n' a' b' k')
theorem cO_cnt (M : MS) (n c : Nat) (cnt : Int32) (F : Nat → Int32) (z : List Nat) : gV (cO M n c cnt F z) 1 n c 0 2 = cnt := if_pos ⟨rfl, rfl, rfl, rfl, rfl⟩
theorem cO_ord (M : MS) (n c : Nat) (cnt : Int32) (F : Nat → Int32) (z : List Nat) (k : Nat) : gV (cO M n c cnt F z) 3 n c 0 k = F k := by
  unfold cO
  rw [gV_wV, if_neg (by omega), if_pos ⟨rfl, rfl, rfl, rfl⟩]
theorem cO_he (M : MS) (n c : Nat) (cnt : Int32) (F : Nat → Int32) (z : List Nat) (f k : Nat) (h : f ∉ z ∨ (k ≠ 0 ∧ k ≠ 3)) : gV (cO M n c cnt F z) 2 n c f k = gV M 2 n c f k := by
  unfold cO
  rw [gV_wV, if_neg (by omega), if_neg (by omega), if_neg, if_neg]
  · rintro ⟨-, -, -, h1, h2⟩; rcases h with h | h; exact h h1; exact h.2 h2
  · rintro ⟨-, -, -, h1, h2⟩; rcases h with h | h; exact h h1; exact h.1 h2
theorem cO_cO (M : MS) (n c : Nat) (cnt cnt2 : Int32) (F F2 : Nat → Int32) (z z2 : List Nat) : cO (cO M n c cnt F z) n c cnt2 F2 z2 = cO M n c cnt2 F2 (z2 ++ z) := by
  unfold cO
  refine wV_eq (fun g9 n9 a9 b9 k9 => ?_) ⟨rfl, rfl, rfl⟩
  simp only [gV_wV, List.mem_append]
  repeat' split
  all_goals first | rfl | (exfalso; omega) | (exfalso; simp_all)
theorem cO_id (M : MS) (n c : Nat) : cO M n c (gV M 1 n c 0 2) (gV M 3 n c 0) [] = M := by
  refine (wV_eq (M := M) (M' := M) (fun g9 n9 a9 b9 k9 => ?_) ⟨rfl, rfl, rfl⟩).symm
  repeat' split
  · rename_i h; obtain ⟨rfl, rfl, rfl, rfl, rfl⟩ := h; rfl
  · rename_i h; obtain ⟨rfl, rfl, rfl, rfl⟩ := h; rfl
  · rename_i h; exact absurd h.2.2.2.1 List.not_mem_nil
  · rename_i h; exact absurd h.2.2.2.1 List.not_mem_nil
  · rfl
/-- a row lists these files -/
def Lst (F : Nat → Int32) (l : List Nat) : Prop := ∀ (k f : Nat), l[k]? = some f → F k = nI f
theorem Ord.of_cO {M : MS} {n c : Nat} {F : Nat → Int32} {z l : List Nat} (h1 : l.length ≤ 12) (h2 : ∀ f, f ∈ l → f < 12) (h3 : Lst F l) : Ord (cO M n c (nI l.length) F z) n c l :=
  ⟨cO_cnt _ _ _ _ _ _, h1, h2, fun k f h => by rw [cO_ord]; exact h3 k f h⟩
section CLIENT2
variable {L : Nat} {xs : Nat → Int32} {d : Nat} {hp : AH} {M : MS} {n c : Nat} {Q : Option Value → AH → Prop}

theorem cO_put {M : MS} {n c : Nat} {cnt : Int32} {F : Nat → Int32} {z : List Nat} {k : Nat} {v : Int32} : sV (cO M n c cnt F z) 3 n c 0 k v = cO M n c cnt (upd F k v) z := by
  unfold cO
  refine wV_eq (fun g9 n9 a9 b9 k9 => ?_) ⟨rfl, rfl, rfl⟩
  simp only [gV_sV, gV_wV, upd]
  repeat' split
  all_goals first | rfl | (exfalso; omega)
theorem w_use_38 (hn : n < 2) (hc : c < 4) {cnt : Int32} {f : Nat} {x2 : Int32} : ∀ (i : Nat) (F : Nat → Int32) (hp : AH), i < 12 → Rep hp (cO M n c cnt F []) →
    (∀ (hp' : AH) (F' : Nat → Int32), (∀ k, F' k = if 0 < k ∧ k ≤ i then F (k - 1) else F k) → Rep hp' (cO M n c cnt F' []) → WP L xs d mX0_use 62 [some (.ref (xi 1 n c 0)), some (.int (nI f)), some (.int x2), some (.int (nI 0))] [] hp' Q) →
    WP L xs d mX0_use 38 [some (.ref (xi 1 n c 0)), some (.int (nI f)), some (.int x2), some (.int (nI i))] [] hp Q := by
  intro i
  induction i with
  | zero =>
    intro F hp hi hR kk
    refine wp_iload_n (i := 3) dX0_use_38 rfl rfl ?_
    refine wp_if_le (tgt := 62) dX0_use_39 (by decide) (fun c39 => ?_) (fun c39 => absurd c39 (by decide))
    exact kk hp F (fun k => by rw [if_neg (by omega)]) hR
  | succ j ih =>
    intro F hp hi hR kk
    refine wp_iload_n (i := 3) dX0_use_38 rfl rfl ?_
    refine wp_if_le (tgt := 62) dX0_use_39 (by decide) (fun c39 => ?_) (fun c39 => ?_)
    · skip
      exact absurd (by rw [← nI_0]; exact nI_lt (Nat.succ_pos j) (by omega)) c39
    · skip
      refine wp_aload_n (i := 0) dX0_use_42 rfl rfl ?_
      refine wr_cliR (j := xi 3 n c 0) dX0_use_43 hR f_X0_17 hn hc (Or.inr (Or.inl ⟨rfl, rfl⟩)) ?_
      refine wp_iload_n (i := 3) dX0_use_46 rfl rfl ?_
      refine wp_aload_n (i := 0) dX0_use_47 rfl rfl ?_
      refine wr_cliR (j := xi 3 n c 0) dX0_use_48 hR f_X0_17 hn hc (Or.inr (Or.inl ⟨rfl, rfl⟩)) ?_
      refine wp_iload_n (i := 3) dX0_use_51 rfl rfl ?_
      refine wp_iconst (v := 1) dX0_use_52 rfl ?_
      refine wp_isub dX0_use_53 ?_
      refine wr_ordG (k := j) dX0_use_54 hR (nI_pred j) (vs3 hn hc (by omega)) ?_
      refine wr_ordP (k := (j + 1)) dX0_use_55 hR rfl (vs3 hn hc hi) (fun hp2 hR1 => ?_)
      refine wp_iinc (v := nI j) dX0_use_56 rfl (pk_m1 _) ?_
      refine wp_goto (tgt := 38) dX0_use_59 (by decide) ?_
      rw [cO_ord, cO_put] at hR1
      exact ih _ _ (by omega) hR1 (fun hp' F' hF hR' => kk hp' F' (fun k => by
        rw [hF k]
        simp only [upd]
        repeat' split
        all_goals first | rfl | (exfalso; omega) | (congr 1; omega) | skip) hR')
def useL (l : List Nat) (f : Nat) : List Nat := f :: l.erase f
theorem erase_get {l : List Nat} {f : Nat} (hm : f ∈ l) (k : Nat) : (l.erase f)[k]? = if k < l.idxOf f then l[k]? else l[k + 1]? := by
  rw [List.erase_eq_eraseIdx_of_idxOf (a := f) (l := l) (i := l.idxOf f) rfl, List.getElem?_eraseIdx]
theorem use_Lst {F F' : Nat → Int32} {l : List Nat} {f p : Nat} (h : Lst F l) (hp : p = if f ∈ l then l.idxOf f else l.length) (hF : ∀ k, F' k = if 0 < k ∧ k ≤ p then F (k - 1) else F k) : Lst (upd F' 0 (nI f)) (useL l f) := by
  intro k q hq
  unfold useL at hq
  cases k with
  | zero =>
    simp at hq
    subst hq
    simp [upd]
  | succ k =>
    rw [List.getElem?_cons_succ] at hq
    simp only [upd, Nat.succ_ne_zero, if_false]
    rw [hF]
    by_cases hm : f ∈ l
    · rw [if_pos hm] at hp
      rw [erase_get hm, ← hp] at hq
      by_cases hk : k < p
      · rw [if_pos hk] at hq
        rw [if_pos ⟨Nat.succ_pos _, hk⟩, Nat.add_sub_cancel]
        exact h _ _ hq
      · rw [if_neg hk] at hq
        rw [if_neg (by omega)]
        exact h _ _ hq
    · rw [if_neg hm] at hp
      rw [List.erase_of_not_mem hm] at hq
      have hk := (List.getElem?_eq_some_iff.mp hq).1
      rw [if_pos ⟨Nat.succ_pos _, by omega⟩, Nat.add_sub_cancel]
      exact h _ _ hq
theorem useL_len {l : List Nat} {f : Nat} : (useL l f).length = if f ∈ l then l.length else l.length + 1 := by
  unfold useL
  by_cases hm : f ∈ l
  · have h1 := List.length_pos_of_mem hm
    rw [if_pos hm, List.length_cons, List.length_erase_of_mem hm]
    omega
  · rw [if_neg hm, List.length_cons, List.erase_of_not_mem hm]
theorem Ord.id {M : MS} {n c : Nat} {l : List Nat} (h : Ord M n c l) {hp : AH} (hR : Rep hp M) : Rep hp (cO M n c (nI l.length) (gV M 3 n c 0) []) := by
  rw [← h.1, cO_id]
  exact hR
/-- a file is used -/
theorem s_use (hR : Rep hp M) (hn : n < 2) (hc : c < 4) {l : List Nat} (hO : Ord M n c l) {f : Nat} (hf : f < 12) (hroom : f ∈ l ∨ l.length < 12) : WM L xs (d + 1) mX0_use [.ref (xi 1 n c 0), .int (nI f)] hp (fun v hp' => v = none ∧ ∃ F, Rep hp' (cO M n c (nI (useL l f).length) F []) ∧ Lst F (useL l f)) := by
  obtain ⟨o1, o2, o3, o4⟩ := _root_.id hO
  have hR0 := hO.id hR
  refine WM.of [some (.ref _), some (.int (nI f)), none, none] (by decide) rfl (Nat.le_of_ble_eq_true rfl) ?_
  refine wp_aload_n (i := 0) dX0_use_0 rfl rfl ?_
  refine wp_iload_n (i := 1) dX0_use_1 rfl rfl ?_
  refine wp_callV (N := mX0_placeOf) dX0_use_2 l_X0_48 v_X0_placeOf rfl (hR.oo (vs1 hn hc (k := 2) (by decide)) (by decide)) rfl (by decide) (s_placeOf hR hn hc hO hf) (fun v hp1 hq => ?_)
  obtain ⟨rfl, rfl⟩ := hq
  by_cases hm : f ∈ l
  · have hidx := List.idxOf_lt_length_iff.mpr hm
    rw [pOf, if_pos hm]
    have h8 : ¬ nI (l.idxOf f) = -1 := fun q => by
      have h9 := congrArg Int32.toInt q
      rw [nI_toInt (by omega), show (-1 : Int32).toInt = -1 from by decide] at h9
      omega
    refine wp_istore_n (i := 2) dX0_use_5 rfl (Nat.le_of_ble_eq_true rfl) ?_
    refine wp_iload_n (i := 2) dX0_use_6 rfl rfl ?_
    refine wp_iconst (v := (-1)) dX0_use_7 rfl ?_
    refine wp_icmp_ne (tgt := 36) dX0_use_8 (by decide) (fun c8 => ?_) (fun c8 => ?_)
    · skip
      refine wp_iload_n (i := 2) dX0_use_36 rfl rfl ?_
      refine wp_istore_n (i := 3) dX0_use_37 rfl (Nat.le_of_ble_eq_true rfl) ?_
      refine w_use_38 hn hc (l.idxOf f) _ _ (by omega) hR0 (fun hp' F' hF hR' => ?_)
      refine wp_aload_n (i := 0) dX0_use_62 rfl rfl ?_
      refine wr_cliR (j := xi 3 n c 0) dX0_use_63 hR' f_X0_17 hn hc (Or.inr (Or.inl ⟨rfl, rfl⟩)) ?_
      refine wp_iconst (v := 0) dX0_use_66 rfl ?_
      refine wp_iload_n (i := 1) dX0_use_67 rfl rfl ?_
      refine wr_ordP (k := 0) dX0_use_68 hR' rfl (vs3 hn hc (by decide)) (fun hp2 hR2 => ?_)
      rw [cO_put] at hR2
      refine wp_ret (v := none) dX0_use_69 rfl ?_
      refine ⟨trivial, rfl, _, ?_, use_Lst (p := l.idxOf f) (fun k q h => o4 k q h) (by first | rw [if_pos hm] | rw [if_neg hm]) hF⟩
      first | (rw [useL_len, if_pos hm]; exact hR2) | (rw [useL_len, if_neg hm]; exact hR2)
    · skip
      exact absurd c8 h8
  · rw [pOf, if_neg hm]
    have hl12 := hroom.resolve_left hm
    refine wp_istore_n (i := 2) dX0_use_5 rfl (Nat.le_of_ble_eq_true rfl) ?_
    refine wp_iload_n (i := 2) dX0_use_6 rfl rfl ?_
    refine wp_iconst (v := (-1)) dX0_use_7 rfl ?_
    refine wp_icmp_ne (tgt := 36) dX0_use_8 (by decide) (fun c8 => ?_) (fun c8 => ?_)
    · skip
      exact absurd rfl c8
    · skip
      refine wp_aload_n (i := 0) dX0_use_11 rfl rfl ?_
      refine wr_get (g := 1) (n := n) (a := c) (b := 0) (k := 2) dX0_use_12 hR f_X0_52 (vs1 hn hc (by decide)) (by decide) (by decide) ?_
      refine wp_bipush (v := nI 12) dX0_use_15 (by decide) ?_
      refine wp_icmp_lt (tgt := 21) dX0_use_17 (by decide) (fun c17 => ?_) (fun c17 => ?_)
      · skip
        refine wp_aload_n (i := 0) dX0_use_21 rfl rfl ?_
        refine wr_get (g := 1) (n := n) (a := c) (b := 0) (k := 2) dX0_use_22 hR f_X0_52 (vs1 hn hc (by decide)) (by decide) (by decide) ?_
        rw [o1]
        refine wp_istore_n (i := 2) dX0_use_25 rfl (Nat.le_of_ble_eq_true rfl) ?_
        refine wp_aload_n (i := 0) dX0_use_26 rfl rfl ?_
        refine wp_dup dX0_use_27 rfl ?_
        refine wr_get (g := 1) (n := n) (a := c) (b := 0) (k := 2) dX0_use_28 hR f_X0_52 (vs1 hn hc (by decide)) (by decide) (by decide) ?_
        refine wp_iconst (v := 1) dX0_use_31 rfl ?_
        refine wp_iadd dX0_use_32 ?_
        refine wr_put (g := 1) (n := n) (a := c) (b := 0) (k := 2) dX0_use_33 hR (p_X0_52 rfl) (vs1 hn hc (by decide)) (by decide) (by decide) (okI rfl) (fun hp2 hR1 => ?_)
        refine wp_iload_n (i := 2) dX0_use_36 rfl rfl ?_
        refine wp_istore_n (i := 3) dX0_use_37 rfl (Nat.le_of_ble_eq_true rfl) ?_
        have e9 : sV M 1 n c 0 2 (gV M 1 n c 0 2 + 1) = cO M n c (nI (l.length + 1)) (gV M 3 n c 0) [] := by
          rw [o1, nI_1]
          refine wV_eq (fun g9 n9 a9 b9 k9 => ?_) ⟨rfl, rfl, rfl⟩
          simp only [gV_sV]
          repeat' split
          all_goals first | rfl | (exfalso; omega) | skip
          all_goals first | (rename_i h; obtain ⟨rfl, rfl, rfl, rfl⟩ := h; rfl) | (rename_i h; exact absurd h.2.2.2.1 List.not_mem_nil)
        rw [e9] at hR1
        refine w_use_38 hn hc (l.length) _ _ (by omega) hR1 (fun hp' F' hF hR' => ?_)
        refine wp_aload_n (i := 0) dX0_use_62 rfl rfl ?_
        refine wr_cliR (j := xi 3 n c 0) dX0_use_63 hR' f_X0_17 hn hc (Or.inr (Or.inl ⟨rfl, rfl⟩)) ?_
        refine wp_iconst (v := 0) dX0_use_66 rfl ?_
        refine wp_iload_n (i := 1) dX0_use_67 rfl rfl ?_
        refine wr_ordP (k := 0) dX0_use_68 hR' rfl (vs3 hn hc (by decide)) (fun hp2 hR2 => ?_)
        rw [cO_put] at hR2
        refine wp_ret (v := none) dX0_use_69 rfl ?_
        refine ⟨trivial, rfl, _, ?_, use_Lst (p := l.length) (fun k q h => o4 k q h) (by first | rw [if_pos hm] | rw [if_neg hm]) hF⟩
        first | (rw [useL_len, if_pos hm]; exact hR2) | (rw [useL_len, if_neg hm]; exact hR2)
      · skip
        rw [o1] at c17
        exact absurd (nI_lt (hroom.resolve_left hm) (by decide)) c17
end CLIENT2
