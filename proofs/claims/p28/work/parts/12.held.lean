/-! ===== Held: its methods, over the state in numbers ===== -/
abbrev tru (M : MS) (n c f : Nat) (x b : Int32) : Prop := ¬ gV M 2 n c f 0 = 0 ∧ (¬ gV M 2 n c f 4 = 0 ∨ x < gV M 2 n c f 3 ∨ ¬ b = 0)
section HELD
variable {L : Nat} {xs : Nat → Int32} {d : Nat} {hp : AH} {M : MS} {n c f : Nat}
/-- whether it can be trusted -/
theorem s_isTrusted (hR : Rep hp M) (hn : n < 2) (hc : c < 4) (hf : f < 12) (x b : Int32) : WM L xs d mX1_isTrusted [.ref (xi 2 n c f), .int x, .int b] hp (fun v hp' => hp' = hp ∧ v = some (.int (bI (tru M n c f x b)))) := by
  refine WM.of [some (.ref _), some (.int x), some (.int b)] (by decide) rfl (Nat.le_of_ble_eq_true rfl) ?_
  refine wp_aload_n (i := 0) dX1_isTrusted_0 rfl rfl ?_
  refine wr_get (g := 2) (n := n) (a := c) (b := f) (k := 0) dX1_isTrusted_1 hR f_X1_15 (vs2 hn hc hf (by decide)) (by decide) (by decide) ?_
  refine wp_if_eq (tgt := 30) dX1_isTrusted_4 (by decide) (fun c4 => ?_) (fun c4 => ?_)
  · skip
    refine wp_iconst (v := 0) dX1_isTrusted_30 rfl ?_
    refine wp_ret (v := some (.int _)) dX1_isTrusted_31 rfl ?_
    exact ⟨by first | exact Or.inr rfl | exact Or.inl rfl, rfl, by congr 2; simp only [bI, tru]; simp [*]⟩
  · skip
    refine wp_aload_n (i := 0) dX1_isTrusted_7 rfl rfl ?_
    refine wr_get (g := 2) (n := n) (a := c) (b := f) (k := 4) dX1_isTrusted_8 hR f_X1_19 (vs2 hn hc hf (by decide)) (by decide) (by decide) ?_
    refine wp_if_ne (tgt := 26) dX1_isTrusted_11 (by decide) (fun c11 => ?_) (fun c11 => ?_)
    · skip
      refine wp_iconst (v := 1) dX1_isTrusted_26 rfl ?_
      refine wp_goto (tgt := 31) dX1_isTrusted_27 (by decide) ?_
      refine wp_ret (v := some (.int _)) dX1_isTrusted_31 rfl ?_
      exact ⟨by first | exact Or.inr rfl | exact Or.inl rfl, rfl, by congr 2; simp only [bI, tru]; simp [*]⟩
    · skip
      refine wp_iload_n (i := 1) dX1_isTrusted_14 rfl rfl ?_
      refine wp_aload_n (i := 0) dX1_isTrusted_15 rfl rfl ?_
      refine wr_get (g := 2) (n := n) (a := c) (b := f) (k := 3) dX1_isTrusted_16 hR f_X1_9 (vs2 hn hc hf (by decide)) (by decide) (by decide) ?_
      refine wp_icmp_lt (tgt := 26) dX1_isTrusted_19 (by decide) (fun c19 => ?_) (fun c19 => ?_)
      · skip
        refine wp_iconst (v := 1) dX1_isTrusted_26 rfl ?_
        refine wp_goto (tgt := 31) dX1_isTrusted_27 (by decide) ?_
        refine wp_ret (v := some (.int _)) dX1_isTrusted_31 rfl ?_
        exact ⟨by first | exact Or.inr rfl | exact Or.inl rfl, rfl, by congr 2; simp only [bI, tru]; simp [*]⟩
      · skip
        refine wp_iload_n (i := 2) dX1_isTrusted_22 rfl rfl ?_
        refine wp_if_eq (tgt := 30) dX1_isTrusted_23 (by decide) (fun c23 => ?_) (fun c23 => ?_)
        · skip
          refine wp_iconst (v := 0) dX1_isTrusted_30 rfl ?_
          refine wp_ret (v := some (.int _)) dX1_isTrusted_31 rfl ?_
          exact ⟨by first | exact Or.inr rfl | exact Or.inl rfl, rfl, by congr 2; simp only [bI, tru]; simp [*]⟩
        · skip
          refine wp_iconst (v := 1) dX1_isTrusted_26 rfl ?_
          refine wp_goto (tgt := 31) dX1_isTrusted_27 (by decide) ?_
          refine wp_ret (v := some (.int _)) dX1_isTrusted_31 rfl ?_
          exact ⟨by first | exact Or.inr rfl | exact Or.inl rfl, rfl, by congr 2; simp only [bI, tru]; simp [*]⟩
def mPut (M : MS) (n c f : Nat) (x t : Int32) : MS := if gV M 2 n c f 4 = 0 then sV (sV (sV M 2 n c f 1 x) 2 n c f 4 1) 2 n c f 5 t else sV M 2 n c f 1 x
/-- written -/
theorem s_putContent (hR : Rep hp M) (hn : n < 2) (hc : c < 4) (hf : f < 12) (x t : Int32) : WM L xs d mX1_putContent [.ref (xi 2 n c f), .int x, .int t] hp (fun v hp' => v = none ∧ Rep hp' (mPut M n c f x t)) := by
  refine WM.of [some (.ref _), some (.int x), some (.int t)] (by decide) rfl (Nat.le_of_ble_eq_true rfl) ?_
  refine wp_aload_n (i := 0) dX1_putContent_0 rfl rfl ?_
  refine wp_iload_n (i := 1) dX1_putContent_1 rfl rfl ?_
  refine wr_put (g := 2) (n := n) (a := c) (b := f) (k := 1) dX1_putContent_2 hR (p_X1_22 rfl) (vs2 hn hc hf (by decide)) (by decide) (by decide) (okI rfl) (fun hp2 hR1 => ?_)
  refine wp_aload_n (i := 0) dX1_putContent_5 rfl rfl ?_
  refine wr_get (g := 2) (n := n) (a := c) (b := f) (k := 4) dX1_putContent_6 hR1 f_X1_19 (vs2 hn hc hf (by decide)) (by decide) (by decide) ?_
  refine wp_if_ne (tgt := 22) dX1_putContent_9 (by decide) (fun c9 => ?_) (fun c9 => ?_)
  · skip
    refine wp_ret (v := none) dX1_putContent_22 rfl ?_
    have c9 := c9
    simp only [gV_sV, true_and, and_true, and_self, reduceCtorEq, if_true, if_false, Nat.reduceEqDiff, and_false, false_and] at c9
    refine ⟨trivial, rfl, ?_⟩
    unfold mPut
    first | rw [if_pos (by assumption)]; exact hR1 | rw [if_neg (by assumption)]; exact hR1
  · skip
    refine wp_aload_n (i := 0) dX1_putContent_12 rfl rfl ?_
    refine wp_iconst (v := 1) dX1_putContent_13 rfl ?_
    refine wr_put (g := 2) (n := n) (a := c) (b := f) (k := 4) dX1_putContent_14 hR1 (p_X1_19 rfl) (vs2 hn hc hf (by decide)) (by decide) (by decide) (okB rfl (by decide)) (fun hp4 hR3 => ?_)
    refine wp_aload_n (i := 0) dX1_putContent_17 rfl rfl ?_
    refine wp_iload_n (i := 2) dX1_putContent_18 rfl rfl ?_
    refine wr_put (g := 2) (n := n) (a := c) (b := f) (k := 5) dX1_putContent_19 hR3 (p_X1_25 rfl) (vs2 hn hc hf (by decide)) (by decide) (by decide) (okI rfl) (fun hp6 hR5 => ?_)
    refine wp_ret (v := none) dX1_putContent_22 rfl ?_
    have c9 := c9
    simp only [gV_sV, true_and, and_true, and_self, reduceCtorEq, if_true, if_false, Nat.reduceEqDiff, and_false, false_and] at c9
    refine ⟨trivial, rfl, ?_⟩
    unfold mPut
    first | rw [if_pos (by assumption)]; exact hR5 | rw [if_neg (by assumption)]; exact hR5
def mGiven (M : MS) (n c f : Nat) (x v u : Int32) : MS := sV (sV (sV (sV (sV M 2 n c f 0 1) 2 n c f 1 x) 2 n c f 2 v) 2 n c f 3 u) 2 n c f 4 0
/-- given -/
theorem s_beGiven (hR : Rep hp M) (hn : n < 2) (hc : c < 4) (hf : f < 12) (x w u : Int32) : WM L xs d mX1_beGiven [.ref (xi 2 n c f), .int x, .int w, .int u] hp (fun v hp' => v = none ∧ Rep hp' (mGiven M n c f x w u)) := by
  refine WM.of [some (.ref _), some (.int x), some (.int w), some (.int u)] (by decide) rfl (Nat.le_of_ble_eq_true rfl) ?_
  refine wp_aload_n (i := 0) dX1_beGiven_0 rfl rfl ?_
  refine wp_iconst (v := 1) dX1_beGiven_1 rfl ?_
  refine wr_put (g := 2) (n := n) (a := c) (b := f) (k := 0) dX1_beGiven_2 hR (p_X1_15 rfl) (vs2 hn hc hf (by decide)) (by decide) (by decide) (okB rfl (by decide)) (fun hp2 hR1 => ?_)
  refine wp_aload_n (i := 0) dX1_beGiven_5 rfl rfl ?_
  refine wp_iload_n (i := 1) dX1_beGiven_6 rfl rfl ?_
  refine wr_put (g := 2) (n := n) (a := c) (b := f) (k := 1) dX1_beGiven_7 hR1 (p_X1_22 rfl) (vs2 hn hc hf (by decide)) (by decide) (by decide) (okI rfl) (fun hp4 hR3 => ?_)
  refine wp_aload_n (i := 0) dX1_beGiven_10 rfl rfl ?_
  refine wp_iload_n (i := 2) dX1_beGiven_11 rfl rfl ?_
  refine wr_put (g := 2) (n := n) (a := c) (b := f) (k := 2) dX1_beGiven_12 hR3 (p_X1_28 rfl) (vs2 hn hc hf (by decide)) (by decide) (by decide) (okI rfl) (fun hp6 hR5 => ?_)
  refine wp_aload_n (i := 0) dX1_beGiven_15 rfl rfl ?_
  refine wp_iload_n (i := 3) dX1_beGiven_16 rfl rfl ?_
  refine wr_put (g := 2) (n := n) (a := c) (b := f) (k := 3) dX1_beGiven_17 hR5 (p_X1_9 rfl) (vs2 hn hc hf (by decide)) (by decide) (by decide) (okI rfl) (fun hp8 hR7 => ?_)
  refine wp_aload_n (i := 0) dX1_beGiven_20 rfl rfl ?_
  refine wp_iconst (v := 0) dX1_beGiven_21 rfl ?_
  refine wr_put (g := 2) (n := n) (a := c) (b := f) (k := 4) dX1_beGiven_22 hR7 (p_X1_19 rfl) (vs2 hn hc hf (by decide)) (by decide) (by decide) (okB rfl (by decide)) (fun hp10 hR9 => ?_)
  refine wp_ret (v := none) dX1_beGiven_25 rfl ?_
  exact ⟨trivial, rfl, hR9⟩
def mStored (M : MS) (n c f : Nat) (x v u : Int32) : MS := if gV M 2 n c f 0 = 0 then sV M 2 n c f 7 0 else if gV M 2 n c f 1 = x then sV (sV (sV (sV M 2 n c f 7 0) 2 n c f 2 v) 2 n c f 3 u) 2 n c f 4 0 else sV (sV (sV M 2 n c f 7 0) 2 n c f 2 v) 2 n c f 3 u
/-- stored -/
theorem s_beStored (hR : Rep hp M) (hn : n < 2) (hc : c < 4) (hf : f < 12) (x w u : Int32) : WM L xs d mX1_beStored [.ref (xi 2 n c f), .int x, .int w, .int u] hp (fun v hp' => v = none ∧ Rep hp' (mStored M n c f x w u)) := by
  refine WM.of [some (.ref _), some (.int x), some (.int w), some (.int u)] (by decide) rfl (Nat.le_of_ble_eq_true rfl) ?_
  refine wp_aload_n (i := 0) dX1_beStored_0 rfl rfl ?_
  refine wp_iconst (v := 0) dX1_beStored_1 rfl ?_
  refine wr_put (g := 2) (n := n) (a := c) (b := f) (k := 7) dX1_beStored_2 hR (p_X1_31 rfl) (vs2 hn hc hf (by decide)) (by decide) (by decide) (okB rfl (by decide)) (fun hp2 hR1 => ?_)
  refine wp_aload_n (i := 0) dX1_beStored_5 rfl rfl ?_
  refine wr_get (g := 2) (n := n) (a := c) (b := f) (k := 0) dX1_beStored_6 hR1 f_X1_15 (vs2 hn hc hf (by decide)) (by decide) (by decide) ?_
  refine wp_if_ne (tgt := 13) dX1_beStored_9 (by decide) (fun c9 => ?_) (fun c9 => ?_)
  · skip
    refine wp_aload_n (i := 0) dX1_beStored_13 rfl rfl ?_
    refine wp_iload_n (i := 2) dX1_beStored_14 rfl rfl ?_
    refine wr_put (g := 2) (n := n) (a := c) (b := f) (k := 2) dX1_beStored_15 hR1 (p_X1_28 rfl) (vs2 hn hc hf (by decide)) (by decide) (by decide) (okI rfl) (fun hp4 hR3 => ?_)
    refine wp_aload_n (i := 0) dX1_beStored_18 rfl rfl ?_
    refine wp_iload_n (i := 3) dX1_beStored_19 rfl rfl ?_
    refine wr_put (g := 2) (n := n) (a := c) (b := f) (k := 3) dX1_beStored_20 hR3 (p_X1_9 rfl) (vs2 hn hc hf (by decide)) (by decide) (by decide) (okI rfl) (fun hp6 hR5 => ?_)
    refine wp_aload_n (i := 0) dX1_beStored_23 rfl rfl ?_
    refine wr_get (g := 2) (n := n) (a := c) (b := f) (k := 1) dX1_beStored_24 hR5 f_X1_22 (vs2 hn hc hf (by decide)) (by decide) (by decide) ?_
    refine wp_iload_n (i := 1) dX1_beStored_27 rfl rfl ?_
    refine wp_icmp_ne (tgt := 36) dX1_beStored_28 (by decide) (fun c28 => ?_) (fun c28 => ?_)
    · skip
      refine wp_ret (v := none) dX1_beStored_36 rfl ?_
      have c9 := c9
      simp only [gV_sV, true_and, and_true, and_self, reduceCtorEq, if_true, if_false, Nat.reduceEqDiff, and_false, false_and] at c9
      have c28 := c28
      simp only [gV_sV, true_and, and_true, and_self, reduceCtorEq, if_true, if_false, Nat.reduceEqDiff, and_false, false_and] at c28
      refine ⟨trivial, rfl, ?_⟩
      unfold mStored
      first | (rw [if_pos (by assumption)]; exact hR5) | (rw [if_neg (by assumption), if_pos (by assumption)]; exact hR5) | (rw [if_neg (by assumption), if_neg (by assumption)]; exact hR5)
    · skip
      refine wp_aload_n (i := 0) dX1_beStored_31 rfl rfl ?_
      refine wp_iconst (v := 0) dX1_beStored_32 rfl ?_
      refine wr_put (g := 2) (n := n) (a := c) (b := f) (k := 4) dX1_beStored_33 hR5 (p_X1_19 rfl) (vs2 hn hc hf (by decide)) (by decide) (by decide) (okB rfl (by decide)) (fun hp8 hR7 => ?_)
      refine wp_ret (v := none) dX1_beStored_36 rfl ?_
      have c9 := c9
      simp only [gV_sV, true_and, and_true, and_self, reduceCtorEq, if_true, if_false, Nat.reduceEqDiff, and_false, false_and] at c9
      have c28 := c28
      simp only [gV_sV, true_and, and_true, and_self, reduceCtorEq, if_true, if_false, Nat.reduceEqDiff, and_false, false_and] at c28
      refine ⟨trivial, rfl, ?_⟩
      unfold mStored
      first | (rw [if_pos (by assumption)]; exact hR7) | (rw [if_neg (by assumption), if_pos (by assumption)]; exact hR7) | (rw [if_neg (by assumption), if_neg (by assumption)]; exact hR7)
  · skip
    refine wp_ret (v := none) dX1_beStored_12 rfl ?_
    have c9 := c9
    simp only [gV_sV, true_and, and_true, and_self, reduceCtorEq, if_true, if_false, Nat.reduceEqDiff, and_false, false_and] at c9
    refine ⟨trivial, rfl, ?_⟩
    unfold mStored
    first | (rw [if_pos (by assumption)]; exact hR1) | (rw [if_neg (by assumption), if_pos (by assumption)]; exact hR1) | (rw [if_neg (by assumption), if_neg (by assumption)]; exact hR1)
def hTell (M : MS) (n c f : Nat) (k : Nat) (x b : Int32) : Int32 := match k with
  | 0 => if gV M 2 n c f 0 = 0 then -1 else gV M 2 n c f 1
  | 1 => if gV M 2 n c f 0 = 0 then -1 else gV M 2 n c f 2
  | 2 => if gV M 2 n c f 4 = 0 then 0 else 1
  | 3 => if gV M 2 n c f 0 = 0 then -1 else if x < gV M 2 n c f 3 then gV M 2 n c f 3 else -1
  | 4 => bI (tru M n c f x b)
  | _ => (if gV M 2 n c f 6 = 0 then 0 else 1) + (if gV M 2 n c f 7 = 0 then 0 else 2)
/-- asked -/
theorem s_heTell (hR : Rep hp M) (hn : n < 2) (hc : c < 4) (hf : f < 12) (x b : Int32) {k : Nat} (hk : k < 6) : WM L xs (d + 1) mX1_tell [.ref (xi 2 n c f), .int (nI k), .int x, .int b] hp (fun v hp' => hp' = hp ∧ v = some (.int (hTell M n c f k x b))) := by
  refine WM.of [some (.ref _), some (.int (nI k)), some (.int x), some (.int b)] (by decide) rfl (Nat.le_of_ble_eq_true rfl) ?_
  rcases (show k = 0 ∨ k = 1 ∨ k = 2 ∨ k = 3 ∨ k = 4 ∨ k = 5 by omega) with rfl | rfl | rfl | rfl | rfl | rfl
  · skip
    refine wp_iload_n (i := 1) dX1_tell_0 rfl rfl ?_
    refine wp_tabIn dX1_tell_1 (by decide) (by decide) (off := 35) (tgt := 36) (by decide) (by decide) ?_
    refine wp_aload_n (i := 0) dX1_tell_36 rfl rfl ?_
    refine wr_get (g := 2) (n := n) (a := c) (b := f) (k := 0) dX1_tell_37 hR f_X1_15 (vs2 hn hc hf (by decide)) (by decide) (by decide) ?_
    refine wp_if_eq (tgt := 50) dX1_tell_40 (by decide) (fun c40 => ?_) (fun c40 => ?_)
    · skip
      refine wp_iconst (v := (-1)) dX1_tell_50 rfl ?_
      refine wp_ret (v := some (.int _)) dX1_tell_51 rfl ?_
      refine ⟨trivial, rfl, ?_⟩
      congr 2
      unfold hTell
      simp only [*, if_true, if_false, not_true_eq_false, not_false_eq_true]
      first | done | rfl | simp [*]
    · skip
      refine wp_aload_n (i := 0) dX1_tell_43 rfl rfl ?_
      refine wr_get (g := 2) (n := n) (a := c) (b := f) (k := 1) dX1_tell_44 hR f_X1_22 (vs2 hn hc hf (by decide)) (by decide) (by decide) ?_
      refine wp_goto (tgt := 51) dX1_tell_47 (by decide) ?_
      refine wp_ret (v := some (.int _)) dX1_tell_51 rfl ?_
      refine ⟨trivial, rfl, ?_⟩
      congr 2
      unfold hTell
      simp only [*, if_true, if_false, not_true_eq_false, not_false_eq_true]
      first | done | rfl | simp [*]
  · skip
    refine wp_iload_n (i := 1) dX1_tell_0 rfl rfl ?_
    refine wp_tabIn dX1_tell_1 (by decide) (by decide) (off := 51) (tgt := 52) (by decide) (by decide) ?_
    refine wp_aload_n (i := 0) dX1_tell_52 rfl rfl ?_
    refine wr_get (g := 2) (n := n) (a := c) (b := f) (k := 0) dX1_tell_53 hR f_X1_15 (vs2 hn hc hf (by decide)) (by decide) (by decide) ?_
    refine wp_if_eq (tgt := 66) dX1_tell_56 (by decide) (fun c56 => ?_) (fun c56 => ?_)
    · skip
      refine wp_iconst (v := (-1)) dX1_tell_66 rfl ?_
      refine wp_ret (v := some (.int _)) dX1_tell_67 rfl ?_
      refine ⟨trivial, rfl, ?_⟩
      congr 2
      unfold hTell
      simp only [*, if_true, if_false, not_true_eq_false, not_false_eq_true]
      first | done | rfl | simp [*]
    · skip
      refine wp_aload_n (i := 0) dX1_tell_59 rfl rfl ?_
      refine wr_get (g := 2) (n := n) (a := c) (b := f) (k := 2) dX1_tell_60 hR f_X1_28 (vs2 hn hc hf (by decide)) (by decide) (by decide) ?_
      refine wp_goto (tgt := 67) dX1_tell_63 (by decide) ?_
      refine wp_ret (v := some (.int _)) dX1_tell_67 rfl ?_
      refine ⟨trivial, rfl, ?_⟩
      congr 2
      unfold hTell
      simp only [*, if_true, if_false, not_true_eq_false, not_false_eq_true]
      first | done | rfl | simp [*]
  · skip
    refine wp_iload_n (i := 1) dX1_tell_0 rfl rfl ?_
    refine wp_tabIn dX1_tell_1 (by decide) (by decide) (off := 67) (tgt := 68) (by decide) (by decide) ?_
    refine wp_aload_n (i := 0) dX1_tell_68 rfl rfl ?_
    refine wr_get (g := 2) (n := n) (a := c) (b := f) (k := 4) dX1_tell_69 hR f_X1_19 (vs2 hn hc hf (by decide)) (by decide) (by decide) ?_
    refine wp_if_eq (tgt := 79) dX1_tell_72 (by decide) (fun c72 => ?_) (fun c72 => ?_)
    · skip
      refine wp_iconst (v := 0) dX1_tell_79 rfl ?_
      refine wp_ret (v := some (.int _)) dX1_tell_80 rfl ?_
      refine ⟨trivial, rfl, ?_⟩
      congr 2
      unfold hTell
      simp only [*, if_true, if_false, not_true_eq_false, not_false_eq_true]
      first | done | rfl | simp [*]
    · skip
      refine wp_iconst (v := 1) dX1_tell_75 rfl ?_
      refine wp_goto (tgt := 80) dX1_tell_76 (by decide) ?_
      refine wp_ret (v := some (.int _)) dX1_tell_80 rfl ?_
      refine ⟨trivial, rfl, ?_⟩
      congr 2
      unfold hTell
      simp only [*, if_true, if_false, not_true_eq_false, not_false_eq_true]
      first | done | rfl | simp [*]
  · skip
    refine wp_iload_n (i := 1) dX1_tell_0 rfl rfl ?_
    refine wp_tabIn dX1_tell_1 (by decide) (by decide) (off := 80) (tgt := 81) (by decide) (by decide) ?_
    refine wp_aload_n (i := 0) dX1_tell_81 rfl rfl ?_
    refine wr_get (g := 2) (n := n) (a := c) (b := f) (k := 0) dX1_tell_82 hR f_X1_15 (vs2 hn hc hf (by decide)) (by decide) (by decide) ?_
    refine wp_if_eq (tgt := 103) dX1_tell_85 (by decide) (fun c85 => ?_) (fun c85 => ?_)
    · skip
      refine wp_iconst (v := (-1)) dX1_tell_103 rfl ?_
      refine wp_ret (v := some (.int _)) dX1_tell_104 rfl ?_
      refine ⟨trivial, rfl, ?_⟩
      congr 2
      unfold hTell
      simp only [*, if_true, if_false, not_true_eq_false, not_false_eq_true]
      first | done | rfl | simp [*]
    · skip
      refine wp_iload_n (i := 2) dX1_tell_88 rfl rfl ?_
      refine wp_aload_n (i := 0) dX1_tell_89 rfl rfl ?_
      refine wr_get (g := 2) (n := n) (a := c) (b := f) (k := 3) dX1_tell_90 hR f_X1_9 (vs2 hn hc hf (by decide)) (by decide) (by decide) ?_
      refine wp_icmp_ge (tgt := 103) dX1_tell_93 (by decide) (fun c93 => ?_) (fun c93 => ?_)
      · skip
        refine wp_iconst (v := (-1)) dX1_tell_103 rfl ?_
        refine wp_ret (v := some (.int _)) dX1_tell_104 rfl ?_
        refine ⟨trivial, rfl, ?_⟩
        congr 2
        unfold hTell
        simp only [*, if_true, if_false, not_true_eq_false, not_false_eq_true]
        first | done | rfl | simp [*]
      · skip
        refine wp_aload_n (i := 0) dX1_tell_96 rfl rfl ?_
        refine wr_get (g := 2) (n := n) (a := c) (b := f) (k := 3) dX1_tell_97 hR f_X1_9 (vs2 hn hc hf (by decide)) (by decide) (by decide) ?_
        refine wp_goto (tgt := 104) dX1_tell_100 (by decide) ?_
        refine wp_ret (v := some (.int _)) dX1_tell_104 rfl ?_
        refine ⟨trivial, rfl, ?_⟩
        congr 2
        unfold hTell
        simp only [*, if_true, if_false, not_true_eq_false, not_false_eq_true]
        first | done | rfl | simp [*]
  · skip
    refine wp_iload_n (i := 1) dX1_tell_0 rfl rfl ?_
    refine wp_tabIn dX1_tell_1 (by decide) (by decide) (off := 104) (tgt := 105) (by decide) (by decide) ?_
    refine wp_aload_n (i := 0) dX1_tell_105 rfl rfl ?_
    refine wp_iload_n (i := 2) dX1_tell_106 rfl rfl ?_
    refine wp_iload_n (i := 3) dX1_tell_107 rfl rfl ?_
    refine wp_callV (N := mX1_isTrusted) dX1_tell_108 l_X1_34 v_X1_isTrusted rfl (hR.oo (vs2 hn hc hf (k := 0) (by decide)) (by decide)) rfl (by decide) (s_isTrusted hR hn hc hf x b) (fun v hp1 hq => ?_)
    obtain ⟨rfl, rfl⟩ := hq
    refine wp_if_eq (tgt := 118) dX1_tell_111 (by decide) (fun c111 => ?_) (fun c111 => ?_)
    · skip
      refine wp_iconst (v := 0) dX1_tell_118 rfl ?_
      refine wp_ret (v := some (.int _)) dX1_tell_119 rfl ?_
      refine ⟨trivial, rfl, ?_⟩
      congr 2
      unfold hTell
      first | (have c9 := bI_ne.mp (by assumption); exact (bI_t c9).symm) | (have c9 := bI_eq.mp (by assumption); exact (bI_f c9).symm)
    · skip
      refine wp_iconst (v := 1) dX1_tell_114 rfl ?_
      refine wp_goto (tgt := 119) dX1_tell_115 (by decide) ?_
      refine wp_ret (v := some (.int _)) dX1_tell_119 rfl ?_
      refine ⟨trivial, rfl, ?_⟩
      congr 2
      unfold hTell
      first | (have c9 := bI_ne.mp (by assumption); exact (bI_t c9).symm) | (have c9 := bI_eq.mp (by assumption); exact (bI_f c9).symm)
  · skip
    refine wp_iload_n (i := 1) dX1_tell_0 rfl rfl ?_
    refine wp_tabOut dX1_tell_1 (tgt := 120) (by decide) (by decide) ?_
    refine wp_aload_n (i := 0) dX1_tell_120 rfl rfl ?_
    refine wr_get (g := 2) (n := n) (a := c) (b := f) (k := 6) dX1_tell_121 hR f_X1_38 (vs2 hn hc hf (by decide)) (by decide) (by decide) ?_
    refine wp_if_eq (tgt := 131) dX1_tell_124 (by decide) (fun c124 => ?_) (fun c124 => ?_)
    · skip
      refine wp_iconst (v := 0) dX1_tell_131 rfl ?_
      refine wp_aload_n (i := 0) dX1_tell_132 rfl rfl ?_
      refine wr_get (g := 2) (n := n) (a := c) (b := f) (k := 7) dX1_tell_133 hR f_X1_31 (vs2 hn hc hf (by decide)) (by decide) (by decide) ?_
      refine wp_if_eq (tgt := 143) dX1_tell_136 (by decide) (fun c136 => ?_) (fun c136 => ?_)
      · skip
        refine wp_iconst (v := 0) dX1_tell_143 rfl ?_
        refine wp_iadd dX1_tell_144 ?_
        refine wp_ret (v := some (.int _)) dX1_tell_145 rfl ?_
        refine ⟨trivial, rfl, ?_⟩
        congr 2
        unfold hTell
        simp only [*, if_true, if_false, not_true_eq_false, not_false_eq_true]
        first | done | rfl | simp [*]
      · skip
        refine wp_iconst (v := 2) dX1_tell_139 rfl ?_
        refine wp_goto (tgt := 144) dX1_tell_140 (by decide) ?_
        refine wp_iadd dX1_tell_144 ?_
        refine wp_ret (v := some (.int _)) dX1_tell_145 rfl ?_
        refine ⟨trivial, rfl, ?_⟩
        congr 2
        unfold hTell
        simp only [*, if_true, if_false, not_true_eq_false, not_false_eq_true]
        first | done | rfl | simp [*]
    · skip
      refine wp_iconst (v := 1) dX1_tell_127 rfl ?_
      refine wp_goto (tgt := 132) dX1_tell_128 (by decide) ?_
      refine wp_aload_n (i := 0) dX1_tell_132 rfl rfl ?_
      refine wr_get (g := 2) (n := n) (a := c) (b := f) (k := 7) dX1_tell_133 hR f_X1_31 (vs2 hn hc hf (by decide)) (by decide) (by decide) ?_
      refine wp_if_eq (tgt := 143) dX1_tell_136 (by decide) (fun c136 => ?_) (fun c136 => ?_)
      · skip
        refine wp_iconst (v := 0) dX1_tell_143 rfl ?_
        refine wp_iadd dX1_tell_144 ?_
        refine wp_ret (v := some (.int _)) dX1_tell_145 rfl ?_
        refine ⟨trivial, rfl, ?_⟩
        congr 2
        unfold hTell
        simp only [*, if_true, if_false, not_true_eq_false, not_false_eq_true]
        first | done | rfl | simp [*]
      · skip
        refine wp_iconst (v := 2) dX1_tell_139 rfl ?_
        refine wp_goto (tgt := 144) dX1_tell_140 (by decide) ?_
        refine wp_iadd dX1_tell_144 ?_
        refine wp_ret (v := some (.int _)) dX1_tell_145 rfl ?_
        refine ⟨trivial, rfl, ?_⟩
        congr 2
        unfold hTell
        simp only [*, if_true, if_false, not_true_eq_false, not_false_eq_true]
        first | done | rfl | simp [*]
end HELD
