/-! ===== Client, III: a file goes ===== -/
theorem nI_dec (i : Nat) : nI i + Int32.ofInt (-1) = nI i - 1 := by
  show nI i + (-1) = nI i - 1
  rw [Int32.sub_eq_add_neg]
section CLIENT3
variable {L : Nat} {xs : Nat → Int32} {d : Nat} {hp : AH} {M : MS} {n c : Nat} {Q : Option Value → AH → Prop}
theorem w_letGo_24 (hn : n < 2) (hc : c < 4) {m f : Nat} {x2 : Int32} (hm : m < 12) : ∀ (q i : Nat) (F : Nat → Int32) (hp : AH), m - i = q → i ≤ m → Rep hp (cO M n c (nI m) F []) →
    (∀ (hp' : AH) (F' : Nat → Int32), (∀ k, F' k = if i ≤ k ∧ k < m then F (k + 1) else F k) → Rep hp' (cO M n c (nI m) F' []) → WP L xs d mX0_letGo 52 [some (.ref (xi 1 n c 0)), some (.int (nI f)), some (.int x2), some (.int (nI m))] [] hp' Q) →
    WP L xs d mX0_letGo 24 [some (.ref (xi 1 n c 0)), some (.int (nI f)), some (.int x2), some (.int (nI i))] [] hp Q := by
  intro q
  induction q using Nat.strongRecOn with
  | ind q ih =>
    intro i F hp hq hi hR kk
    subst hq
    refine wp_iload_n (i := 3) dX0_letGo_24 rfl rfl ?_
    refine wp_aload_n (i := 0) dX0_letGo_25 rfl rfl ?_
    refine wr_get (g := 1) (n := n) (a := c) (b := 0) (k := 2) dX0_letGo_26 hR f_X0_52 (vs1 hn hc (by decide)) (by decide) (by decide) ?_
    refine wp_icmp_ge (tgt := 52) dX0_letGo_29 (by decide) (fun c29 => ?_) (fun c29 => ?_)
    · skip
      rw [cO_cnt] at c29
      have hie : i = m := by
        rcases Nat.lt_or_ge i m with z | z
        · exact absurd (nI_lt z (by omega)) c29
        · omega
      subst hie
      exact kk hp F (fun k => by rw [if_neg (by omega)]) hR
    · skip
      rw [cO_cnt, nI_ltI (by omega) (by omega)] at c29
      refine wp_aload_n (i := 0) dX0_letGo_32 rfl rfl ?_
      refine wr_cliR (j := xi 3 n c 0) dX0_letGo_33 hR f_X0_17 hn hc (Or.inr (Or.inl ⟨rfl, rfl⟩)) ?_
      refine wp_iload_n (i := 3) dX0_letGo_36 rfl rfl ?_
      refine wp_aload_n (i := 0) dX0_letGo_37 rfl rfl ?_
      refine wr_cliR (j := xi 3 n c 0) dX0_letGo_38 hR f_X0_17 hn hc (Or.inr (Or.inl ⟨rfl, rfl⟩)) ?_
      refine wp_iload_n (i := 3) dX0_letGo_41 rfl rfl ?_
      refine wp_iconst (v := 1) dX0_letGo_42 rfl ?_
      refine wp_iadd dX0_letGo_43 ?_
      refine wr_ordG (k := i + 1) dX0_letGo_44 hR (nI_1 i) (vs3 hn hc (by omega)) ?_
      refine wr_ordP (k := i) dX0_letGo_45 hR rfl (vs3 hn hc (by omega)) (fun hp2 hR1 => ?_)
      refine wp_iinc (v := nI (i + 1)) dX0_letGo_46 rfl (nI_1 _) ?_
      refine wp_goto (tgt := 24) dX0_letGo_49 (by decide) ?_
      rw [cO_ord, cO_put] at hR1
      exact ih (m - (i + 1)) (by omega) (i + 1) _ _ rfl (by omega) hR1 (fun hp' F' hF hR' => kk hp' F' (fun k => by
        rw [hF k]
        simp only [upd]
        repeat' split
        all_goals first | rfl | (exfalso; omega) | (congr 1; omega) | skip) hR')
theorem erase_Lst {F F' : Nat → Int32} {l : List Nat} {f : Nat} (h : Lst F l) (hm : f ∈ l) (hF : ∀ k, F' k = if l.idxOf f ≤ k ∧ k < l.length - 1 then F (k + 1) else F k) : Lst F' (l.erase f) := by
  intro k q hq
  have hk := (List.getElem?_eq_some_iff.mp hq).1
  rw [List.length_erase_of_mem hm] at hk
  rw [erase_get hm] at hq
  rw [hF]
  by_cases h1 : k < l.idxOf f
  · rw [if_pos h1] at hq
    rw [if_neg (by omega)]
    exact h _ _ hq
  · rw [if_neg h1] at hq
    rw [if_pos ⟨by omega, hk⟩]
    exact h _ _ hq
/-- a file goes, if it is there -/
theorem s_letGo (hR : Rep hp M) (hn : n < 2) (hc : c < 4) {l : List Nat} (hO : Ord M n c l) {f : Nat} (hf : f < 12) : WM L xs (d + 1) mX0_letGo [.ref (xi 1 n c 0), .int (nI f)] hp (fun v hp' => v = none ∧ ((f ∈ l ∧ ∃ F, Rep hp' (cO M n c (nI (l.erase f).length) F [f]) ∧ Lst F (l.erase f)) ∨ (f ∉ l ∧ Rep hp' M))) := by
  obtain ⟨o1, o2, o3, o4⟩ := _root_.id hO
  refine WM.of [some (.ref _), some (.int (nI f)), none, none] (by decide) rfl (Nat.le_of_ble_eq_true rfl) ?_
  refine wp_aload_n (i := 0) dX0_letGo_0 rfl rfl ?_
  refine wp_iload_n (i := 1) dX0_letGo_1 rfl rfl ?_
  refine wp_callV (N := mX0_placeOf) dX0_letGo_2 l_X0_48 v_X0_placeOf rfl (hR.oo (vs1 hn hc (k := 2) (by decide)) (by decide)) rfl (by decide) (s_placeOf hR hn hc hO hf) (fun v hp1 hq => ?_)
  obtain ⟨rfl, rfl⟩ := hq
  by_cases hm : f ∈ l
  · have hidx := List.idxOf_lt_length_iff.mpr hm
    rw [pOf, if_pos hm]
    have h8 : ¬ nI (l.idxOf f) = -1 := fun q => by
      have h9 := congrArg Int32.toInt q
      rw [nI_toInt (by omega), show (-1 : Int32).toInt = -1 from by decide] at h9
      omega
    refine wp_istore_n (i := 2) dX0_letGo_5 rfl (Nat.le_of_ble_eq_true rfl) ?_
    refine wp_iload_n (i := 2) dX0_letGo_6 rfl rfl ?_
    refine wp_iconst (v := (-1)) dX0_letGo_7 rfl ?_
    refine wp_icmp_ne (tgt := 12) dX0_letGo_8 (by decide) (fun c8 => ?_) (fun c8 => ?_)
    · skip
      refine wp_aload_n (i := 0) dX0_letGo_12 rfl rfl ?_
      refine wp_dup dX0_letGo_13 rfl ?_
      refine wr_get (g := 1) (n := n) (a := c) (b := 0) (k := 2) dX0_letGo_14 hR f_X0_52 (vs1 hn hc (by decide)) (by decide) (by decide) ?_
      refine wp_iconst (v := 1) dX0_letGo_17 rfl ?_
      refine wp_isub dX0_letGo_18 ?_
      refine wr_put (g := 1) (n := n) (a := c) (b := 0) (k := 2) dX0_letGo_19 hR (p_X0_52 rfl) (vs1 hn hc (by decide)) (by decide) (by decide) (okI rfl) (fun hp2 hR1 => ?_)
      refine wp_iload_n (i := 2) dX0_letGo_22 rfl rfl ?_
      refine wp_istore_n (i := 3) dX0_letGo_23 rfl (Nat.le_of_ble_eq_true rfl) ?_
      have e9 : sV M 1 n c 0 2 (gV M 1 n c 0 2 - 1) = cO M n c (nI (l.length - 1)) (gV M 3 n c 0) [] := by
        rw [o1, show (1 : Int32) = nI 1 from rfl, pk_sub (by omega)]
        refine wV_eq (fun g9 n9 a9 b9 k9 => ?_) ⟨rfl, rfl, rfl⟩
        simp only [gV_sV]
        repeat' split
        all_goals first | rfl | (exfalso; omega) | skip
        all_goals first | (rename_i h; obtain ⟨rfl, rfl, rfl, rfl⟩ := h; rfl) | (rename_i h; exact absurd h.2.2.2.1 List.not_mem_nil)
      rw [e9] at hR1
      refine w_letGo_24 hn hc (by omega) (l.length - 1 - l.idxOf f) (l.idxOf f) _ _ rfl (by omega) hR1 (fun hp' F' hF hR' => ?_)
      refine wp_aload_n (i := 0) dX0_letGo_52 rfl rfl ?_
      refine wr_cliR (j := rF n c) dX0_letGo_53 hR' f_X0_11 hn hc (Or.inl ⟨rfl, rfl⟩) ?_
      refine wp_iload_n (i := 1) dX0_letGo_56 rfl rfl ?_
      refine wr_aF (f := f) dX0_letGo_57 hR' rfl hn hc hf ?_
      refine wp_iconst (v := 0) dX0_letGo_58 rfl ?_
      refine wr_put (g := 2) (n := n) (a := c) (b := f) (k := 0) dX0_letGo_59 hR' (p_X0_55 rfl) (vs2 hn hc hf (by decide)) (by decide) (by decide) (okB rfl (by decide)) (fun hp2 hR1 => ?_)
      refine wp_aload_n (i := 0) dX0_letGo_62 rfl rfl ?_
      refine wr_cliR (j := rF n c) dX0_letGo_63 hR1 f_X0_11 hn hc (Or.inl ⟨rfl, rfl⟩) ?_
      refine wp_iload_n (i := 1) dX0_letGo_66 rfl rfl ?_
      refine wr_aF (f := f) dX0_letGo_67 hR1 rfl hn hc hf ?_
      refine wp_iconst (v := (-1)) dX0_letGo_68 rfl ?_
      refine wr_put (g := 2) (n := n) (a := c) (b := f) (k := 3) dX0_letGo_69 hR1 (p_X0_45 rfl) (vs2 hn hc hf (by decide)) (by decide) (by decide) (okI rfl) (fun hp4 hR3 => ?_)
      refine wp_ret (v := none) dX0_letGo_72 rfl ?_
      refine ⟨trivial, rfl, Or.inl ⟨hm, F', ?_, erase_Lst (fun k q h => o4 k q h) hm hF⟩⟩
      have e8 : sV (sV (cO M n c (nI (l.length - 1)) F' []) 2 n c f 0 0) 2 n c f 3 (-1) = cO M n c (nI (l.erase f).length) F' [f] := by
        rw [List.length_erase_of_mem hm]
        refine wV_eq (fun g9 n9 a9 b9 k9 => ?_) ⟨rfl, rfl, rfl⟩
        simp only [gV_sV, cO, gV_wV, List.mem_singleton, List.not_mem_nil]
        repeat' split
        all_goals first | rfl | (exfalso; omega) | (exfalso; simp_all)
      rw [e8] at hR3
      exact hR3
    · skip
      exact absurd c8 h8
  · rw [pOf, if_neg hm]
    refine wp_istore_n (i := 2) dX0_letGo_5 rfl (Nat.le_of_ble_eq_true rfl) ?_
    refine wp_iload_n (i := 2) dX0_letGo_6 rfl rfl ?_
    refine wp_iconst (v := (-1)) dX0_letGo_7 rfl ?_
    refine wp_icmp_ne (tgt := 12) dX0_letGo_8 (by decide) (fun c8 => ?_) (fun c8 => ?_)
    · skip
      exact absurd rfl c8
    · skip
      refine wp_ret (v := none) dX0_letGo_11 rfl ?_
      exact ⟨trivial, rfl, Or.inr ⟨hm, hR⟩⟩
/-- dirty, and not being sent -/
def dns (M : MS) (n c f : Nat) : Prop := ¬ gV M 2 n c f 4 = 0 ∧ gV M 2 n c f 7 = 0
/-- found so far -/
def fnd (M : MS) (n c : Nat) (x : Int32) (j : Nat) : Prop := (x = -1 ∧ ∀ f, j ≤ f → f < 12 → ¬ dns M n c f) ∨ ∃ f, f < 12 ∧ x = nI f ∧ dns M n c f
theorem w_longest_5 (hR : Rep hp M) (hn : n < 2) (hc : c < 4) {o3 : Nat} : ∀ (j : Nat) (x : Int32) (l3 : Option Value), j ≤ 12 → fnd M n c x j → (l3 = none ∨ l3 = some (.ref o3)) → WP L xs d mX0_longestDirty 5 [some (.ref (xi 1 n c 0)), some (.int x), some (.int (nI j - 1)), none] [] hp (fun v hp' => retOk mX0_longestDirty.2.2.2 v ∧ hp' = hp ∧ ∃ r, v = some (.int r) ∧ fnd M n c r 0) := by
  intro j
  induction j with
  | zero =>
    intro x l3 hj hF hl3
    refine wp_iload_n (i := 2) dX0_longestDirty_5 rfl rfl ?_
    refine wp_if_lt (tgt := 59) dX0_longestDirty_6 (by decide) (fun c6 => ?_) (fun c6 => absurd (by decide) c6)
    refine wp_iload_n (i := 1) dX0_longestDirty_59 rfl rfl ?_
    refine wp_ret (v := some (.int _)) dX0_longestDirty_60 rfl ?_
    exact ⟨trivial, rfl, _, rfl, hF⟩
  | succ i ih =>
    intro x l3 hj hF hl3
    rw [nI_pred]
    have hi : i < 12 := hj
    refine wp_iload_n (i := 2) dX0_longestDirty_5 rfl rfl ?_
    refine wp_if_lt (tgt := 59) dX0_longestDirty_6 (by decide) (fun c6 => ?_) (fun c6 => ?_)
    · skip
      exact absurd c6 (nI_pos (by omega))
    · skip
      refine wp_aload_n (i := 0) dX0_longestDirty_9 rfl rfl ?_
      refine wr_cliR (j := rF n c) dX0_longestDirty_10 hR f_X0_11 hn hc (Or.inl ⟨rfl, rfl⟩) ?_
      refine wp_iload_n (i := 2) dX0_longestDirty_13 rfl rfl ?_
      refine wr_aF (f := i) dX0_longestDirty_14 hR rfl hn hc (by omega) ?_
      refine wp_astore_n (i := 3) dX0_longestDirty_15 rfl (Nat.le_of_ble_eq_true rfl) ?_
      refine wp_aload_n (i := 3) dX0_longestDirty_16 rfl rfl ?_
      refine wr_get (g := 2) (n := n) (a := c) (b := i) (k := 4) dX0_longestDirty_17 hR f_X0_58 (vs2 hn hc (by omega) (by decide)) (by decide) (by decide) ?_
      refine wp_if_eq (tgt := 53) dX0_longestDirty_20 (by decide) (fun c20 => ?_) (fun c20 => ?_)
      · skip
        refine wp_iinc (v := nI i - 1) dX0_longestDirty_53 rfl (nI_dec _) ?_
        refine wp_goto (tgt := 5) dX0_longestDirty_56 (by decide) ?_
        refine WP.less (ls' := [some (.ref (xi 1 n c 0)), some (.int x), some (.int (nI i - 1)), none]) ?_ rfl (fun k v h => by
          match k, h with
          | 0, h => exact h
          | 1, h => exact h
          | 2, h => exact h
          | 3, h => cases h
          | k + 4, h => simp at h)
        exact ih x none (by omega) (by
          rcases hF with ⟨q1, q2⟩ | q
          · refine Or.inl ⟨q1, fun f h1 h2 h3 => ?_⟩
            rcases Nat.lt_or_ge i f with z | z
            · exact q2 f z h2 h3
            · have : f = i := by omega
              subst this
              exact h3.1 c20
          · exact Or.inr q) (Or.inl rfl)
      · skip
        refine wp_aload_n (i := 3) dX0_longestDirty_23 rfl rfl ?_
        refine wr_get (g := 2) (n := n) (a := c) (b := i) (k := 7) dX0_longestDirty_24 hR f_X0_42 (vs2 hn hc (by omega) (by decide)) (by decide) (by decide) ?_
        refine wp_if_ne (tgt := 53) dX0_longestDirty_27 (by decide) (fun c27 => ?_) (fun c27 => ?_)
        · skip
          refine wp_iinc (v := nI i - 1) dX0_longestDirty_53 rfl (nI_dec _) ?_
          refine wp_goto (tgt := 5) dX0_longestDirty_56 (by decide) ?_
          refine WP.less (ls' := [some (.ref (xi 1 n c 0)), some (.int x), some (.int (nI i - 1)), none]) ?_ rfl (fun k v h => by
            match k, h with
            | 0, h => exact h
            | 1, h => exact h
            | 2, h => exact h
            | 3, h => cases h
            | k + 4, h => simp at h)
          exact ih x none (by omega) (by
            rcases hF with ⟨q1, q2⟩ | q
            · refine Or.inl ⟨q1, fun f h1 h2 h3 => ?_⟩
              rcases Nat.lt_or_ge i f with z | z
              · exact q2 f z h2 h3
              · have : f = i := by omega
                subst this
                exact c27 h3.2
            · exact Or.inr q) (Or.inl rfl)
        · skip
          refine wp_iload_n (i := 1) dX0_longestDirty_30 rfl rfl ?_
          refine wp_iconst (v := (-1)) dX0_longestDirty_31 rfl ?_
          refine wp_icmp_eq (tgt := 51) dX0_longestDirty_32 (by decide) (fun c32 => ?_) (fun c32 => ?_)
          · skip
            refine wp_iload_n (i := 2) dX0_longestDirty_51 rfl rfl ?_
            refine wp_istore_n (i := 1) dX0_longestDirty_52 rfl (Nat.le_of_ble_eq_true rfl) ?_
            refine wp_iinc (v := nI i - 1) dX0_longestDirty_53 rfl (nI_dec _) ?_
            refine wp_goto (tgt := 5) dX0_longestDirty_56 (by decide) ?_
            refine WP.less (ls' := [some (.ref (xi 1 n c 0)), some (.int (nI i)), some (.int (nI i - 1)), none]) ?_ rfl (fun k v h => by
              match k, h with
              | 0, h => exact h
              | 1, h => exact h
              | 2, h => exact h
              | 3, h => cases h
              | k + 4, h => simp at h)
            exact ih (nI i) none (by omega) (Or.inr ⟨i, hi, rfl, c20, c27⟩) (Or.inl rfl)
          · skip
            obtain ⟨f9, hf9, e9, -⟩ := hF.resolve_left (fun q => c32 q.1)
            refine wp_aload_n (i := 3) dX0_longestDirty_35 rfl rfl ?_
            refine wr_get (g := 2) (n := n) (a := c) (b := i) (k := 5) dX0_longestDirty_36 hR f_X0_107 (vs2 hn hc (by omega) (by decide)) (by decide) (by decide) ?_
            refine wp_aload_n (i := 0) dX0_longestDirty_39 rfl rfl ?_
            refine wr_cliR (j := rF n c) dX0_longestDirty_40 hR f_X0_11 hn hc (Or.inl ⟨rfl, rfl⟩) ?_
            refine wp_iload_n (i := 1) dX0_longestDirty_43 rfl rfl ?_
            refine wr_aF (f := f9) dX0_longestDirty_44 hR e9 hn hc hf9 ?_
            refine wr_get (g := 2) (n := n) (a := c) (b := f9) (k := 5) dX0_longestDirty_45 hR f_X0_107 (vs2 hn hc hf9 (by decide)) (by decide) (by decide) ?_
            refine wp_icmp_gt (tgt := 53) dX0_longestDirty_48 (by decide) (fun c48 => ?_) (fun c48 => ?_)
            · skip
              refine wp_iinc (v := nI i - 1) dX0_longestDirty_53 rfl (nI_dec _) ?_
              refine wp_goto (tgt := 5) dX0_longestDirty_56 (by decide) ?_
              refine WP.less (ls' := [some (.ref (xi 1 n c 0)), some (.int x), some (.int (nI i - 1)), none]) ?_ rfl (fun k v h => by
                match k, h with
                | 0, h => exact h
                | 1, h => exact h
                | 2, h => exact h
                | 3, h => cases h
                | k + 4, h => simp at h)
              exact ih x none (by omega) (Or.inr (hF.resolve_left (fun q => c32 q.1))) (Or.inl rfl)
            · skip
              refine wp_iload_n (i := 2) dX0_longestDirty_51 rfl rfl ?_
              refine wp_istore_n (i := 1) dX0_longestDirty_52 rfl (Nat.le_of_ble_eq_true rfl) ?_
              refine wp_iinc (v := nI i - 1) dX0_longestDirty_53 rfl (nI_dec _) ?_
              refine wp_goto (tgt := 5) dX0_longestDirty_56 (by decide) ?_
              refine WP.less (ls' := [some (.ref (xi 1 n c 0)), some (.int (nI i)), some (.int (nI i - 1)), none]) ?_ rfl (fun k v h => by
                match k, h with
                | 0, h => exact h
                | 1, h => exact h
                | 2, h => exact h
                | 3, h => cases h
                | k + 4, h => simp at h)
              exact ih (nI i) none (by omega) (Or.inr ⟨i, hi, rfl, c20, c27⟩) (Or.inl rfl)
/-- a file that is dirty and not being sent, if there is one -/
theorem s_longest (hR : Rep hp M) (hn : n < 2) (hc : c < 4) : WM L xs d mX0_longestDirty [.ref (xi 1 n c 0)] hp (fun v hp' => hp' = hp ∧ ∃ r, v = some (.int r) ∧ fnd M n c r 0) := by
  refine WM.of [some (.ref _), none, none, none] (by decide) rfl (Nat.le_of_ble_eq_true rfl) ?_
  refine wp_iconst (v := (-1)) dX0_longestDirty_0 rfl ?_
  refine wp_istore_n (i := 1) dX0_longestDirty_1 rfl (Nat.le_of_ble_eq_true rfl) ?_
  refine wp_bipush (v := nI 11) dX0_longestDirty_2 (by decide) ?_
  refine wp_istore_n (i := 2) dX0_longestDirty_4 rfl (Nat.le_of_ble_eq_true rfl) ?_
  refine WP.less (ls' := [some (.ref (xi 1 n c 0)), some (.int (-1)), some (.int (nI 12 - 1)), none]) ?_ rfl (fun k v h => by
    match k, h with
    | 0, h => exact h
    | 1, h => exact h
    | 2, h => exact h
    | 3, h => cases h
    | k + 4, h => simp at h)
  exact w_longest_5 hR hn hc (o3 := 0) 12 (-1) none (by decide) (Or.inl ⟨rfl, fun f h1 h2 => absurd h2 (by omega)⟩) (Or.inl rfl)
theorem w_isClean_2 (hR : Rep hp M) (hn : n < 2) (hc : c < 4) : ∀ (m i : Nat), 12 - i = m → i ≤ 12 → WP L xs d mX0_isClean 2 [some (.ref (xi 1 n c 0)), some (.int (nI i))] [] hp (fun v hp' => retOk mX0_isClean.2.2.2 v ∧ hp' = hp ∧ ∃ r, v = some (.int r) ∧ (r = 0 ∨ r = 1)) := by
  intro m
  induction m using Nat.strongRecOn with
  | ind m ih =>
    intro i hm hi0
    subst hm
    refine wp_iload_n (i := 1) dX0_isClean_2 rfl rfl ?_
    refine wp_bipush (v := nI 12) dX0_isClean_3 (by decide) ?_
    refine wp_icmp_ge (tgt := 28) dX0_isClean_5 (by decide) (fun c5 => ?_) (fun c5 => ?_)
    · skip
      refine wp_iconst (v := 1) dX0_isClean_28 rfl ?_
      refine wp_ret (v := some (.int _)) dX0_isClean_29 rfl ?_
      exact ⟨by first | exact Or.inl rfl | exact Or.inr rfl, rfl, _, rfl, by first | exact Or.inl rfl | exact Or.inr rfl⟩
    · skip
      have hi : i < 12 := (nI_ltI (by omega) (by decide)).mp c5
      refine wp_aload_n (i := 0) dX0_isClean_8 rfl rfl ?_
      refine wr_cliR (j := rF n c) dX0_isClean_9 hR f_X0_11 hn hc (Or.inl ⟨rfl, rfl⟩) ?_
      refine wp_iload_n (i := 1) dX0_isClean_12 rfl rfl ?_
      refine wr_aF (f := i) dX0_isClean_13 hR rfl hn hc hi ?_
      refine wr_get (g := 2) (n := n) (a := c) (b := i) (k := 4) dX0_isClean_14 hR f_X0_58 (vs2 hn hc hi (by decide)) (by decide) (by decide) ?_
      refine wp_if_eq (tgt := 22) dX0_isClean_17 (by decide) (fun c17 => ?_) (fun c17 => ?_)
      · skip
        refine wp_iinc (v := nI (i + 1)) dX0_isClean_22 rfl (nI_1 _) ?_
        refine wp_goto (tgt := 2) dX0_isClean_25 (by decide) ?_
        exact ih (12 - (i + 1)) (by omega) (i + 1) rfl (by omega)
      · skip
        refine wp_iconst (v := 0) dX0_isClean_20 rfl ?_
        refine wp_ret (v := some (.int _)) dX0_isClean_21 rfl ?_
        exact ⟨by first | exact Or.inl rfl | exact Or.inr rfl, rfl, _, rfl, by first | exact Or.inl rfl | exact Or.inr rfl⟩
theorem s_isClean (hR : Rep hp M) (hn : n < 2) (hc : c < 4) : WM L xs d mX0_isClean [.ref (xi 1 n c 0)] hp (fun v hp' => hp' = hp ∧ ∃ r, v = some (.int r) ∧ (r = 0 ∨ r = 1)) := by
  refine WM.of [some (.ref _), none] (by decide) rfl (Nat.le_of_ble_eq_true rfl) ?_
  refine wp_iconst (v := 0) dX0_isClean_0 rfl ?_
  refine wp_istore_n (i := 1) dX0_isClean_1 rfl (Nat.le_of_ble_eq_true rfl) ?_
  exact w_isClean_2 hR hn hc 12 0 rfl (by decide)
def cTell (M : MS) (n c k : Nat) : Int32 := match k with
  | 0 => gV M 1 n c 0 2
  | 1 => gV M 1 n c 0 7
  | 2 => gV M 1 n c 0 8
  | 3 => gV M 1 n c 0 9
  | 4 => gV M 1 n c 0 10
  | 5 => gV M 1 n c 0 11
  | _ => if gV M 1 n c 0 6 = 0 then 0 else 1
theorem s_clTell (hR : Rep hp M) (hn : n < 2) (hc : c < 4) {k : Nat} (hk : k < 7) : WM L xs d mX0_tell [.ref (xi 1 n c 0), .int (nI k)] hp (fun v hp' => hp' = hp ∧ v = some (.int (cTell M n c k))) := by
  refine WM.of [some (.ref _), some (.int (nI k))] (by decide) rfl (Nat.le_of_ble_eq_true rfl) ?_
  rcases (show k = 0 ∨ k = 1 ∨ k = 2 ∨ k = 3 ∨ k = 4 ∨ k = 5 ∨ k = 6 by omega) with rfl | rfl | rfl | rfl | rfl | rfl | rfl
  · skip
    refine wp_iload_n (i := 1) dX0_tell_0 rfl rfl ?_
    refine wp_tabIn dX0_tell_1 (by decide) (by decide) (off := 39) (tgt := 40) (by decide) (by decide) ?_
    refine wp_aload_n (i := 0) dX0_tell_40 rfl rfl ?_
    refine wr_get (g := 1) (n := n) (a := c) (b := 0) (k := 2) dX0_tell_41 hR f_X0_52 (vs1 hn hc (by decide)) (by decide) (by decide) ?_
    refine wp_ret (v := some (.int _)) dX0_tell_44 rfl ?_
    refine ⟨trivial, rfl, ?_⟩
    first | rfl | (unfold cTell; simp only [*, if_true, if_false])
  · skip
    refine wp_iload_n (i := 1) dX0_tell_0 rfl rfl ?_
    refine wp_tabIn dX0_tell_1 (by decide) (by decide) (off := 44) (tgt := 45) (by decide) (by decide) ?_
    refine wp_aload_n (i := 0) dX0_tell_45 rfl rfl ?_
    refine wr_get (g := 1) (n := n) (a := c) (b := 0) (k := 7) dX0_tell_46 hR f_X0_110 (vs1 hn hc (by decide)) (by decide) (by decide) ?_
    refine wp_ret (v := some (.int _)) dX0_tell_49 rfl ?_
    refine ⟨trivial, rfl, ?_⟩
    first | rfl | (unfold cTell; simp only [*, if_true, if_false])
  · skip
    refine wp_iload_n (i := 1) dX0_tell_0 rfl rfl ?_
    refine wp_tabIn dX0_tell_1 (by decide) (by decide) (off := 49) (tgt := 50) (by decide) (by decide) ?_
    refine wp_aload_n (i := 0) dX0_tell_50 rfl rfl ?_
    refine wr_get (g := 1) (n := n) (a := c) (b := 0) (k := 8) dX0_tell_51 hR f_X0_113 (vs1 hn hc (by decide)) (by decide) (by decide) ?_
    refine wp_ret (v := some (.int _)) dX0_tell_54 rfl ?_
    refine ⟨trivial, rfl, ?_⟩
    first | rfl | (unfold cTell; simp only [*, if_true, if_false])
  · skip
    refine wp_iload_n (i := 1) dX0_tell_0 rfl rfl ?_
    refine wp_tabIn dX0_tell_1 (by decide) (by decide) (off := 54) (tgt := 55) (by decide) (by decide) ?_
    refine wp_aload_n (i := 0) dX0_tell_55 rfl rfl ?_
    refine wr_get (g := 1) (n := n) (a := c) (b := 0) (k := 9) dX0_tell_56 hR f_X0_78 (vs1 hn hc (by decide)) (by decide) (by decide) ?_
    refine wp_ret (v := some (.int _)) dX0_tell_59 rfl ?_
    refine ⟨trivial, rfl, ?_⟩
    first | rfl | (unfold cTell; simp only [*, if_true, if_false])
  · skip
    refine wp_iload_n (i := 1) dX0_tell_0 rfl rfl ?_
    refine wp_tabIn dX0_tell_1 (by decide) (by decide) (off := 59) (tgt := 60) (by decide) (by decide) ?_
    refine wp_aload_n (i := 0) dX0_tell_60 rfl rfl ?_
    refine wr_get (g := 1) (n := n) (a := c) (b := 0) (k := 10) dX0_tell_61 hR f_X0_75 (vs1 hn hc (by decide)) (by decide) (by decide) ?_
    refine wp_ret (v := some (.int _)) dX0_tell_64 rfl ?_
    refine ⟨trivial, rfl, ?_⟩
    first | rfl | (unfold cTell; simp only [*, if_true, if_false])
  · skip
    refine wp_iload_n (i := 1) dX0_tell_0 rfl rfl ?_
    refine wp_tabIn dX0_tell_1 (by decide) (by decide) (off := 64) (tgt := 65) (by decide) (by decide) ?_
    refine wp_aload_n (i := 0) dX0_tell_65 rfl rfl ?_
    refine wr_get (g := 1) (n := n) (a := c) (b := 0) (k := 11) dX0_tell_66 hR f_X0_116 (vs1 hn hc (by decide)) (by decide) (by decide) ?_
    refine wp_ret (v := some (.int _)) dX0_tell_69 rfl ?_
    refine ⟨trivial, rfl, ?_⟩
    first | rfl | (unfold cTell; simp only [*, if_true, if_false])
  · skip
    refine wp_iload_n (i := 1) dX0_tell_0 rfl rfl ?_
    refine wp_tabOut dX0_tell_1 (tgt := 70) (by decide) (by decide) ?_
    refine wp_aload_n (i := 0) dX0_tell_70 rfl rfl ?_
    refine wr_get (g := 1) (n := n) (a := c) (b := 0) (k := 6) dX0_tell_71 hR f_X0_35 (vs1 hn hc (by decide)) (by decide) (by decide) ?_
    refine wp_if_eq (tgt := 81) dX0_tell_74 (by decide) (fun c74 => ?_) (fun c74 => ?_)
    · skip
      refine wp_iconst (v := 0) dX0_tell_81 rfl ?_
      refine wp_ret (v := some (.int _)) dX0_tell_82 rfl ?_
      refine ⟨trivial, rfl, ?_⟩
      first | rfl | (unfold cTell; simp only [*, if_true, if_false])
    · skip
      refine wp_iconst (v := 1) dX0_tell_77 rfl ?_
      refine wp_goto (tgt := 82) dX0_tell_78 (by decide) ?_
      refine wp_ret (v := some (.int _)) dX0_tell_82 rfl ?_
      refine ⟨trivial, rfl, ?_⟩
      first | rfl | (unfold cTell; simp only [*, if_true, if_false])
end CLIENT3
