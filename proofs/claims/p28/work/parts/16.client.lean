/-! ===== numbers, all at once ===== -/
def wV (M : MS) (E : Nat → Nat → Nat → Nat → Nat → Int32) : MS := (M.1, M.2.1, E, M.2.2.2)
theorem gV_wV (M : MS) (E : Nat → Nat → Nat → Nat → Nat → Int32) (g n a b k : Nat) : gV (wV M E) g n a b k = E g n a b k := rfl
theorem wV_eq {M M' : MS} {E : Nat → Nat → Nat → Nat → Nat → Int32} (h : ∀ g n a b k, gV M' g n a b k = E g n a b k) (hr : M'.1 = M.1 ∧ M'.2.1 = M.2.1 ∧ M'.2.2.2 = M.2.2.2) : M' = wV M E := by
  obtain ⟨m1, m2, m3, m4⟩ := M'
  obtain ⟨h1, h2, h3⟩ := hr
  have h4 : m3 = E := by funext g n a b k; exact h g n a b k
  subst h4
  show (m1, m2, m3, m4) = (M.1, M.2.1, m3, M.2.2.2)
  rw [show m1 = M.1 from h1, show m2 = M.2.1 from h2, show m4 = M.2.2.2 from h3]
/-! ===== Client, I ===== -/
section CLIENT
variable {L : Nat} {xs : Nat → Int32} {d : Nat} {hp : AH} {M : MS} {n c : Nat}
def cutE (M : MS) (n c i : Nat) : Nat → Nat → Nat → Nat → Nat → Int32 := fun g' n' a' b' k' => if g' = 1 ∧ n' = n ∧ a' = c ∧ b' = 0 ∧ k' = 6 then 1 else if g' = 2 ∧ n' = n ∧ a' = c ∧ b' < i ∧ (k' = 6 ∨ k' = 7) then 0 else gV M g' n' a' b' k'

theorem w_cutLine_7 (hn : n < 2) (hc : c < 4) : ∀ (m i : Nat), 12 - i = m → i ≤ 12 → ∀ (hp : AH), Rep hp (wV M (cutE M n c i)) → WP L xs d mX0_cutLine 7 [some (.ref (xi 1 n c 0)), some (.int (nI i))] [] hp (fun v hp' => retOk mX0_cutLine.2.2.2 v ∧ v = none ∧ Rep hp' (wV M (cutE M n c 12))) := by
  intro m
  induction m using Nat.strongRecOn with
  | ind m ih =>
    intro i hm hi0 hp hR
    subst hm
    refine wp_iload_n (i := 1) dX0_cutLine_7 rfl rfl ?_
    refine wp_bipush (v := nI 12) dX0_cutLine_8 (by decide) ?_
    refine wp_icmp_ge (tgt := 39) dX0_cutLine_10 (by decide) (fun c10 => ?_) (fun c10 => ?_)
    · skip
      have hi12 : i = 12 := by
        rcases Nat.lt_or_ge i 12 with q | q
        · exact absurd (nI_lt q (by decide)) c10
        · omega
      subst hi12
      refine wp_ret (v := none) dX0_cutLine_39 rfl ?_
      exact ⟨trivial, rfl, hR⟩
    · skip
      refine wp_aload_n (i := 0) dX0_cutLine_13 rfl rfl ?_
      refine wr_cliR (j := rF n c) dX0_cutLine_14 hR f_X0_11 hn hc (Or.inl ⟨rfl, rfl⟩) ?_
      refine wp_iload_n (i := 1) dX0_cutLine_17 rfl rfl ?_
      refine wr_aF (f := i) dX0_cutLine_18 hR rfl hn hc (nI_ltI (by omega) (by decide) |>.mp c10) ?_
      refine wp_iconst (v := 0) dX0_cutLine_19 rfl ?_
      refine wr_put (g := 2) (n := n) (a := c) (b := i) (k := 6) dX0_cutLine_20 hR (p_X0_39 rfl) (vs2 hn hc (nI_ltI (by omega) (by decide) |>.mp c10) (by decide)) (by decide) (by decide) (okB rfl (by decide)) (fun hp2 hR1 => ?_)
      refine wp_aload_n (i := 0) dX0_cutLine_23 rfl rfl ?_
      refine wr_cliR (j := rF n c) dX0_cutLine_24 hR1 f_X0_11 hn hc (Or.inl ⟨rfl, rfl⟩) ?_
      refine wp_iload_n (i := 1) dX0_cutLine_27 rfl rfl ?_
      refine wr_aF (f := i) dX0_cutLine_28 hR1 rfl hn hc (nI_ltI (by omega) (by decide) |>.mp c10) ?_
      refine wp_iconst (v := 0) dX0_cutLine_29 rfl ?_
      refine wr_put (g := 2) (n := n) (a := c) (b := i) (k := 7) dX0_cutLine_30 hR1 (p_X0_42 rfl) (vs2 hn hc (nI_ltI (by omega) (by decide) |>.mp c10) (by decide)) (by decide) (by decide) (okB rfl (by decide)) (fun hp4 hR3 => ?_)
      refine wp_iinc (v := nI (i + 1)) dX0_cutLine_33 rfl (nI_1 _) ?_
      refine wp_goto (tgt := 7) dX0_cutLine_36 (by decide) ?_
      have e9 := hR3
      rw [show sV (sV (wV M (cutE M n c i)) 2 n c i 6 0) 2 n c i 7 0 = wV M (cutE M n c (i + 1)) from wV_eq (by
        intro g9 n9 a9 b9 k9
        simp only [gV_sV, gV_wV, cutE]
        repeat' split
        all_goals first | rfl | (exfalso; omega)) ⟨rfl, rfl, rfl⟩] at e9
      have hi9 := nI_ltI (by omega) (by decide) |>.mp c10
      exact ih (12 - (i + 1)) (by omega) (i + 1) rfl (by omega) _ e9
/-- the line is cut -/
theorem s_cutLine (hR : Rep hp M) (hn : n < 2) (hc : c < 4) : WM L xs d mX0_cutLine [.ref (xi 1 n c 0)] hp (fun v hp' => v = none ∧ Rep hp' (wV M (cutE M n c 12))) := by
  refine WM.of [some (.ref _), none] (by decide) rfl (Nat.le_of_ble_eq_true rfl) ?_
  refine wp_aload_n (i := 0) dX0_cutLine_0 rfl rfl ?_
  refine wp_iconst (v := 1) dX0_cutLine_1 rfl ?_
  refine wr_put (g := 1) (n := n) (a := c) (b := 0) (k := 6) dX0_cutLine_2 hR (p_X0_35 rfl) (vs1 hn hc (by decide)) (by decide) (by decide) (okB rfl (by decide)) (fun hp2 hR1 => ?_)
  refine wp_iconst (v := 0) dX0_cutLine_5 rfl ?_
  refine wp_istore_n (i := 1) dX0_cutLine_6 rfl (Nat.le_of_ble_eq_true rfl) ?_
  have e9 := hR1
  rw [show sV M 1 n c 0 6 1 = wV M (cutE M n c 0) from wV_eq (by
    intro g9 n9 a9 b9 k9
    simp only [gV_sV, cutE]
    repeat' split
    all_goals first | rfl | (exfalso; omega)) ⟨rfl, rfl, rfl⟩] at e9
  exact w_cutLine_7 hn hc 12 0 rfl (by decide) _ e9
def endE (M : MS) (n c i : Nat) : Nat → Nat → Nat → Nat → Nat → Int32 := fun g' n' a' b' k' => if g' = 2 ∧ n' = n ∧ a' = c ∧ b' < i ∧ k' = 3 then -1 else gV M g' n' a' b' k'
theorem w_endLeases_2 (hn : n < 2) (hc : c < 4) : ∀ (m i : Nat), 12 - i = m → i ≤ 12 → ∀ (hp : AH), Rep hp (wV M (endE M n c i)) → WP L xs d mX0_endLeases 2 [some (.ref (xi 1 n c 0)), some (.int (nI i))] [] hp (fun v hp' => retOk mX0_endLeases.2.2.2 v ∧ v = none ∧ Rep hp' (wV M (endE M n c 12))) := by
  intro m
  induction m using Nat.strongRecOn with
  | ind m ih =>
    intro i hm hi0 hp hR
    subst hm
    refine wp_iload_n (i := 1) dX0_endLeases_2 rfl rfl ?_
    refine wp_bipush (v := nI 12) dX0_endLeases_3 (by decide) ?_
    refine wp_icmp_ge (tgt := 24) dX0_endLeases_5 (by decide) (fun c5 => ?_) (fun c5 => ?_)
    · skip
      have hi12 : i = 12 := by
        rcases Nat.lt_or_ge i 12 with q | q
        · exact absurd (nI_lt q (by decide)) c5
        · omega
      subst hi12
      refine wp_ret (v := none) dX0_endLeases_24 rfl ?_
      exact ⟨trivial, rfl, hR⟩
    · skip
      refine wp_aload_n (i := 0) dX0_endLeases_8 rfl rfl ?_
      refine wr_cliR (j := rF n c) dX0_endLeases_9 hR f_X0_11 hn hc (Or.inl ⟨rfl, rfl⟩) ?_
      refine wp_iload_n (i := 1) dX0_endLeases_12 rfl rfl ?_
      refine wr_aF (f := i) dX0_endLeases_13 hR rfl hn hc (nI_ltI (by omega) (by decide) |>.mp c5) ?_
      refine wp_iconst (v := (-1)) dX0_endLeases_14 rfl ?_
      refine wr_put (g := 2) (n := n) (a := c) (b := i) (k := 3) dX0_endLeases_15 hR (p_X0_45 rfl) (vs2 hn hc (nI_ltI (by omega) (by decide) |>.mp c5) (by decide)) (by decide) (by decide) (okI rfl) (fun hp2 hR1 => ?_)
      refine wp_iinc (v := nI (i + 1)) dX0_endLeases_18 rfl (nI_1 _) ?_
      refine wp_goto (tgt := 2) dX0_endLeases_21 (by decide) ?_
      have e9 := hR1
      have hi9 := nI_ltI (by omega) (by decide) |>.mp c5
      rw [show sV (wV M (endE M n c i)) 2 n c i 3 (-1) = wV M (endE M n c (i + 1)) from wV_eq (by
        intro g9 n9 a9 b9 k9
        simp only [gV_sV, gV_wV, endE]
        repeat' split
        all_goals first | rfl | (exfalso; omega)) ⟨rfl, rfl, rfl⟩] at e9
      exact ih (12 - (i + 1)) (by omega) (i + 1) rfl (by omega) _ e9
/-- the leases are over -/
theorem s_endLeases (hR : Rep hp M) (hn : n < 2) (hc : c < 4) : WM L xs d mX0_endLeases [.ref (xi 1 n c 0)] hp (fun v hp' => v = none ∧ Rep hp' (wV M (endE M n c 12))) := by
  refine WM.of [some (.ref _), none] (by decide) rfl (Nat.le_of_ble_eq_true rfl) ?_
  refine wp_iconst (v := 0) dX0_endLeases_0 rfl ?_
  refine wp_istore_n (i := 1) dX0_endLeases_1 rfl (Nat.le_of_ble_eq_true rfl) ?_
  have e9 := hR
  rw [show M = wV M (endE M n c 0) from wV_eq (by
    intro g9 n9 a9 b9 k9
    simp only [endE]
    repeat' split
    all_goals first | rfl | (exfalso; omega)) ⟨rfl, rfl, rfl⟩] at e9
  exact w_endLeases_2 hn hc 12 0 rfl (by decide) _ e9
/-- the order of use, as a list of files -/
def Ord (M : MS) (n c : Nat) (l : List Nat) : Prop := gV M 1 n c 0 2 = nI l.length ∧ l.length ≤ 12 ∧ (∀ f, f ∈ l → f < 12) ∧ ∀ (k f : Nat), l[k]? = some f → gV M 3 n c 0 k = nI f
/-- where a file stands -/
def pOf (l : List Nat) (f : Nat) : Int32 := if f ∈ l then nI (l.idxOf f) else -1
theorem w_placeOf_2 (hR : Rep hp M) (hn : n < 2) (hc : c < 4) {l : List Nat} (hO : Ord M n c l) {f : Nat} (hf : f < 12) : ∀ (m i : Nat), l.length - i = m → i ≤ l.length → (∀ k, k < i → l[k]? ≠ some f) → WP L xs d mX0_placeOf 2 [some (.ref (xi 1 n c 0)), some (.int (nI f)), some (.int (nI i))] [] hp (fun v hp' => retOk mX0_placeOf.2.2.2 v ∧ hp' = hp ∧ v = some (.int (pOf l f))) := by
  intro m
  induction m using Nat.strongRecOn with
  | ind m ih =>
    intro i hm hi0 hno
    subst hm
    obtain ⟨o1, o2, o3, o4⟩ := id hO
    refine wp_iload_n (i := 2) dX0_placeOf_2 rfl rfl ?_
    refine wp_aload_n (i := 0) dX0_placeOf_3 rfl rfl ?_
    refine wr_get (g := 1) (n := n) (a := c) (b := 0) (k := 2) dX0_placeOf_4 hR f_X0_52 (vs1 hn hc (by decide)) (by decide) (by decide) ?_
    refine wp_icmp_ge (tgt := 28) dX0_placeOf_7 (by decide) (fun c7 => ?_) (fun c7 => ?_)
    · skip
      have hi12 : i = l.length := by
        rcases Nat.lt_or_ge i l.length with q | q
        · exact absurd (by rw [o1]; exact nI_lt q (by omega)) c7
        · omega
      refine wp_iconst (v := (-1)) dX0_placeOf_28 rfl ?_
      refine wp_ret (v := some (.int _)) dX0_placeOf_29 rfl ?_
      refine ⟨trivial, rfl, ?_⟩
      unfold pOf
      rw [if_neg]
      intro hm
      obtain ⟨k, hk⟩ := List.getElem?_of_mem hm
      exact hno k (by have := (List.getElem?_eq_some_iff.mp hk).1; omega) hk
    · skip
      have hil : i < l.length := by
        rw [o1] at c7
        exact (nI_ltI (by omega) (by omega)).mp c7
      have hget : l[i]? = some l[i] := List.getElem?_eq_getElem hil
      have hi : i < 12 := by omega
      refine wp_aload_n (i := 0) dX0_placeOf_10 rfl rfl ?_
      refine wr_cliR (j := xi 3 n c 0) dX0_placeOf_11 hR f_X0_17 hn hc (Or.inr (Or.inl ⟨rfl, rfl⟩)) ?_
      refine wp_iload_n (i := 2) dX0_placeOf_14 rfl rfl ?_
      refine wr_ordG (k := i) dX0_placeOf_15 hR rfl (vs3 hn hc hi) ?_
      refine wp_iload_n (i := 1) dX0_placeOf_16 rfl rfl ?_
      refine wp_icmp_ne (tgt := 22) dX0_placeOf_17 (by decide) (fun c17 => ?_) (fun c17 => ?_)
      · skip
        refine wp_iinc (v := nI (i + 1)) dX0_placeOf_22 rfl (nI_1 _) ?_
        refine wp_goto (tgt := 2) dX0_placeOf_25 (by decide) ?_
        rw [o4 i l[i] hget] at c17
        exact ih (l.length - (i + 1)) (by omega) (i + 1) rfl (by omega) (fun k hk => by
          rcases Nat.lt_or_ge k i with q | q
          · exact hno k q
          · have hki : k = i := by omega
            subst hki
            rw [hget]
            intro q
            exact c17 (congrArg nI (Option.some.inj q)))
      · skip
        refine wp_iload_n (i := 2) dX0_placeOf_20 rfl rfl ?_
        refine wp_ret (v := some (.int _)) dX0_placeOf_21 rfl ?_
        refine ⟨trivial, rfl, ?_⟩
        rw [o4 i l[i] hget] at c17
        have e9 : l[i] = f := (nI_eq (by have := o3 l[i] (List.getElem_mem hil); omega) (by omega)).mp c17
        have hmem : f ∈ l := by rw [← e9]; exact List.getElem_mem hil
        unfold pOf
        rw [if_pos hmem]
        have hidx : l.idxOf f = i := by
          have h1 : l.idxOf f < l.length := List.idxOf_lt_length_iff.mpr hmem
          have h2 : l[l.idxOf f] = f := List.getElem_idxOf h1
          rcases Nat.lt_trichotomy (l.idxOf f) i with q | q | q
          · exact absurd ((List.getElem?_eq_getElem h1).trans (congrArg some h2)) (hno _ q)
          · exact q
          · have h3 := List.not_of_lt_findIdx (p := fun x => x == f) (xs := l) (i := i) q
            simp [e9] at h3
        rw [hidx]
/-- where a file stands in the order -/
theorem s_placeOf (hR : Rep hp M) (hn : n < 2) (hc : c < 4) {l : List Nat} (hO : Ord M n c l) {f : Nat} (hf : f < 12) : WM L xs d mX0_placeOf [.ref (xi 1 n c 0), .int (nI f)] hp (fun v hp' => hp' = hp ∧ v = some (.int (pOf l f))) := by
  refine WM.of [some (.ref _), some (.int (nI f)), none] (by decide) rfl (Nat.le_of_ble_eq_true rfl) ?_
  refine wp_iconst (v := 0) dX0_placeOf_0 rfl ?_
  refine wp_istore_n (i := 2) dX0_placeOf_1 rfl (Nat.le_of_ble_eq_true rfl) ?_
  exact w_placeOf_2 hR hn hc hO hf l.length 0 rfl (Nat.zero_le _) (fun k hk => absurd hk (Nat.not_lt_zero k))
end CLIENT
