/-! ===== Client, IV: room is made ===== -/
/-- a client as it should be: what it has stands in its order, once each; what is dirty it has -/
def CI (M : MS) (n c : Nat) (l : List Nat) : Prop := Ord M n c l ∧ l.Nodup ∧ l.length ≤ 6 ∧ (∀ f, f < 12 → (¬ gV M 2 n c f 0 = 0 ↔ f ∈ l)) ∧ (∀ f, f < 12 → ¬ gV M 2 n c f 4 = 0 → f ∈ l)
/-- l' is what is left of l when z went, all of it clean -/
def Left (M : MS) (n c : Nat) (l l' z : List Nat) : Prop := (∀ f, f ∈ l' ↔ f ∈ l ∧ f ∉ z) ∧ (∀ f, f ∈ z → f ∈ l ∧ gV M 2 n c f 4 = 0) ∧ l'.Nodup ∧ l'.length ≤ l.length
section CLIENT4
variable {L : Nat} {xs : Nat → Int32} {d : Nat} {hp : AH} {M : MS} {n c : Nat} {Q : Option Value → AH → Prop}
theorem Left.erase {l l' z : List Nat} {f : Nat} (h : Left M n c l l' z) (hf : f ∈ l') (hd : gV M 2 n c f 4 = 0) : Left M n c l (l'.erase f) (f :: z) := by
  obtain ⟨h1, h2, h3, h4⟩ := h
  refine ⟨fun g => ?_, fun g hg => ?_, h3.erase f, by rw [List.length_erase_of_mem hf]; omega⟩
  · rw [h3.mem_erase_iff, h1, List.mem_cons]
    constructor
    · rintro ⟨a, b, c⟩; exact ⟨b, fun q => q.elim a c⟩
    · rintro ⟨a, b⟩; exact ⟨fun q => b (Or.inl q), a, fun q => b (Or.inr q)⟩
  · rcases List.mem_cons.mp hg with rfl | hg
    · exact ⟨((h1 g).mp hf).1, hd⟩
    · exact h2 g hg
theorem w_mr_49 (hn : n < 2) (hc : c < 4) {r : Nat} (hr : r < 2 ^ 31) {l l' z : List Nat} {F : Nat → Int32} {x2 x3 : Option Value} (hl : l'.length ≤ 12) (hR : Rep hp (cO M n c (nI l'.length) F z)) (hF : Lst F l') (hL : Left M n c l l' z) :
    WP L xs d mX0_makesRoom 49 [some (.ref (xi 1 n c 0)), some (.int (nI r)), x2, x3] [] hp (fun v hp' => retOk mX0_makesRoom.2.2.2 v ∧ ∃ l' F z, Rep hp' (cO M n c (nI l'.length) F z) ∧ Lst F l' ∧ Left M n c l l' z ∧ v = some (.int (bI (l'.length < r)))) := by
  refine wp_aload_n (i := 0) dX0_makesRoom_49 rfl rfl ?_
  refine wr_get (g := 1) (n := n) (a := c) (b := 0) (k := 2) dX0_makesRoom_50 hR f_X0_52 (vs1 hn hc (by decide)) (by decide) (by decide) ?_
  refine wp_iload_n (i := 1) dX0_makesRoom_53 rfl rfl ?_
  refine wp_icmp_ge (tgt := 61) dX0_makesRoom_54 (by decide) (fun c54 => ?_) (fun c54 => ?_)
  · skip
    refine wp_iconst (v := 0) dX0_makesRoom_61 rfl ?_
    refine wp_ret (v := some (.int _)) dX0_makesRoom_62 rfl ?_
    rw [cO_cnt, nI_ltI (by omega) hr] at c54
    refine ⟨by first | exact Or.inl rfl | exact Or.inr rfl, l', F, z, hR, hF, hL, ?_⟩
    first | rw [bI_t c54] | rw [bI_f c54]
  · skip
    refine wp_iconst (v := 1) dX0_makesRoom_57 rfl ?_
    refine wp_goto (tgt := 62) dX0_makesRoom_58 (by decide) ?_
    refine wp_ret (v := some (.int _)) dX0_makesRoom_62 rfl ?_
    rw [cO_cnt, nI_ltI (by omega) hr] at c54
    refine ⟨by first | exact Or.inl rfl | exact Or.inr rfl, l', F, z, hR, hF, hL, ?_⟩
    first | rw [bI_t c54] | rw [bI_f c54]
theorem w_mr_7 (hn : n < 2) (hc : c < 4) {r : Nat} (hr : r < 2 ^ 31) {l : List Nat} (hl : l.length ≤ 12) (hl12 : ∀ f, f ∈ l → f < 12) : ∀ (j : Nat) (l' z : List Nat) (F : Nat → Int32) (hp : AH), j ≤ l'.length → Rep hp (cO M n c (nI l'.length) F z) → Lst F l' → Left M n c l l' z →
    WP L xs (d + 2) mX0_makesRoom 7 [some (.ref (xi 1 n c 0)), some (.int (nI r)), some (.int (nI j - 1)), none] [] hp (fun v hp' => retOk mX0_makesRoom.2.2.2 v ∧ ∃ l' F z, Rep hp' (cO M n c (nI l'.length) F z) ∧ Lst F l' ∧ Left M n c l l' z ∧ v = some (.int (bI (l'.length < r)))) := by
  intro j
  induction j with
  | zero =>
    intro l' z F hp hj hR hF hL
    refine wp_iload_n (i := 2) dX0_makesRoom_7 rfl rfl ?_
    refine wp_if_lt (tgt := 49) dX0_makesRoom_8 (by decide) (fun c8 => ?_) (fun c8 => absurd (by decide) c8)
    exact w_mr_49 hn hc hr (Nat.le_trans hL.2.2.2 hl) hR hF hL
  | succ i ih =>
    intro l' z F hp hj hR hF hL
    have hl' : l'.length ≤ 12 := Nat.le_trans hL.2.2.2 hl
    have hget : l'[i]? = some l'[i] := List.getElem?_eq_getElem hj
    have hmem : l'[i] ∈ l' := List.getElem_mem hj
    have hf9 : l'[i] < 12 := hl12 _ ((hL.1 _).mp hmem).1
    have hz9 : l'[i] ∉ z := ((hL.1 _).mp hmem).2
    have hO := Ord.of_cO (M := M) (n := n) (c := c) (z := z) hl' (fun f h => hl12 f ((hL.1 f).mp h).1) hF
    rw [nI_pred]
    refine wp_iload_n (i := 2) dX0_makesRoom_7 rfl rfl ?_
    refine wp_if_lt (tgt := 49) dX0_makesRoom_8 (by decide) (fun c8 => ?_) (fun c8 => ?_)
    · skip
      exact absurd c8 (nI_pos (by omega))
    · skip
      refine wp_aload_n (i := 0) dX0_makesRoom_11 rfl rfl ?_
      refine wr_get (g := 1) (n := n) (a := c) (b := 0) (k := 2) dX0_makesRoom_12 hR f_X0_52 (vs1 hn hc (by decide)) (by decide) (by decide) ?_
      refine wp_iload_n (i := 1) dX0_makesRoom_15 rfl rfl ?_
      refine wp_icmp_lt (tgt := 49) dX0_makesRoom_16 (by decide) (fun c16 => ?_) (fun c16 => ?_)
      · skip
        exact w_mr_49 hn hc hr hl' hR hF hL
      · skip
        refine wp_aload_n (i := 0) dX0_makesRoom_19 rfl rfl ?_
        refine wr_cliR (j := xi 3 n c 0) dX0_makesRoom_20 hR f_X0_17 hn hc (Or.inr (Or.inl ⟨rfl, rfl⟩)) ?_
        refine wp_iload_n (i := 2) dX0_makesRoom_23 rfl rfl ?_
        refine wr_ordG (k := i) dX0_makesRoom_24 hR rfl (vs3 hn hc (by omega)) ?_
        rw [cO_ord, hF i _ hget]
        refine wp_istore_n (i := 3) dX0_makesRoom_25 rfl (Nat.le_of_ble_eq_true rfl) ?_
        refine wp_aload_n (i := 0) dX0_makesRoom_26 rfl rfl ?_
        refine wr_cliR (j := rF n c) dX0_makesRoom_27 hR f_X0_11 hn hc (Or.inl ⟨rfl, rfl⟩) ?_
        refine wp_iload_n (i := 3) dX0_makesRoom_30 rfl rfl ?_
        refine wr_aF (f := l'[i]) dX0_makesRoom_31 hR rfl hn hc hf9 ?_
        refine wr_get (g := 2) (n := n) (a := c) (b := l'[i]) (k := 4) dX0_makesRoom_32 hR f_X0_58 (vs2 hn hc hf9 (by decide)) (by decide) (by decide) ?_
        refine wp_if_ne (tgt := 43) dX0_makesRoom_35 (by decide) (fun c35 => ?_) (fun c35 => ?_)
        · skip
          refine wp_iinc (v := nI i - 1) dX0_makesRoom_43 rfl (nI_dec _) ?_
          refine wp_goto (tgt := 7) dX0_makesRoom_46 (by decide) ?_
          refine WP.less (ls' := [some (.ref (xi 1 n c 0)), some (.int (nI r)), some (.int (nI i - 1)), none]) ?_ rfl (fun k v h => by
            match k, h with
            | 0, h => exact h
            | 1, h => exact h
            | 2, h => exact h
            | 3, h => cases h
            | k + 4, h => simp at h)
          exact ih l' z F _ (by omega) hR hF hL
        · skip
          refine wp_aload_n (i := 0) dX0_makesRoom_38 rfl rfl ?_
          refine wp_iload_n (i := 3) dX0_makesRoom_39 rfl rfl ?_
          rw [cO_he _ _ _ _ _ _ _ _ (Or.inr ⟨by decide, by decide⟩)] at c35
          refine wp_callV (N := mX0_letGo) dX0_makesRoom_40 l_X0_72 v_X0_letGo rfl (hR.oo (vs1 hn hc (k := 2) (by decide)) (by decide)) rfl (by decide) (s_letGo hR hn hc hO hf9) (fun v hp1 hq => ?_)
          obtain ⟨rfl, hq⟩ := hq
          obtain ⟨-, F2, hR2, hF2⟩ := hq.resolve_right (fun q => q.1 hmem)
          rw [cO_cO] at hR2
          refine wp_iinc (v := nI i - 1) dX0_makesRoom_43 rfl (nI_dec _) ?_
          refine wp_goto (tgt := 7) dX0_makesRoom_46 (by decide) ?_
          refine WP.less (ls' := [some (.ref (xi 1 n c 0)), some (.int (nI r)), some (.int (nI i - 1)), none]) ?_ rfl (fun k v h => by
            match k, h with
            | 0, h => exact h
            | 1, h => exact h
            | 2, h => exact h
            | 3, h => cases h
            | k + 4, h => simp at h)
          exact ih (l'.erase l'[i]) (l'[i] :: z) F2 _ (by rw [List.length_erase_of_mem hmem]; omega) hR2 hF2 (hL.erase hmem c35)
/-- room is made: clean files go, the one used the longest time ago first -/
theorem s_makesRoom (hR : Rep hp M) (hn : n < 2) (hc : c < 4) {l : List Nat} (hI : CI M n c l) {r : Nat} (hr : r < 2 ^ 31) : WM L xs (d + 2) mX0_makesRoom [.ref (xi 1 n c 0), .int (nI r)] hp (fun v hp' => ∃ l' F z, Rep hp' (cO M n c (nI l'.length) F z) ∧ Lst F l' ∧ Left M n c l l' z ∧ v = some (.int (bI (l'.length < r)))) := by
  refine WM.of [some (.ref _), some (.int (nI r)), none, none] (by decide) rfl (Nat.le_of_ble_eq_true rfl) ?_
  refine wp_aload_n (i := 0) dX0_makesRoom_0 rfl rfl ?_
  refine wr_get (g := 1) (n := n) (a := c) (b := 0) (k := 2) dX0_makesRoom_1 hR f_X0_52 (vs1 hn hc (by decide)) (by decide) (by decide) ?_
  refine wp_iconst (v := 1) dX0_makesRoom_4 rfl ?_
  refine wp_isub dX0_makesRoom_5 ?_
  refine wp_istore_n (i := 2) dX0_makesRoom_6 rfl (Nat.le_of_ble_eq_true rfl) ?_
  rw [hI.1.1]
  have hR0 := hI.1.id hR
  exact w_mr_7 hn hc hr hI.1.2.1 hI.1.2.2.1 l.length l [] _ _ (Nat.le_refl _) hR0 (fun k q h => hI.1.2.2.2 k q h) ⟨fun f => ⟨fun h => ⟨h, List.not_mem_nil⟩, fun h => h.1⟩, fun f h => absurd h List.not_mem_nil, hI.2.1, Nat.le_refl _⟩
end CLIENT4
