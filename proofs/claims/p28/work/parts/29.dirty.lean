/-! ===== Net: what is dirty is sent ===== -/
theorem FR_oc {M M' : MS} {n c : Nat} (h : OC M M' n c) (h7 : gV M' 1 n c 0 7 = gV M 1 n c 0 7) (h8 : gV M' 1 n c 0 8 = gV M 1 n c 0 8) (h9 : vN (gV M 1 n c 0 9) ≤ vN (gV M' 1 n c 0 9)) : FR M M' n := ⟨h.g0, h.fc h7 h8 h9, h.fv⟩
/-- a step; what comes now stays -/
def MR (M M' : MS) (n clk : Nat) : Prop := FR M M' n ∧ gT M' 2 n (clk % 9) = gT M 2 n (clk % 9)
theorem MR.rfl' (M : MS) (n clk : Nat) : MR M M n clk := ⟨FR.rfl' M n, rfl⟩
theorem MR.trans {M M' M'' : MS} {n clk : Nat} (h : MR M M' n clk) (h' : MR M' M'' n clk) : MR M M'' n clk := ⟨h.1.trans h'.1, h'.2.trans h.2⟩
theorem MR_snd (M : MS) {n clk k : Nat} (hk : k ≠ clk % 9) (q : Row) : MR M (snd M n k q) n clk := ⟨FR_snd M n k q, by rw [snd_T, ap_ne (fun q => hk q.symm)]⟩
theorem MR_oc {M M' : MS} {n c clk : Nat} (h : OC M M' n c) (h7 : gV M' 1 n c 0 7 = gV M 1 n c 0 7) (h8 : gV M' 1 n c 0 8 = gV M 1 n c 0 8) (h9 : vN (gV M 1 n c 0 9) ≤ vN (gV M' 1 n c 0 9)) : MR M M' n clk := ⟨FR_oc h h7 h8 h9, (h.2.1 2 n _ (by omega)).1⟩
theorem MR_sv2 (M : MS) (n c f k clk : Nat) (v : Int32) : MR M (sV M 2 n c f k v) n clk := MR_oc (OC.sv M n c f k v) (sV_ne (by omega)) (sV_ne (by omega)) (by rw [sV_ne (by omega)]; exact Nat.le_refl _)
section DIRTY
variable {L : Nat} {xs : Nat → Int32} {d : Nat} {hp : AH} {M : MS} {zB tB n clk cc K : Nat} {D : Nat → Nat} {ev : Bool} {r j s : Nat} {e : Nat → Nat} {c f : Nat}
/-- the line is mended -/
theorem ST.mend {hp' : AH} {M1 M2 : MS} (h : ST hp M zB tB n clk cc K D ev r j s e) (hc : c < cc) (e1 : M1 = sV M 1 n c 0 6 0) (e2 : M2 = wV M1 (endE M1 n c 12)) (hR : Rep hp' M2) : ST hp' M2 zB tB n clk cc K D ev r j s e ∧ MR M M2 n clk ∧ gV M2 1 n c 0 6 = 0 := by
  obtain ⟨l, hI⟩ := (h.cj hc).1
  have hC := h.cj hc
  have hx : ∀ g n' a b k', gV M2 g n' a b k' = if g = 2 ∧ n' = n ∧ a = c ∧ b < 12 ∧ k' = 3 then -1 else if g = 1 ∧ n' = n ∧ a = c ∧ b = 0 ∧ k' = 6 then 0 else gV M g n' a b k' := by
    intro g n' a b k'
    subst e2; subst e1
    rfl
  have hy : ∀ g n' a b k', k' ≠ 3 → k' ≠ 6 → gV M2 g n' a b k' = gV M g n' a b k' := fun g n' a b k' q1 q2 => by rw [hx, if_neg (by omega), if_neg (by omega)]
  have hO : OC M M2 n c := ⟨fun g n' a b k q => by rw [hx, if_neg (by omega), if_neg (by omega)], fun _ _ _ _ => by subst e2; subst e1; exact ⟨rfl, rfl⟩, fun _ => by subst e2; subst e1; rfl⟩
  have h6 : gV M2 1 n c 0 6 = 0 := by rw [hx, if_neg (by omega), if_pos ⟨rfl, rfl, rfl, rfl, rfl⟩]
  have hT : gT M2 0 n c = gT M 0 n c := by subst e2; subst e1; rfl
  refine ⟨⟨hR, h.2.1.of (by subst e2; subst e1; rfl) (by subst e2; subst e1; rfl) (fun _ _ _ => by subst e2; subst e1; rfl), h.2.2.1.client hO (hC.of hO ⟨l, hI.of (hy _ _ _ _ _ (by decide) (by decide)) (fun k => by rw [hx, if_neg (by omega), if_neg (by omega)]) (fun _ => ⟨hy _ _ _ _ _ (by decide) (by decide), hy _ _ _ _ _ (by decide) (by decide)⟩)⟩ (hy _ _ _ _ _ (by decide) (by decide)) (fun q => absurd h6 q) (by rw [hT]; exact hC.2.2.2.2.1) (fun f' hf' => ?_) (fun q => ⟨h6, ?_⟩)), hO.bj h.2.2.2 (hy _ _ _ _ _ (by decide) (by decide)) ?_⟩, MR_oc hO (hy _ _ _ _ _ (by decide) (by decide)) (hy _ _ _ _ _ (by decide) (by decide)) (by rw [hy _ _ _ _ _ (by decide) (by decide)]; exact Nat.le_refl _), h6⟩
  · rw [hy _ _ _ _ _ (by decide) (by decide), hy _ _ _ _ _ (by decide) (by decide)]; exact hC.2.2.2.2.2.1 f' hf'
  · rw [hy _ _ _ _ _ (by decide) (by decide)]; exact (hC.2.2.2.2.2.2 q).2
  · rw [FL_eq (M := M) (M' := M2) (fun c' f' _ _ => ⟨by rw [hx, if_neg (by omega), if_neg (by omega)], hy _ _ _ _ _ (by decide) (by decide)⟩)]
    exact Nat.le_refl _
/-- what has been sent: different files, all dirty -/
def Sn (M : MS) (n c : Nat) (z : List Nat) (i : Nat) : Prop := z.length = i ∧ z.Nodup ∧ ∀ g, g ∈ z → g < 12 ∧ ¬ gV M 2 n c g 4 = 0 ∧ ¬ gV M 2 n c g 7 = 0
theorem Sn.step {z : List Nat} {i k : Nat} {q : Row} (h : Sn M n c z i) (hf : f < 12) (h4 : ¬ gV M 2 n c f 4 = 0) (h7 : gV M 2 n c f 7 = 0) : Sn (snd (sV M 2 n c f 7 1) n k q) n c (f :: z) (i + 1) := by
  obtain ⟨a1, a2, a3⟩ := h
  refine ⟨by rw [List.length_cons, a1], List.nodup_cons.mpr ⟨fun hm => (a3 f hm).2.2 h7, a2⟩, fun g hg => ?_⟩
  rw [snd_V, snd_V, sV_ne (by omega)]
  rcases List.mem_cons.mp hg with rfl | hm
  · rw [sV_self]; exact ⟨hf, h4, by decide⟩
  · obtain ⟨b1, b2, b3⟩ := a3 g hm
    by_cases e9 : g = f
    · subst e9; rw [sV_self]; exact ⟨b1, b2, by decide⟩
    · rw [sV_ne (by omega)]; exact ⟨b1, b2, b3⟩
theorem Sn.le {z l : List Nat} {i : Nat} (h : Sn M n c z i) (hI : CI M n c l) : i ≤ l.length := by
  rw [← h.1]
  exact nodup_sub h.2.1 (fun g hg => hI.2.2.2.2 g (h.2.2 g hg).1 (h.2.2 g hg).2.1)
/-- how many stores -/
def Mnd (M0 M' : MS) (n clk c : Nat) (v : Option Value) : Prop := MR M0 M' n clk ∧ gV M' 1 n c 0 6 = 0 ∧ ∃ m, v = some (.int (nI m)) ∧ m ≤ 12 ∧ ∀ l, CI M' n c l → m ≤ l.length
theorem w_mend_30 (hn : n < 2) (hc : c < cc) (hc4 : c < 4) {M0 : MS} : ∀ (m i : Nat), 12 - i = m → i ≤ 12 → ∀ (hp : AH) (M : MS), ST hp M zB tB n clk cc K D ev 0 0 0 (fun _ => 0) → MR M0 M n clk → gV M 1 n c 0 6 = 0 → (∃ z, Sn M n c z i) → ∀ (l5 : Option Value), WP L xs (d + 4) mX2_mendLine 30 [some (.ref (xi 0 n 0 0)), some (.int (nI c)), some (.ref (xi 1 n c 0)), some (.int (nI i)), some (.int (nI i)), l5] [] hp (fun v hp' => retOk mX2_mendLine.2.2.2 v ∧ ∃ M', ST hp' M' zB tB n clk cc K D ev 0 0 0 (fun _ => 0) ∧ Mnd M0 M' n clk c v) := by
  intro m
  induction m using Nat.strongRecOn with
  | ind m ih =>
    intro i hm hi0 hp M h hM h6 hz l5
    obtain ⟨z, hz⟩ := hz
    subst hm
    refine wp_iload dX2_mendLine_30 rfl ?_
    refine wp_bipush (v := nI 12) dX2_mendLine_32 (by decide) ?_
    refine wp_icmp_ge (tgt := 68) dX2_mendLine_34 (by decide) (fun c34 => ?_) (fun c34 => ?_)
    · skip
      refine wp_iload_n (i := 3) dX2_mendLine_68 rfl rfl ?_
      refine wp_ret (v := some (.int _)) dX2_mendLine_69 rfl ?_
      exact ⟨trivial, M, h, hM, h6, i, rfl, hi0, fun l hI => hz.le hI⟩
    · skip
      refine wp_aload_n (i := 2) dX2_mendLine_37 rfl rfl ?_
      refine wp_callV (N := mX0_longestDirty) (as := []) dX2_mendLine_38 l_X2_124 v_X0_longestDirty rfl (h.1.oo (vs1 hn hc4 (k := 2) (by decide)) (by decide)) rfl (by decide) (s_longest h.1 hn hc4) (fun v hp9 hq => ?_)
      obtain ⟨rfl, rr, rfl, hfd⟩ := hq
      refine wp_istore dX2_mendLine_41 (Nat.le_of_ble_eq_true rfl) ?_
      refine wp_iload dX2_mendLine_43 rfl ?_
      refine wp_iconst (v := (-1)) dX2_mendLine_45 rfl ?_
      refine wp_icmp_ne (tgt := 52) dX2_mendLine_46 (by decide) (fun c46 => ?_) (fun c46 => ?_)
      · skip
        refine wp_aload_n (i := 0) dX2_mendLine_52 rfl rfl ?_
        refine wp_iload_n (i := 1) dX2_mendLine_53 rfl rfl ?_
        refine wp_iload dX2_mendLine_54 rfl ?_
        rcases hfd with ⟨e9, -⟩ | ⟨f, hf, rfl, hdn⟩
        · exact absurd e9 c46
        refine wp_callV (N := mX2_sendStore) (as := [.int (nI c), .int (nI f)]) dX2_mendLine_56 l_X2_127 v_X2_sendStore rfl (h.1.oo (vs0 hn (k := 0) (by decide)) (by decide)) rfl (by decide) (s_sendStore h hn (Nat.zero_le _) hc hf h6 hdn.2) (fun v hp8 hq => ?_)
        obtain ⟨rfl, k, q, hk, hS2⟩ := hq
        refine wp_iinc (v := nI (i + 1)) dX2_mendLine_59 rfl (nI_1 _) ?_
        refine wp_iinc (v := nI (i + 1)) dX2_mendLine_62 rfl (nI_1 _) ?_
        refine wp_goto (tgt := 30) dX2_mendLine_65 (by decide) ?_
        have hi12 : i < 12 := (nI_ltI (by omega) (by decide)).mp c34
        exact ih (12 - (i + 1)) (by omega) (i + 1) rfl (by omega) _ _ hS2 ((hM.trans (MR_sv2 _ _ _ _ _ _ _)).trans (MR_snd _ hk q)) (by rw [snd_V, sV_ne (by omega)]; exact h6) ⟨_, hz.step hf hdn.1 hdn.2⟩ _
      · skip
        refine wp_goto (tgt := 68) dX2_mendLine_49 (by decide) ?_
        refine wp_iload_n (i := 3) dX2_mendLine_68 rfl rfl ?_
        refine wp_ret (v := some (.int _)) dX2_mendLine_69 rfl ?_
        exact ⟨trivial, M, h, hM, h6, i, rfl, hi0, fun l hI => hz.le hI⟩
/-- the line is mended, and what is dirty sent -/
theorem s_mendLine (h : ST hp M zB tB n clk cc K D ev 0 0 0 (fun _ => 0)) (hn : n < 2) (hc : c < cc) : WM L xs (d + 4) mX2_mendLine [.ref (xi 0 n 0 0), .int (nI c)] hp (fun v hp' => ∃ M', ST hp' M' zB tB n clk cc K D ev 0 0 0 (fun _ => 0) ∧ Mnd M M' n clk c v) := by
  have hc4 := h.lt hc
  refine WM.of [some (.ref _), some (.int (nI c)), none, none, none, none] (by decide) rfl (Nat.le_of_ble_eq_true rfl) ?_
  refine wp_aload_n (i := 0) dX2_mendLine_0 rfl rfl ?_
  refine wr_netR (j := rC n) dX2_mendLine_1 h.1 f_X2_23 hn (Or.inl ⟨rfl, rfl⟩) ?_
  refine wp_iload_n (i := 1) dX2_mendLine_4 rfl rfl ?_
  refine wr_aC (c := c) dX2_mendLine_5 h.1 rfl hn hc4 ?_
  refine wp_astore_n (i := 2) dX2_mendLine_6 rfl (Nat.le_of_ble_eq_true rfl) ?_
  refine wp_aload_n (i := 2) dX2_mendLine_7 rfl rfl ?_
  refine wr_get (g := 1) (n := n) (a := c) (b := 0) (k := 6) dX2_mendLine_8 h.1 f_X2_82 (vs1 hn hc4 (by decide)) (by decide) (by decide) ?_
  refine wp_if_ne (tgt := 16) dX2_mendLine_11 (by decide) (fun c11 => ?_) (fun c11 => ?_)
  · skip
    refine wp_aload_n (i := 2) dX2_mendLine_16 rfl rfl ?_
    refine wp_iconst (v := 0) dX2_mendLine_17 rfl ?_
    refine wr_put (g := 1) (n := n) (a := c) (b := 0) (k := 6) dX2_mendLine_18 h.1 (p_X2_82 rfl) (vs1 hn hc4 (by decide)) (by decide) (by decide) (okB rfl (by decide)) (fun hp2 hR1 => ?_)
    refine wp_aload_n (i := 2) dX2_mendLine_21 rfl rfl ?_
    refine wp_callV (N := mX0_endLeases) (as := []) dX2_mendLine_22 l_X2_121 v_X0_endLeases rfl (hR1.oo (vs1 hn hc4 (k := 2) (by decide)) (by decide)) rfl (by decide) (s_endLeases hR1 hn hc4) (fun v hp8 hq => ?_)
    obtain ⟨rfl, hR8⟩ := hq
    obtain ⟨hS8, hM8, h68⟩ := h.mend hc rfl rfl hR8
    refine wp_iconst (v := 0) dX2_mendLine_25 rfl ?_
    refine wp_istore_n (i := 3) dX2_mendLine_26 rfl (Nat.le_of_ble_eq_true rfl) ?_
    refine wp_iconst (v := 0) dX2_mendLine_27 rfl ?_
    refine wp_istore dX2_mendLine_28 (Nat.le_of_ble_eq_true rfl) ?_
    exact w_mend_30 hn hc hc4 12 0 rfl (by decide) _ _ hS8 hM8 h68 ⟨[], rfl, List.nodup_nil, fun g hg => absurd hg List.not_mem_nil⟩ _
  · skip
    refine wp_iconst (v := 0) dX2_mendLine_14 rfl ?_
    refine wp_ret (v := some (.int _)) dX2_mendLine_15 rfl ?_
    exact ⟨trivial, M, h, MR.rfl' _ _ _, c11, 0, rfl, by decide, fun l _ => Nat.zero_le _⟩
/-- what has been sent: different files, all dirty, all before i -/
def Sd (M : MS) (n c : Nat) (z : List Nat) (m i : Nat) : Prop := z.length = m ∧ z.Nodup ∧ ∀ g, g ∈ z → g < i ∧ ¬ gV M 2 n c g 4 = 0
theorem Sd.up {z : List Nat} {m i : Nat} (h : Sd M n c z m i) : Sd M n c z m (i + 1) := ⟨h.1, h.2.1, fun g hg => ⟨by have := (h.2.2 g hg).1; omega, (h.2.2 g hg).2⟩⟩
theorem Sd.step {z : List Nat} {m i k : Nat} {q : Row} (h : Sd M n c z m i) (h4 : ¬ gV M 2 n c i 4 = 0) : Sd (snd (sV M 2 n c i 7 1) n k q) n c (i :: z) (m + 1) (i + 1) := by
  obtain ⟨a1, a2, a3⟩ := h
  refine ⟨by rw [List.length_cons, a1], List.nodup_cons.mpr ⟨fun hm => Nat.lt_irrefl _ (a3 i hm).1, a2⟩, fun g hg => ?_⟩
  rw [snd_V, sV_ne (by omega)]
  rcases List.mem_cons.mp hg with rfl | hm
  · exact ⟨Nat.lt_succ_self _, h4⟩
  · have := a3 g hm; exact ⟨by omega, this.2⟩
theorem Sd.le {z l : List Nat} {m i : Nat} (h : Sd M n c z m i) (hi : i ≤ 12) (hI : CI M n c l) : m ≤ l.length := by
  rw [← h.1]
  exact nodup_sub h.2.1 (fun g hg => hI.2.2.2.2 g (by have := (h.2.2 g hg).1; omega) (h.2.2 g hg).2)
/-- how many stores -/
def Snt (M0 M' : MS) (n clk c : Nat) (v : Option Value) : Prop := MR M0 M' n clk ∧ ∃ m, v = some (.int (nI m)) ∧ m ≤ 12 ∧ ∀ l, CI M' n c l → m ≤ l.length
theorem w_sdirty_22 (hn : n < 2) (hc : c < cc) (hc4 : c < 4) {M0 : MS} (x : Int32) : ∀ (m i : Nat), 12 - i = m → i ≤ 12 → ∀ (p : Nat) (hp : AH) (M : MS), p ≤ i → ST hp M zB tB n clk cc K D ev 0 0 0 (fun _ => 0) → MR M0 M n clk → gV M 1 n c 0 6 = 0 → (∃ z, Sd M n c z p i) → ∀ (l6 : Option Value), WP L xs (d + 4) mX2_sendDirty 22 [some (.ref (xi 0 n 0 0)), some (.int (nI c)), some (.int x), some (.ref (xi 1 n c 0)), some (.int (nI p)), some (.int (nI i)), l6] [] hp (fun v hp' => retOk mX2_sendDirty.2.2.2 v ∧ ∃ M', ST hp' M' zB tB n clk cc K D ev 0 0 0 (fun _ => 0) ∧ Snt M0 M' n clk c v) := by
  intro m
  induction m using Nat.strongRecOn with
  | ind m ih =>
    intro i hm hi0 p hp M hpi h hM h6 hz l6
    obtain ⟨z, hz⟩ := hz
    subst hm
    refine wp_iload dX2_sendDirty_22 rfl ?_
    refine wp_bipush (v := nI 12) dX2_sendDirty_24 (by decide) ?_
    refine wp_icmp_ge (tgt := 84) dX2_sendDirty_26 (by decide) (fun c26 => ?_) (fun c26 => ?_)
    · skip
      refine wp_iload dX2_sendDirty_84 rfl ?_
      refine wp_ret (v := some (.int _)) dX2_sendDirty_86 rfl ?_
      exact ⟨trivial, M, h, hM, p, rfl, by omega, fun l hI => hz.le hi0 hI⟩
    · skip
      have hi12 : i < 12 := (nI_ltI (by omega) (by decide)).mp c26
      refine wp_aload_n (i := 3) dX2_sendDirty_29 rfl rfl ?_
      refine wr_cliR (j := rF n c) dX2_sendDirty_30 h.1 f_X2_86 hn hc4 (Or.inl ⟨rfl, rfl⟩) ?_
      refine wp_iload dX2_sendDirty_33 rfl ?_
      refine wr_aF (f := i) dX2_sendDirty_35 h.1 rfl hn hc4 hi12 ?_
      refine wp_astore dX2_sendDirty_36 (Nat.le_of_ble_eq_true rfl) ?_
      refine wp_aload dX2_sendDirty_38 rfl ?_
      refine wr_get (g := 2) (n := n) (a := c) (b := i) (k := 4) dX2_sendDirty_40 h.1 f_X2_131 (vs2 hn hc4 hi12 (by decide)) (by decide) (by decide) ?_
      refine wp_if_eq (tgt := 78) dX2_sendDirty_43 (by decide) (fun c43 => ?_) (fun c43 => ?_)
      · skip
        refine wp_iinc (v := nI (i + 1)) dX2_sendDirty_78 rfl (nI_1 _) ?_
        refine wp_goto (tgt := 22) dX2_sendDirty_81 (by decide) ?_
        exact ih (12 - (i + 1)) (by omega) (i + 1) rfl (by omega) p _ _ (by omega) h hM h6 ⟨_, hz.up⟩ _
      · skip
        refine wp_aload dX2_sendDirty_46 rfl ?_
        refine wr_get (g := 2) (n := n) (a := c) (b := i) (k := 7) dX2_sendDirty_48 h.1 f_X2_90 (vs2 hn hc4 hi12 (by decide)) (by decide) (by decide) ?_
        refine wp_if_ne (tgt := 78) dX2_sendDirty_51 (by decide) (fun c51 => ?_) (fun c51 => ?_)
        · skip
          refine wp_iinc (v := nI (i + 1)) dX2_sendDirty_78 rfl (nI_1 _) ?_
          refine wp_goto (tgt := 22) dX2_sendDirty_81 (by decide) ?_
          exact ih (12 - (i + 1)) (by omega) (i + 1) rfl (by omega) p _ _ (by omega) h hM h6 ⟨_, hz.up⟩ _
        · skip
          refine wp_aload_n (i := 0) dX2_sendDirty_54 rfl rfl ?_
          refine wr_get (g := 0) (n := n) (a := 0) (b := 0) (k := 0) dX2_sendDirty_55 h.1 f_X2_62 (vs0 hn (by decide)) (by decide) (by decide) ?_
          refine wp_aload dX2_sendDirty_58 rfl ?_
          refine wr_get (g := 2) (n := n) (a := c) (b := i) (k := 5) dX2_sendDirty_60 h.1 f_X2_134 (vs2 hn hc4 hi12 (by decide)) (by decide) (by decide) ?_
          refine wp_isub dX2_sendDirty_63 ?_
          refine wp_iload_n (i := 2) dX2_sendDirty_64 rfl rfl ?_
          refine wp_icmp_lt (tgt := 78) dX2_sendDirty_65 (by decide) (fun c65 => ?_) (fun c65 => ?_)
          · skip
            refine wp_iinc (v := nI (i + 1)) dX2_sendDirty_78 rfl (nI_1 _) ?_
            refine wp_goto (tgt := 22) dX2_sendDirty_81 (by decide) ?_
            exact ih (12 - (i + 1)) (by omega) (i + 1) rfl (by omega) p _ _ (by omega) h hM h6 ⟨_, hz.up⟩ _
          · skip
            refine wp_aload_n (i := 0) dX2_sendDirty_68 rfl rfl ?_
            refine wp_iload_n (i := 1) dX2_sendDirty_69 rfl rfl ?_
            refine wp_iload dX2_sendDirty_70 rfl ?_
            refine wp_callV (N := mX2_sendStore) (as := [.int (nI c), .int (nI i)]) dX2_sendDirty_72 l_X2_127 v_X2_sendStore rfl (h.1.oo (vs0 hn (k := 0) (by decide)) (by decide)) rfl (by decide) (s_sendStore h hn (Nat.zero_le _) hc hi12 h6 c51) (fun v hp8 hq => ?_)
            obtain ⟨rfl, k, q, hk, hS2⟩ := hq
            refine wp_iinc (v := nI (p + 1)) dX2_sendDirty_75 rfl (nI_1 _) ?_
            refine wp_iinc (v := nI (i + 1)) dX2_sendDirty_78 rfl (nI_1 _) ?_
            refine wp_goto (tgt := 22) dX2_sendDirty_81 (by decide) ?_
            exact ih (12 - (i + 1)) (by omega) (i + 1) rfl (by omega) (p + 1) _ _ (by omega) hS2 ((hM.trans (MR_sv2 _ _ _ _ _ _ _)).trans (MR_snd _ hk q)) (by rw [snd_V, sV_ne (by omega)]; exact h6) ⟨_, hz.step c43⟩ _
/-- what is dirty for some ticks is sent -/
theorem s_sendDirty (h : ST hp M zB tB n clk cc K D ev 0 0 0 (fun _ => 0)) (hn : n < 2) (hc : c < cc) (x : Int32) : WM L xs (d + 4) mX2_sendDirty [.ref (xi 0 n 0 0), .int (nI c), .int x] hp (fun v hp' => ∃ M', ST hp' M' zB tB n clk cc K D ev 0 0 0 (fun _ => 0) ∧ Snt M M' n clk c v) := by
  have hc4 := h.lt hc
  refine WM.of [some (.ref _), some (.int (nI c)), some (.int x), none, none, none, none] (by decide) rfl (Nat.le_of_ble_eq_true rfl) ?_
  refine wp_aload_n (i := 0) dX2_sendDirty_0 rfl rfl ?_
  refine wr_netR (j := rC n) dX2_sendDirty_1 h.1 f_X2_23 hn (Or.inl ⟨rfl, rfl⟩) ?_
  refine wp_iload_n (i := 1) dX2_sendDirty_4 rfl rfl ?_
  refine wr_aC (c := c) dX2_sendDirty_5 h.1 rfl hn hc4 ?_
  refine wp_astore_n (i := 3) dX2_sendDirty_6 rfl (Nat.le_of_ble_eq_true rfl) ?_
  refine wp_aload_n (i := 3) dX2_sendDirty_7 rfl rfl ?_
  refine wr_get (g := 1) (n := n) (a := c) (b := 0) (k := 6) dX2_sendDirty_8 h.1 f_X2_82 (vs1 hn hc4 (by decide)) (by decide) (by decide) ?_
  refine wp_if_eq (tgt := 16) dX2_sendDirty_11 (by decide) (fun c11 => ?_) (fun c11 => ?_)
  · skip
    refine wp_iconst (v := 0) dX2_sendDirty_16 rfl ?_
    refine wp_istore dX2_sendDirty_17 (Nat.le_of_ble_eq_true rfl) ?_
    refine wp_iconst (v := 0) dX2_sendDirty_19 rfl ?_
    refine wp_istore dX2_sendDirty_20 (Nat.le_of_ble_eq_true rfl) ?_
    exact w_sdirty_22 hn hc hc4 x 12 0 rfl (by decide) 0 _ _ (by decide) h (MR.rfl' _ _ _) c11 ⟨[], rfl, List.nodup_nil, fun g hg => absurd hg List.not_mem_nil⟩ _
  · skip
    refine wp_iconst (v := 0) dX2_sendDirty_14 rfl ?_
    refine wp_ret (v := some (.int _)) dX2_sendDirty_15 rfl ?_
    exact ⟨trivial, M, h, MR.rfl' _ _ _, 0, rfl, by decide, fun l _ => Nat.zero_le _⟩
end DIRTY
