/-! ===== Net: what clients send ===== -/
theorem nodup_sub {l l' : List Nat} (h : l.Nodup) (hs : ∀ x, x ∈ l → x ∈ l') : l.length ≤ l'.length := by
  induction l generalizing l' with
  | nil => exact Nat.zero_le _
  | cons a t ih =>
    rw [List.nodup_cons] at h
    have ha : a ∈ l' := hs a List.mem_cons_self
    have h1 := ih (l' := l'.erase a) h.2 (fun x hx => (List.mem_erase_of_ne (show x ≠ a from fun q => h.1 (by rw [← q]; exact hx))).mpr (hs x (List.mem_cons_of_mem _ hx)))
    have h2 := List.length_erase_of_mem ha
    have h3 : 0 < l'.length := List.length_pos_of_mem ha
    rw [List.length_cons]; omega
theorem CJ.of {M M' : MS} {n c : Nat} {D : Nat → Nat} {ev : Bool} (h : CJ M n D ev c) (hO : OC M M' n c) (hI : ∃ l, CI M' n c l) (h4 : gV M' 1 n c 0 4 = gV M 1 n c 0 4) (hfl : ¬ gV M' 1 n c 0 6 = 0 → ∀ f, f < 12 → gV M' 2 n c f 6 = 0 ∧ gV M' 2 n c f 7 = 0) (hk : (gT M' 0 n c).length ≤ 10) (hh : ∀ f, f < 12 → cOk (gV M' 2 n c f 1) ∧ gV M' 2 n c f 2 = nI (vN (gV M' 2 n c f 2)) ∧ vN (gV M' 2 n c f 2) ≤ vrs M n f) (he : ev = false → gV M' 1 n c 0 6 = 0 ∧ gV M' 1 n c 0 11 = 0) : CJ M' n D ev c :=
  ⟨hI, h4.trans h.2.1, h.2.2.1, hfl, hk, fun f hf => by unfold HJ; rw [hO.vrs]; exact hh f hf, he⟩
section CLSEND
variable {L : Nat} {xs : Nat → Int32} {d : Nat} {hp : AH} {M : MS} {zB tB n clk cc K : Nat} {D : Nat → Nat} {ev : Bool} {r j s : Nat} {e : Nat → Nat} {c f : Nat}
theorem ST.lt (h : ST hp M zB tB n clk cc K D ev r j s e) (hc : c < cc) : c < 4 := by have := h.2.2.1.1.2.1; omega
theorem ST.cj (h : ST hp M zB tB n clk cc K D ev r j s e) (hc : c < cc) : CJ M n D ev c := h.2.2.1.2.1 c (h.lt hc)
/-- a file asks, or sends -/
theorem ST.flag {hp' : AH} {k : Nat} (h : ST hp M zB tB n clk cc K D ev r j s e) (hc : c < cc) (hf : f < 12) (hk : k = 6 ∨ k = 7) (h6 : gV M 1 n c 0 6 = 0) (h7 : gV M 2 n c f k = 0) (hR : Rep hp' (sV M 2 n c f k 1)) : ST hp' (sV M 2 n c f k 1) zB tB n clk cc K D ev r j (s + 1) e := by
  obtain ⟨l, hI⟩ := (h.cj hc).1
  have hC := h.cj hc
  have hO := OC.sv M n c f k 1
  have hx : ∀ g n' a b k', ¬ (g = 2 ∧ n' = n ∧ a = c ∧ b = f ∧ k' = k) → gV (sV M 2 n c f k 1) g n' a b k' = gV M g n' a b k' := fun g n' a b k' q => sV_ne q
  refine ⟨hR, h.2.1.of rfl rfl (fun _ _ _ => rfl), h.2.2.1.client hO (hC.of hO ⟨l, hI.sv 1 (by omega)⟩ (hx _ _ _ _ _ (by omega)) (fun q => absurd ((hx _ _ _ _ _ (by omega)).trans h6) q) hC.2.2.2.2.1 (fun f' hf' => ?_) (fun q => ?_)), hO.bj h.2.2.2 (hx _ _ _ _ _ (by omega)) ?_⟩
  · rw [hx _ _ _ _ _ (by omega), hx _ _ _ _ _ (by omega)]; exact hC.2.2.2.2.2.1 f' hf'
  · rw [hx _ _ _ _ _ (by omega), hx _ _ _ _ _ (by omega)]; exact hC.2.2.2.2.2.2 q
  · have hu := FL_upd (M := M) (M' := sV M 2 n c f k 1) (n := n) (h.lt hc) hf (fun c' f' _ _ hne => ⟨hx _ _ _ _ _ (fun q => hne ⟨q.2.2.1, q.2.2.2.1⟩), hx _ _ _ _ _ (fun q => hne ⟨q.2.2.1, q.2.2.2.1⟩)⟩)
    have e1 : bz (1 : Int32) = 1 := by decide
    have e0 : bz (0 : Int32) = 0 := by decide
    rcases hk with rfl | rfl
    · rw [sV_self, h7, sV_k (by decide), e1, e0] at hu; omega
    · rw [sV_self, h7, sV_k (by decide), e1, e0] at hu; omega

/-- a file is sent -/
theorem s_sendStore (h : ST hp M zB tB n clk cc K D ev r j s e) (hn : n < 2) (hj : j ≤ RQ M n) (hc : c < cc) (hf : f < 12) (h6 : gV M 1 n c 0 6 = 0) (h7 : gV M 2 n c f 7 = 0) : WM L xs (d + 3) mX2_sendStore [.ref (xi 0 n 0 0), .int (nI c), .int (nI f)] hp (fun v hp' => v = none ∧ ∃ k q, k ≠ clk % 9 ∧ ST hp' (snd (sV M 2 n c f 7 1) n k q) zB tB n clk cc K D ev r j s e) := by
  have hc4 := h.lt hc
  refine WM.of [some (.ref _), some (.int (nI c)), some (.int (nI f)), none] (by decide) rfl (Nat.le_of_ble_eq_true rfl) ?_
  refine wp_aload_n (i := 0) dX2_sendStore_0 rfl rfl ?_
  refine wr_netR (j := rC n) dX2_sendStore_1 h.1 f_X2_23 hn (Or.inl ⟨rfl, rfl⟩) ?_
  refine wp_iload_n (i := 1) dX2_sendStore_4 rfl rfl ?_
  refine wr_aC (c := c) dX2_sendStore_5 h.1 rfl hn hc4 ?_
  refine wr_cliR (j := rF n c) dX2_sendStore_6 h.1 f_X2_86 hn hc4 (Or.inl ⟨rfl, rfl⟩) ?_
  refine wp_iload_n (i := 2) dX2_sendStore_9 rfl rfl ?_
  refine wr_aF (f := f) dX2_sendStore_10 h.1 rfl hn hc4 hf ?_
  refine wp_astore_n (i := 3) dX2_sendStore_11 rfl (Nat.le_of_ble_eq_true rfl) ?_
  refine wp_aload_n (i := 3) dX2_sendStore_12 rfl rfl ?_
  refine wp_iconst (v := 1) dX2_sendStore_13 rfl ?_
  refine wr_put (g := 2) (n := n) (a := c) (b := f) (k := 7) dX2_sendStore_14 h.1 (p_X2_90 rfl) (vs2 hn hc4 hf (by decide)) (by decide) (by decide) (okB rfl (by decide)) (fun hp2 hR1 => ?_)
  refine wp_aload_n (i := 0) dX2_sendStore_17 rfl rfl ?_
  refine wp_iconst (v := 1) dX2_sendStore_18 rfl ?_
  refine wp_iload_n (i := 1) dX2_sendStore_19 rfl rfl ?_
  refine wp_iload_n (i := 2) dX2_sendStore_20 rfl rfl ?_
  refine wp_aload_n (i := 3) dX2_sendStore_21 rfl rfl ?_
  refine wr_get (g := 2) (n := n) (a := c) (b := f) (k := 1) dX2_sendStore_22 hR1 f_X2_95 (vs2 hn hc4 hf (by decide)) (by decide) (by decide) ?_
  refine wp_aload_n (i := 3) dX2_sendStore_25 rfl rfl ?_
  refine wr_get (g := 2) (n := n) (a := c) (b := f) (k := 2) dX2_sendStore_26 hR1 f_X2_98 (vs2 hn hc4 hf (by decide)) (by decide) (by decide) ?_
  refine wp_iconst (v := 0) dX2_sendStore_29 rfl ?_
  have hS1 := h.flag hc hf (Or.inr rfl) h6 h7 hR1
  have hH := (h.cj hc).2.2.2.2.2.1 f hf
  refine wp_callV (N := mX2_send) (as := [.int (nI 1), .int (nI c), .int (nI f), .int (gV (sV M 2 n c f 7 1) 2 n c f 1), .int (gV (sV M 2 n c f 7 1) 2 n c f 2), .int 0]) dX2_sendStore_30 l_X2_101 v_X2_send rfl (hR1.oo (vs0 hn (k := 0) (by decide)) (by decide)) rfl (by decide) (s_sendT hS1 hn hj hc hf (by decide) (by decide) 0 (by rw [sV_k (by decide)]; exact hH.1) (by rw [sV_k (by decide)]; exact hH.2)) (fun v hp9 hq => ?_)
  obtain ⟨rfl, k, q, hk, hS2⟩ := hq
  refine wp_ret (v := none) dX2_sendStore_33 rfl ?_
  exact ⟨trivial, rfl, k, q, hk, hS2⟩
/-- hits, misses: a number of a client that nothing hangs on -/
theorem ST.cnt {hp' : AH} {k : Nat} {v : Int32} (h : ST hp M zB tB n clk cc K D ev r j s e) (hc : c < cc) (hk : k = 7 ∨ k = 8 ∨ k = 10) (hR : Rep hp' (sV M 1 n c 0 k v)) : ST hp' (sV M 1 n c 0 k v) zB tB n clk cc K D ev r j s e := by
  obtain ⟨l, hI⟩ := (h.cj hc).1
  have hC := h.cj hc
  have hO := OC.sv1 M n c k v
  have hx : ∀ g n' a b k', ¬ (g = 1 ∧ n' = n ∧ a = c ∧ b = 0 ∧ k' = k) → gV (sV M 1 n c 0 k v) g n' a b k' = gV M g n' a b k' := fun g n' a b k' q => sV_ne q
  refine ⟨hR, h.2.1.of rfl rfl (fun _ _ _ => rfl), h.2.2.1.client hO (hC.of hO ⟨l, hI.of (hx _ _ _ _ _ (by omega)) (fun _ => hx _ _ _ _ _ (by omega)) (fun _ => ⟨hx _ _ _ _ _ (by omega), hx _ _ _ _ _ (by omega)⟩)⟩ (hx _ _ _ _ _ (by omega)) (fun q => ?_) hC.2.2.2.2.1 (fun f' hf' => ?_) (fun q => ?_)), hO.bj h.2.2.2 (hx _ _ _ _ _ (by omega)) ?_⟩
  · rw [hx _ _ _ _ _ (by omega)] at q
    intro f hf
    rw [hx _ _ _ _ _ (by omega), hx _ _ _ _ _ (by omega)]; exact hC.2.2.2.1 q f hf
  · rw [hx _ _ _ _ _ (by omega), hx _ _ _ _ _ (by omega)]; exact hC.2.2.2.2.2.1 f' hf'
  · rw [hx _ _ _ _ _ (by omega), hx _ _ _ _ _ (by omega)]; exact hC.2.2.2.2.2.2 q
  · rw [FL_eq (M := M) (M' := sV M 1 n c 0 k v) (fun c' f' _ _ => ⟨hx _ _ _ _ _ (by omega), hx _ _ _ _ _ (by omega)⟩)]
    exact Nat.le_refl _
/-- a file that is there is used -/
theorem ST.used {hp' : AH} {l : List Nat} {F : Nat → Int32} (h : ST hp M zB tB n clk cc K D ev r j s e) (hc : c < cc) (hf : f < 12) (hI : CI M n c l) (hfl : f ∈ l) (hF : Lst F (useL l f)) (hR : Rep hp' (cO M n c (nI (useL l f).length) F [])) : ST hp' (cO M n c (nI (useL l f).length) F []) zB tB n clk cc K D ev r j s e := by
  have hC := h.cj hc
  have hO := (Oth.co M n c (nI (useL l f).length) F []).oc
  have hU : CI (cO M n c (nI (useL l f).length) F []) n c (useL l f) := CI.use hI.1 hI.2.1 hf (by rw [useL_len, if_pos hfl]; exact hI.2.2.1) (fun g hg => by
    rw [hI.2.2.2.1 g hg]
    exact ⟨fun q => Or.inr q, fun q => q.elim (fun e9 => e9 ▸ hfl) id⟩) (fun g hg hd => Or.inr (hI.2.2.2.2 g hg hd)) hF
  have hx1 : ∀ k, k ≠ 2 → gV (cO M n c (nI (useL l f).length) F []) 1 n c 0 k = gV M 1 n c 0 k := fun k hk => (Oth.co M n c (nI (useL l f).length) F []).1 1 n c 0 k (by omega)
  have hx2 : ∀ f' k, gV (cO M n c (nI (useL l f).length) F []) 2 n c f' k = gV M 2 n c f' k := fun f' k => cO_he _ _ _ _ _ _ _ _ (Or.inl List.not_mem_nil)
  refine ⟨hR, h.2.1.of rfl rfl (fun _ _ _ => rfl), h.2.2.1.client hO (hC.of hO ⟨_, hU⟩ (hx1 4 (by decide)) (fun q => ?_) hC.2.2.2.2.1 (fun f' hf' => ?_) (fun q => ?_)), hO.bj h.2.2.2 (hx1 9 (by decide)) ?_⟩
  · rw [hx1 6 (by decide)] at q
    intro f hf
    rw [hx2, hx2]; exact hC.2.2.2.1 q f hf
  · rw [hx2, hx2]; exact hC.2.2.2.2.2.1 f' hf'
  · rw [hx1 6 (by decide), hx1 11 (by decide)]; exact hC.2.2.2.2.2.2 q
  · rw [FL_eq (M := M) (M' := cO M n c (nI (useL l f).length) F []) (fun c' f' _ _ => by
      by_cases hcc : c' = c
      · subst hcc; exact ⟨hx2 _ _, hx2 _ _⟩
      · exact ⟨hO.1 2 n c' f' 6 (fun q => hcc q.2.1), hO.1 2 n c' f' 7 (fun q => hcc q.2.1)⟩)]
    exact Nat.le_refl _
/-- how a try ends -/
def Rch (M M' : MS) (n clk c f : Nat) (v : Option Value) : Prop := G0 M M' n ∧ gT M' 2 n (clk % 9) = gT M 2 n (clk % 9) ∧ (∀ c', c' ≠ c → gV M' 1 n c' 0 7 = gV M 1 n c' 0 7 ∧ gV M' 1 n c' 0 8 = gV M 1 n c' 0 8) ∧
  ((tru M n c f (nI clk) (gV M 1 n c 0 6) ∧ v = some (.int 1) ∧ gV M' 1 n c 0 7 = gV M 1 n c 0 7 + 1 ∧ gV M' 1 n c 0 8 = gV M 1 n c 0 8 ∧ (∀ f' k, gV M' 2 n c f' k = gV M 2 n c f' k) ∧ gV M' 3 n c 0 0 = nI f) ∨
   (¬ tru M n c f (nI clk) (gV M 1 n c 0 6) ∧ v = some (.int 0) ∧ gV M' 1 n c 0 7 = gV M 1 n c 0 7 ∧ gV M' 1 n c 0 8 = gV M 1 n c 0 8 + 1))
theorem s_reach (h : ST hp M zB tB n clk cc K D ev 0 0 0 (fun _ => 0)) (hn : n < 2) (hc : c < cc) (hf : f < 12) : WM L xs (d + 3) mX2_reach [.ref (xi 0 n 0 0), .int (nI c), .int (nI f)] hp (fun v hp' => ∃ M', ST hp' M' zB tB n clk cc K D ev 0 0 0 (fun _ => 0) ∧ Rch M M' n clk c f v) := by
  have hc4 := h.lt hc
  have hclk := h.2.2.1.1.2.2.1
  refine WM.of [some (.ref _), some (.int (nI c)), some (.int (nI f)), none, none] (by decide) rfl (Nat.le_of_ble_eq_true rfl) ?_
  refine wp_aload_n (i := 0) dX2_reach_0 rfl rfl ?_
  refine wr_netR (j := rC n) dX2_reach_1 h.1 f_X2_23 hn (Or.inl ⟨rfl, rfl⟩) ?_
  refine wp_iload_n (i := 1) dX2_reach_4 rfl rfl ?_
  refine wr_aC (c := c) dX2_reach_5 h.1 rfl hn hc4 ?_
  refine wp_astore_n (i := 3) dX2_reach_6 rfl (Nat.le_of_ble_eq_true rfl) ?_
  refine wp_aload_n (i := 3) dX2_reach_7 rfl rfl ?_
  refine wr_cliR (j := rF n c) dX2_reach_8 h.1 f_X2_86 hn hc4 (Or.inl ⟨rfl, rfl⟩) ?_
  refine wp_iload_n (i := 2) dX2_reach_11 rfl rfl ?_
  refine wr_aF (f := f) dX2_reach_12 h.1 rfl hn hc4 hf ?_
  refine wp_astore dX2_reach_13 (Nat.le_of_ble_eq_true rfl) ?_
  refine wp_aload dX2_reach_15 rfl ?_
  refine wp_aload_n (i := 0) dX2_reach_17 rfl rfl ?_
  refine wr_get (g := 0) (n := n) (a := 0) (b := 0) (k := 0) dX2_reach_18 h.1 f_X2_62 (vs0 hn (by decide)) (by decide) (by decide) ?_
  refine wp_aload_n (i := 3) dX2_reach_21 rfl rfl ?_
  refine wr_get (g := 1) (n := n) (a := c) (b := 0) (k := 6) dX2_reach_22 h.1 f_X2_82 (vs1 hn hc4 (by decide)) (by decide) (by decide) ?_
  rw [hclk]
  refine wp_callV (N := mX1_isTrusted) dX2_reach_25 l_X2_105 v_X1_isTrusted rfl (h.1.oo (vs2 hn hc4 hf (k := 0) (by decide)) (by decide)) rfl (by decide) (s_isTrusted h.1 hn hc4 hf (nI clk) (gV M 1 n c 0 6)) (fun v hp9 hq => ?_)
  obtain ⟨rfl, rfl⟩ := hq
  refine wp_if_eq (tgt := 48) dX2_reach_28 (by decide) (fun c28 => ?_) (fun c28 => ?_)
  · skip
    refine wp_aload_n (i := 3) dX2_reach_48 rfl rfl ?_
    refine wp_dup dX2_reach_49 rfl ?_
    refine wr_get (g := 1) (n := n) (a := c) (b := 0) (k := 8) dX2_reach_50 h.1 f_X2_115 (vs1 hn hc4 (by decide)) (by decide) (by decide) ?_
    refine wp_iconst (v := 1) dX2_reach_53 rfl ?_
    refine wp_iadd dX2_reach_54 ?_
    refine wr_put (g := 1) (n := n) (a := c) (b := 0) (k := 8) dX2_reach_55 h.1 (p_X2_115 rfl) (vs1 hn hc4 (by decide)) (by decide) (by decide) (okI rfl) (fun hp2 hR1 => ?_)
    refine wp_aload_n (i := 3) dX2_reach_58 rfl rfl ?_
    refine wr_get (g := 1) (n := n) (a := c) (b := 0) (k := 6) dX2_reach_59 hR1 f_X2_82 (vs1 hn hc4 (by decide)) (by decide) (by decide) ?_
    refine wp_if_ne (tgt := 89) dX2_reach_62 (by decide) (fun c62 => ?_) (fun c62 => ?_)
    · skip
      refine wp_iconst (v := 0) dX2_reach_89 rfl ?_
      refine wp_ret (v := some (.int _)) dX2_reach_90 rfl ?_
      have c28 := bI_eq.mp c28
      refine ⟨Or.inl rfl, _, h.cnt hc (Or.inr (Or.inl rfl)) hR1, G0.sv _ _ _ _ _ _ _, rfl, fun c' hcc => ?_, Or.inr ⟨c28, rfl, ?_, ?_⟩⟩
      · rw [sV_ne (by omega), sV_ne (by omega)]; exact ⟨rfl, rfl⟩
      · rw [sV_ne (by omega)]
      · rw [sV_self]
    · skip
      refine wp_aload dX2_reach_65 rfl ?_
      refine wr_get (g := 2) (n := n) (a := c) (b := f) (k := 6) dX2_reach_67 hR1 f_X2_118 (vs2 hn hc4 hf (by decide)) (by decide) (by decide) ?_
      refine wp_if_ne (tgt := 89) dX2_reach_70 (by decide) (fun c70 => ?_) (fun c70 => ?_)
      · skip
        refine wp_iconst (v := 0) dX2_reach_89 rfl ?_
        refine wp_ret (v := some (.int _)) dX2_reach_90 rfl ?_
        have c28 := bI_eq.mp c28
        refine ⟨Or.inl rfl, _, h.cnt hc (Or.inr (Or.inl rfl)) hR1, G0.sv _ _ _ _ _ _ _, rfl, fun c' hcc => ?_, Or.inr ⟨c28, rfl, ?_, ?_⟩⟩
        · rw [sV_ne (by omega), sV_ne (by omega)]; exact ⟨rfl, rfl⟩
        · rw [sV_ne (by omega)]
        · rw [sV_self]
      · skip
        refine wp_aload dX2_reach_73 rfl ?_
        refine wp_iconst (v := 1) dX2_reach_75 rfl ?_
        refine wr_put (g := 2) (n := n) (a := c) (b := f) (k := 6) dX2_reach_76 hR1 (p_X2_118 rfl) (vs2 hn hc4 hf (by decide)) (by decide) (by decide) (okB rfl (by decide)) (fun hp4 hR3 => ?_)
        refine wp_aload_n (i := 0) dX2_reach_79 rfl rfl ?_
        refine wp_iconst (v := 0) dX2_reach_80 rfl ?_
        refine wp_iload_n (i := 1) dX2_reach_81 rfl rfl ?_
        refine wp_iload_n (i := 2) dX2_reach_82 rfl rfl ?_
        refine wp_iconst (v := 0) dX2_reach_83 rfl ?_
        refine wp_iconst (v := 0) dX2_reach_84 rfl ?_
        refine wp_iconst (v := 0) dX2_reach_85 rfl ?_
        have hS0 := h.cnt hc (Or.inr (Or.inl rfl)) hR1
        have hS1 := hS0.flag hc hf (Or.inl rfl) c62 c70 hR3
        refine wp_callV (N := mX2_send) (as := [.int (nI 0), .int (nI c), .int (nI f), .int 0, .int 0, .int 0]) dX2_reach_86 l_X2_101 v_X2_send rfl (hR3.oo (vs0 hn (k := 0) (by decide)) (by decide)) rfl (by decide) (s_sendT hS1 hn (Nat.zero_le _) hc hf (by decide) (by decide) 0 (cOk_nI (k := 0) (by decide)) ⟨by decide, Nat.zero_le _⟩) (fun v hp9 hq => ?_)
        obtain ⟨rfl, k, q, hk, hS2⟩ := hq
        refine wp_iconst (v := 0) dX2_reach_89 rfl ?_
        refine wp_ret (v := some (.int _)) dX2_reach_90 rfl ?_
        have c28 := bI_eq.mp c28
        refine ⟨Or.inl rfl, _, hS2, ((G0.sv _ _ _ _ _ _ _).trans (G0.sv _ _ _ _ _ _ _)).trans (FR_snd _ _ _ _).1, by rw [snd_T, ap_ne (fun q => hk q.symm)]; rfl, fun c' hcc => ?_, Or.inr ⟨c28, rfl, ?_, ?_⟩⟩
        · rw [snd_V, snd_V, sV_ne (by omega), sV_ne (by omega), sV_ne (by omega), sV_ne (by omega)]; exact ⟨rfl, rfl⟩
        · rw [snd_V, sV_ne (by omega), sV_ne (by omega)]
        · rw [snd_V, sV_ne (by omega), sV_self]
  · skip
    refine wp_aload_n (i := 3) dX2_reach_31 rfl rfl ?_
    refine wp_dup dX2_reach_32 rfl ?_
    refine wr_get (g := 1) (n := n) (a := c) (b := 0) (k := 7) dX2_reach_33 h.1 f_X2_109 (vs1 hn hc4 (by decide)) (by decide) (by decide) ?_
    refine wp_iconst (v := 1) dX2_reach_36 rfl ?_
    refine wp_iadd dX2_reach_37 ?_
    refine wr_put (g := 1) (n := n) (a := c) (b := 0) (k := 7) dX2_reach_38 h.1 (p_X2_109 rfl) (vs1 hn hc4 (by decide)) (by decide) (by decide) (okI rfl) (fun hp6 hR5 => ?_)
    refine wp_aload_n (i := 3) dX2_reach_41 rfl rfl ?_
    refine wp_iload_n (i := 2) dX2_reach_42 rfl rfl ?_
    have c28 := bI_ne.mp c28
    have hS1 := h.cnt hc (Or.inl rfl) hR5
    obtain ⟨l, hI⟩ := (hS1.cj hc).1
    have hfl : f ∈ l := (hI.2.2.2.1 f hf).mp (by rw [sV_ne (by omega)]; exact c28.1)
    refine wp_callV (N := mX0_use) dX2_reach_43 l_X2_112 v_X0_use rfl (hR5.oo (vs1 hn hc4 (k := 2) (by decide)) (by decide)) rfl (by decide) (s_use hR5 hn hc4 hI.1 hf (Or.inl hfl)) (fun v hp9 hq => ?_)
    obtain ⟨rfl, F, hR9, hF9⟩ := hq
    have hS2 := hS1.used hc hf hI hfl hF9 hR9
    refine wp_iconst (v := 1) dX2_reach_46 rfl ?_
    refine wp_ret (v := some (.int _)) dX2_reach_47 rfl ?_
    have hO := (Oth.co (sV M 1 n c 0 7 (gV M 1 n c 0 7 + 1)) n c (nI (useL l f).length) F [])
    have hx1 : ∀ k, k ≠ 2 → gV (cO (sV M 1 n c 0 7 (gV M 1 n c 0 7 + 1)) n c (nI (useL l f).length) F []) 1 n c 0 k = gV (sV M 1 n c 0 7 (gV M 1 n c 0 7 + 1)) 1 n c 0 k := fun k hk => hO.1 1 n c 0 k (by omega)
    refine ⟨Or.inr rfl, _, hS2, (G0.sv _ _ _ _ _ _ _).trans hO.oc.g0, rfl, fun c' hcc => ?_, Or.inl ⟨c28, rfl, ?_, ?_, fun f' k => ?_, ?_⟩⟩
    · rw [hO.1 1 n c' 0 7 (by omega), hO.1 1 n c' 0 8 (by omega), sV_ne (by omega), sV_ne (by omega)]; exact ⟨rfl, rfl⟩
    · rw [hx1 7 (by decide), sV_self]
    · rw [hx1 8 (by decide), sV_ne (by omega)]
    · rw [cO_he _ _ _ _ _ _ _ _ (Or.inl List.not_mem_nil), sV_ne (by omega)]
    · rw [cO_ord]; exact hF9 0 f rfl
end CLSEND
