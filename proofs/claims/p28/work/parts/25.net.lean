/-! ===== what holds of a net ===== -/
def vrs (M : MS) (n f : Nat) : Nat := vN (gV M 4 n f 0 1)
/-- a thing on its way -/
def TJ (V : Nat → Nat) (clk cc : Nat) (D : Nat → Nat) (ev : Bool) (k : Nat) (q : Row) : Prop :=
  (∃ c w, c < cc ∧ q 0 = nI c ∧ q 3 = nI w ∧ w % 9 = k ∧ clk ≤ w ∧ w ≤ clk + D c) ∧ (∃ f, f < 12 ∧ q 2 = nI f ∧ q 5 = nI (vN (q 5)) ∧ vN (q 5) ≤ V f) ∧ (∃ d, d ≤ 6 ∧ q 1 = nI d) ∧ cOk (q 4) ∧ (ev = false → ¬ q 7 = 1)
/-- a file at a client -/
def HJ (M : MS) (n c f : Nat) : Prop := cOk (gV M 2 n c f 1) ∧ gV M 2 n c f 2 = nI (vN (gV M 2 n c f 2)) ∧ vN (gV M 2 n c f 2) ≤ vrs M n f
/-- a client -/
def CJ (M : MS) (n : Nat) (D : Nat → Nat) (ev : Bool) (c : Nat) : Prop :=
  (∃ l, CI M n c l) ∧ gV M 1 n c 0 4 = nI (D c) ∧ (1 ≤ D c ∧ D c ≤ 6) ∧ (¬ gV M 1 n c 0 6 = 0 → ∀ f, f < 12 → gV M 2 n c f 6 = 0 ∧ gV M 2 n c f 7 = 0) ∧ (gT M 0 n c).length ≤ 10 ∧ (∀ f, f < 12 → HJ M n c f) ∧ (ev = false → gV M 1 n c 0 6 = 0 ∧ gV M 1 n c 0 11 = 0)
/-- a request -/
def QJ (cc : Nat) (q : Row) : Prop := (∃ c, c < cc ∧ q 0 = nI c) ∧ (q 1 = 0 ∨ q 1 = 1) ∧ cOk (q 2)
/-- a file at the server -/
def SJ (M : MS) (n cc f : Nat) : Prop := cOk (gV M 4 n f 0 0) ∧ gV M 4 n f 0 1 = nI (vrs M n f) ∧ ∀ q, q ∈ gT M 1 n f → QJ cc q
/-- the net's own numbers -/
def OJ (M : MS) (n clk cc : Nat) : Prop := clk < 1000 ∧ cc ≤ 4 ∧ gV M 0 n 0 0 0 = nI clk ∧ gV M 0 n 0 0 4 = nI cc ∧ ∃ r, r ≤ 6 ∧ gV M 0 n 0 0 3 = nI r
def NJ (M : MS) (n clk cc : Nat) (D : Nat → Nat) (ev : Bool) : Prop :=
  OJ M n clk cc ∧ (∀ c, c < 4 → CJ M n D ev c) ∧ (∀ f, f < 12 → SJ M n cc f) ∧ ∀ k, k < 9 → ∀ q, q ∈ gT M 2 n k → TJ (vrs M n) clk cc D ev k q
def RQ (M : MS) (n : Nat) : Nat := sN 12 (fun f => (gT M 1 n f).length)
def FF (M : MS) (n : Nat) : Nat := sN 12 (fun f => bz (gV M 4 n f 0 4))
def FL (M : MS) (n : Nat) : Nat := sN 4 (fun c => sN 12 (fun f => bz (gV M 2 n c f 6) + bz (gV M 2 n c f 7)))
def BJ (M : MS) (n clk K : Nat) (D : Nat → Nat) (r j s : Nat) (e : Nat → Nat) : Prop :=
  BB (fun k => gT M 2 n k) (RQ M n) (FL M n) (FF M n) (vrs M n) (fun c => gV M 1 n c 0 9) clk K D r j s e
/-- what a step of net n leaves as it was -/
def G0 (M M' : MS) (n : Nat) : Prop := (∀ g n' a b k, n' ≠ n → gV M' g n' a b k = gV M g n' a b k) ∧ (∀ y n' a, n' ≠ n → gT M' y n' a = gT M y n' a ∧ gP M' y n' a = gP M y n' a) ∧ ∀ i, gX M' i = gX M i
/-- hits, misses, conflicts, habits -/
def FC (M M' : MS) (n : Nat) : Prop := ∀ c, c < 4 → gV M' 1 n c 0 7 = gV M 1 n c 0 7 ∧ gV M' 1 n c 0 8 = gV M 1 n c 0 8 ∧ vN (gV M 1 n c 0 9) ≤ vN (gV M' 1 n c 0 9)
/-- versions go up, or the content stays -/
def FV (M M' : MS) (n : Nat) : Prop := ∀ f, f < 12 → vrs M n f ≤ vrs M' n f ∧ (vrs M' n f = vrs M n f → gV M' 4 n f 0 0 = gV M 4 n f 0 0)
def FR (M M' : MS) (n : Nat) : Prop := G0 M M' n ∧ FC M M' n ∧ FV M M' n
theorem G0.rfl' (M : MS) (n : Nat) : G0 M M n := ⟨fun _ _ _ _ _ _ => rfl, fun _ _ _ _ => ⟨rfl, rfl⟩, fun _ => rfl⟩
theorem G0.trans {M M' M'' : MS} {n : Nat} (h : G0 M M' n) (h' : G0 M' M'' n) : G0 M M'' n := ⟨fun g n' a b k q => (h'.1 g n' a b k q).trans (h.1 g n' a b k q), fun y n' a q => ⟨(h'.2.1 y n' a q).1.trans (h.2.1 y n' a q).1, (h'.2.1 y n' a q).2.trans (h.2.1 y n' a q).2⟩, fun i => (h'.2.2 i).trans (h.2.2 i)⟩
theorem FC.rfl' (M : MS) (n : Nat) : FC M M n := fun _ _ => ⟨rfl, rfl, Nat.le_refl _⟩
theorem FC.trans {M M' M'' : MS} {n : Nat} (h : FC M M' n) (h' : FC M' M'' n) : FC M M'' n := fun c hc => ⟨(h' c hc).1.trans (h c hc).1, (h' c hc).2.1.trans (h c hc).2.1, Nat.le_trans (h c hc).2.2 (h' c hc).2.2⟩
theorem FV.rfl' (M : MS) (n : Nat) : FV M M n := fun _ _ => ⟨Nat.le_refl _, fun _ => rfl⟩
theorem FV.trans {M M' M'' : MS} {n : Nat} (h : FV M M' n) (h' : FV M' M'' n) : FV M M'' n := fun f hf => by
  obtain ⟨a1, a2⟩ := h f hf
  obtain ⟨b1, b2⟩ := h' f hf
  refine ⟨Nat.le_trans a1 b1, fun q => ?_⟩
  rw [b2 (by omega), a2 (by omega)]
theorem FR.rfl' (M : MS) (n : Nat) : FR M M n := ⟨G0.rfl' M n, FC.rfl' M n, FV.rfl' M n⟩
theorem FR.trans {M M' M'' : MS} {n : Nat} (h : FR M M' n) (h' : FR M' M'' n) : FR M M'' n := ⟨h.1.trans h'.1, h.2.1.trans h'.2.1, h.2.2.trans h'.2.2⟩
theorem G0.sv (M : MS) (g n a b k : Nat) (v : Int32) : G0 M (sV M g n a b k v) n := ⟨fun g' n' a' b' k' q => sV_ne (fun h => q h.2.1), fun _ _ _ _ => ⟨rfl, rfl⟩, fun _ => rfl⟩
theorem G0.sw (M : MS) (z t y n a : Nat) (r : List Row) (cap : Nat) : G0 M (sW M z t y n a r cap) n := ⟨fun g' n' a' b' k' q => rfl, fun y' n' a' q => ⟨gT_sWn (fun h => q h.2.1), gP_sWn (fun h => q h.2.1)⟩, fun _ => rfl⟩
/-- a thing more -/
def snd (M : MS) (n k : Nat) (q : Row) : MS := sW M (aZ M 2 n k) (aT M 2 n k) 2 n k (gT M 2 n k ++ [q]) (aP M 2 n k)
theorem snd_V (M : MS) (n k : Nat) (q : Row) (g n' a b k' : Nat) : gV (snd M n k q) g n' a b k' = gV M g n' a b k' := rfl
theorem snd_T (M : MS) (n k : Nat) (q : Row) (k' : Nat) : gT (snd M n k q) 2 n k' = ap (fun k => gT M 2 n k) k q k' := by
  unfold snd
  by_cases h : k' = k
  · subst h; rw [gT_sW, ap_eq]
  · rw [gT_sWn (fun q => h q.2.2), ap_ne h]
theorem snd_T' (M : MS) (n k : Nat) (q : Row) {y : Nat} (hy : y ≠ 2) (n' a : Nat) : gT (snd M n k q) y n' a = gT M y n' a := gT_sWn (fun q => hy q.1)
theorem FR_snd (M : MS) (n k : Nat) (q : Row) : FR M (snd M n k q) n := ⟨G0.sw _ _ _ _ _ _ _ _, FC.rfl' M n, FV.rfl' M n⟩
theorem CI_snd {M : MS} {n c k : Nat} {l : List Nat} {q : Row} (h : CI M n c l) : CI (snd M n k q) n c l := h.of rfl (fun _ => rfl) (fun _ => ⟨rfl, rfl⟩)
/-- it is one of those that may be on their way -/
theorem NJ_snd {M : MS} {n clk cc k : Nat} {D : Nat → Nat} {ev : Bool} (h : NJ M n clk cc D ev) {q : Row} (hq : TJ (vrs M n) clk cc D ev k q) : NJ (snd M n k q) n clk cc D ev := by
  obtain ⟨h1, h2, h3, h4⟩ := h
  refine ⟨h1, fun c hc => ?_, fun f hf => ?_, fun k' hk' q' hq' => ?_⟩
  · obtain ⟨⟨l, a1⟩, a2, a3, a4, a5, a6, a7⟩ := h2 c hc
    exact ⟨⟨l, CI_snd a1⟩, a2, a3, a4, by rw [snd_T' _ _ _ _ (by decide)]; exact a5, a6, a7⟩
  · obtain ⟨a1, a2, a3⟩ := h3 f hf
    exact ⟨a1, a2, by rw [snd_T' _ _ _ _ (by decide)]; exact a3⟩
  · rw [snd_T] at hq'
    by_cases hk : k' = k
    · subst hk
      rw [ap_eq, List.mem_append, List.mem_singleton] at hq'
      rcases hq' with hq' | hq'
      · exact h4 k' hk' q' hq'
      · subst hq'; exact hq
    · rw [ap_ne hk] at hq'; exact h4 k' hk' q' hq'
theorem RQ_snd (M : MS) (n k : Nat) (q : Row) : RQ (snd M n k q) n = RQ M n := sN_congr (fun f _ => by show (gT (snd M n k q) 1 n f).length = _; rw [snd_T' _ _ _ _ (by decide)])
theorem BJ_snd {M : MS} {n clk K k r j s : Nat} {D : Nat → Nat} {e : Nat → Nat} {q : Row} (h : BB (ap (fun k => gT M 2 n k) k q) (RQ M n) (FL M n) (FF M n) (vrs M n) (fun c => gV M 1 n c 0 9) clk K D r j s e) : BJ (snd M n k q) n clk K D r j s e := by
  unfold BJ
  rw [RQ_snd, show (fun k' => gT (snd M n k q) 2 n k') = ap (fun k => gT M 2 n k) k q from funext (fun k' => snd_T M n k q k')]
  exact h
theorem TJ.cover {V : Nat → Nat} {clk cc k : Nat} {D : Nat → Nat} {ev : Bool} {q : Row} (h : TJ V clk cc D ev k q) (hcc : cc ≤ 4) : kdTh q = true ∨ ∃ c, c < 4 ∧ (kdC c q = true ∨ kdA c q = true) := by
  obtain ⟨⟨c, w, hc, h0, -⟩, -, -⟩ := h
  unfold kdTh kdC kdA
  by_cases h2 : q 1 = 2
  · exact Or.inr ⟨c, by omega, Or.inr (by rw [h2, h0]; simp)⟩
  · by_cases h6 : q 1 = 6
    · exact Or.inr ⟨c, by omega, Or.inl (by rw [h6, h0]; simp)⟩
    · left
      rw [beq_eq_false_iff_ne.mpr h2, beq_eq_false_iff_ne.mpr h6]; rfl
/-- a slot's rows -/
theorem NJ.len {M : MS} {n clk cc K r j s : Nat} {D : Nat → Nat} {e : Nat → Nat} {ev : Bool} (h : NJ M n clk cc D ev) (hB : BJ M n clk K D r j s e) (hj : j ≤ RQ M n) {k : Nat} (hk : k < 9) (hc : k ≠ clk % 9) : (gT M 2 n k).length ≤ 11328 :=
  hB.len hj hk hc (fun q hq => (h.2.2.2 k hk q hq).cover h.1.2.1)
section SEND
variable {L : Nat} {xs : Nat → Int32} {d : Nat} {hp : AH} {M : MS} {n c f : Nat}
/-- it is a client -/
theorem s_isClient (hR : Rep hp M) (hn : n < 2) {cc : Nat} (hcc : gV M 0 n 0 0 4 = nI cc) (hc : c < cc) (h4 : cc ≤ 4) : WM L xs d mX2_isClient [.ref (xi 0 n 0 0), .int (nI c)] hp (fun v hp' => hp' = hp ∧ v = some (.int 1)) := by
  refine WM.of [some (.ref _), some (.int (nI c))] (by decide) rfl (Nat.le_of_ble_eq_true rfl) ?_
  refine wp_iload_n (i := 1) dX2_isClient_0 rfl rfl ?_
  refine wp_if_lt (tgt := 21) dX2_isClient_1 (by decide) (fun c1 => ?_) (fun c1 => ?_)
  · skip
    exact absurd c1 (nI_pos (by omega))
  · skip
    refine wp_iload_n (i := 1) dX2_isClient_4 rfl rfl ?_
    refine wp_aload_n (i := 0) dX2_isClient_5 rfl rfl ?_
    refine wr_get (g := 0) (n := n) (a := 0) (b := 0) (k := 4) dX2_isClient_6 hR f_X2_44 (vs0 hn (by decide)) (by decide) (by decide) ?_
    refine wp_icmp_ge (tgt := 21) dX2_isClient_9 (by decide) (fun c9 => ?_) (fun c9 => ?_)
    · skip
      exact absurd (by rw [hcc]; exact nI_lt hc (by omega)) c9
    · skip
      refine wp_iload_n (i := 1) dX2_isClient_12 rfl rfl ?_
      refine wp_iconst (v := 4) dX2_isClient_13 rfl ?_
      refine wp_icmp_ge (tgt := 21) dX2_isClient_14 (by decide) (fun c14 => ?_) (fun c14 => ?_)
      · skip
        exact absurd (nI_lt (show c < 4 by omega) (by decide)) c14
      · skip
        refine wp_iconst (v := 1) dX2_isClient_17 rfl ?_
        refine wp_goto (tgt := 22) dX2_isClient_18 (by decide) ?_
        refine wp_ret (v := some (.int _)) dX2_isClient_22 rfl ?_
        exact ⟨by first | exact Or.inr rfl | exact Or.inl rfl, rfl, rfl⟩
/-- it is a file -/
theorem s_isFile (hf : f < 12) : WM L xs d mX5_isFile [.int (nI f)] hp (fun v hp' => hp' = hp ∧ v = some (.int 1)) := by
  refine WM.of [some (.int (nI f))] (by decide) rfl (Nat.le_of_ble_eq_true rfl) ?_
  refine wp_iload_n (i := 0) dX5_isFile_0 rfl rfl ?_
  refine wp_if_lt (tgt := 14) dX5_isFile_1 (by decide) (fun c1 => ?_) (fun c1 => ?_)
  · skip
    exact absurd c1 (nI_pos (by omega))
  · skip
    refine wp_iload_n (i := 0) dX5_isFile_4 rfl rfl ?_
    refine wp_bipush (v := nI 12) dX5_isFile_5 (by decide) ?_
    refine wp_icmp_ge (tgt := 14) dX5_isFile_7 (by decide) (fun c7 => ?_) (fun c7 => ?_)
    · skip
      exact absurd (nI_lt hf (by decide)) c7
    · skip
      refine wp_iconst (v := 1) dX5_isFile_10 rfl ?_
      refine wp_goto (tgt := 15) dX5_isFile_11 (by decide) ?_
      refine wp_ret (v := some (.int _)) dX5_isFile_15 rfl ?_
      exact ⟨by first | exact Or.inr rfl | exact Or.inl rfl, rfl, rfl⟩
end SEND
