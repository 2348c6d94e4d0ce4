/-! ===== Net: the server's rows of requests ===== -/
theorem NJ.shelf {M M' : MS} {n clk cc : Nat} {D : Nat → Nat} {ev : Bool} (h : NJ M n clk cc D ev) (hx : ∀ g n' a b k, g ≠ 4 → g ≠ 5 → gV M' g n' a b k = gV M g n' a b k) (hT0 : ∀ a, gT M' 0 n a = gT M 0 n a) (hT2 : ∀ k, gT M' 2 n k = gT M 2 n k) (hv : ∀ f, f < 12 → vrs M n f ≤ vrs M' n f) (hs : ∀ f, f < 12 → SJ M' n cc f) : NJ M' n clk cc D ev := by
  obtain ⟨⟨b1, b2, b3, b4, b5⟩, h2, h3, h4⟩ := h
  refine ⟨⟨b1, b2, by rw [hx _ _ _ _ _ (by decide) (by decide)]; exact b3, by rw [hx _ _ _ _ _ (by decide) (by decide)]; exact b4, by rw [hx _ _ _ _ _ (by decide) (by decide)]; exact b5⟩, fun c hc => ?_, hs, fun k hk q hq => ?_⟩
  · obtain ⟨⟨l, a1⟩, a2, a3, a4, a5, a6, a7⟩ := h2 c hc
    refine ⟨⟨l, a1.of (hx _ _ _ _ _ (by decide) (by decide)) (fun _ => hx _ _ _ _ _ (by decide) (by decide)) (fun _ => ⟨hx _ _ _ _ _ (by decide) (by decide), hx _ _ _ _ _ (by decide) (by decide)⟩)⟩, by rw [hx _ _ _ _ _ (by decide) (by decide)]; exact a2, a3, ?_, by rw [hT0]; exact a5, fun f hf => ?_, ?_⟩
    · rw [hx _ _ _ _ _ (by decide) (by decide)]; intro q f hf; rw [hx _ _ _ _ _ (by decide) (by decide), hx _ _ _ _ _ (by decide) (by decide)]; exact a4 q f hf
    · obtain ⟨x1, x2, x3⟩ := a6 f hf
      unfold HJ
      rw [hx _ _ _ _ _ (by decide) (by decide), hx _ _ _ _ _ (by decide) (by decide)]
      exact ⟨x1, x2, Nat.le_trans x3 (hv f hf)⟩
    · rw [hx _ _ _ _ _ (by decide) (by decide), hx _ _ _ _ _ (by decide) (by decide)]; exact a7
  · rw [hT2] at hq
    obtain ⟨t1, ⟨f, hf, t2, t3, t4⟩, t5⟩ := h4 k hk q hq
    exact ⟨t1, ⟨f, hf, t2, t3, Nat.le_trans t4 (hv f hf)⟩, t5⟩
theorem gC_row {M : MS} {n f p : Nat} (hp : p < (gT M 1 n f).length) : ∃ q, q ∈ gT M 1 n f ∧ ∀ k, gC M 1 n f p k = q k := by
  refine ⟨(gT M 1 n f)[p], List.getElem_mem hp, fun k => ?_⟩
  show ((gT M 1 n f).getD p (fun _ => 0)) k = _
  rw [List.getD_eq_getElem?_getD, List.getElem?_eq_getElem hp]; rfl
section SERVER
variable {L : Nat} {xs : Nat → Int32} {d : Nat} {hp : AH} {M : MS} {zB tB n clk cc K : Nat} {D : Nat → Nat} {ev : Bool} {r j s : Nat} {e : Nat → Nat} {c f p : Nat}
theorem ST.sj (h : ST hp M zB tB n clk cc K D ev r j s e) (hf : f < 12) : SJ M n cc f := h.2.2.1.2.2.1 f hf
theorem ST.weak {j' s' : Nat} {e' : Nat → Nat} (h : ST hp M zB tB n clk cc K D ev r j s e) (h0 : j ≤ j') (h1 : s' + j ≤ s + j') (h2 : ∀ c, c < 4 → e' c + j ≤ e c + j') : ST hp M zB tB n clk cc K D ev r j' s' e' :=
  ⟨h.1, h.2.1, h.2.2.1, h.2.2.2.num (fun _ => rfl) (fun _ => rfl) (by omega) (fun c hc => by have := h2 c hc; omega) (fun f _ => by omega)⟩
/-- whether the first request was seen -/
theorem ST.seen {hp' : AH} {v : Int32} {e' : Nat → Nat} (h : ST hp M zB tB n clk cc K D ev r j s e) (hf : f < 12) (h1 : ∀ c, c < 4 → e' c + bz (gV M 4 n f 0 4) ≤ e c + bz v) (hR : Rep hp' (sV M 4 n f 0 4 v)) : ST hp' (sV M 4 n f 0 4 v) zB tB n clk cc K D ev r j s e' ∧ MR M (sV M 4 n f 0 4 v) n clk := by
  have hx : ∀ g n' a b k', ¬ (g = 4 ∧ n' = n ∧ a = f ∧ b = 0 ∧ k' = 4) → gV (sV M 4 n f 0 4 v) g n' a b k' = gV M g n' a b k' := fun g n' a b k' q => sV_ne q
  have hv : ∀ f', vrs (sV M 4 n f 0 4 v) n f' = vrs M n f' := fun f' => by show vN _ = vN _; rw [hx _ _ _ _ _ (by omega)]
  have hu := FF_upd (M := M) (M' := sV M 4 n f 0 4 v) (n := n) hf (fun f' _ hne => hx _ _ _ _ _ (fun q => hne q.2.2.1))
  rw [sV_self] at hu
  refine ⟨⟨hR, h.2.1.of rfl rfl (fun _ _ _ => rfl), h.2.2.1.shelf (fun g n' a b k q _ => hx _ _ _ _ _ (by omega)) (fun _ => rfl) (fun _ => rfl) (fun f' _ => by rw [hv]; exact Nat.le_refl _) (fun f' hf' => ?_), h.2.2.2.num (fun _ => rfl) (fun c => hx _ _ _ _ _ (by omega)) ?_ (fun c hc => ?_) (fun f' _ => by rw [hv, show RQ (sV M 4 n f 0 4 v) n = RQ M n from rfl]; omega)⟩, ⟨G0.sv _ _ _ _ _ _ _, fun c _ => ⟨hx _ _ _ _ _ (by omega), hx _ _ _ _ _ (by omega), by rw [hx _ _ _ _ _ (by omega)]; exact Nat.le_refl _⟩, fun f' _ => ⟨by rw [hv]; exact Nat.le_refl _, fun _ => hx _ _ _ _ _ (by omega)⟩⟩, rfl⟩
  · unfold SJ
    rw [hv, hx _ _ _ _ _ (by omega), hx _ _ _ _ _ (by omega)]
    exact h.sj hf'
  · rw [show RQ (sV M 4 n f 0 4 v) n = RQ M n from rfl, FL_eq (M := M) (M' := sV M 4 n f 0 4 v) (fun c' f' _ _ => ⟨hx _ _ _ _ _ (by omega), hx _ _ _ _ _ (by omega)⟩)]
    omega
  · rw [show RQ (sV M 4 n f 0 4 v) n = RQ M n from rfl]
    have := h1 c hc
    omega
/-- a lease -/
theorem ST.lease {hp' : AH} {v : Int32} (h : ST hp M zB tB n clk cc K D ev r j s e) (hR : Rep hp' (sV M 5 n f 0 c v)) : ST hp' (sV M 5 n f 0 c v) zB tB n clk cc K D ev r j s e ∧ MR M (sV M 5 n f 0 c v) n clk := by
  have hx : ∀ g n' a b k', g ≠ 5 → gV (sV M 5 n f 0 c v) g n' a b k' = gV M g n' a b k' := fun g n' a b k' q => sV_ne (fun p => q p.1)
  have hv : ∀ f', vrs (sV M 5 n f 0 c v) n f' = vrs M n f' := fun f' => by show vN _ = vN _; rw [hx _ _ _ _ _ (by decide)]
  refine ⟨⟨hR, h.2.1.of rfl rfl (fun _ _ _ => rfl), h.2.2.1.shelf (fun g n' a b k _ q => hx _ _ _ _ _ q) (fun _ => rfl) (fun _ => rfl) (fun f' _ => by rw [hv]; exact Nat.le_refl _) (fun f' hf' => ?_), h.2.2.2.num (fun _ => rfl) (fun c => hx _ _ _ _ _ (by decide)) ?_ (fun c' hc => ?_) (fun f' _ => by rw [hv, show RQ (sV M 5 n f 0 c v) n = RQ M n from rfl]; omega)⟩, ⟨G0.sv _ _ _ _ _ _ _, fun c _ => ⟨hx _ _ _ _ _ (by decide), hx _ _ _ _ _ (by decide), by rw [hx _ _ _ _ _ (by decide)]; exact Nat.le_refl _⟩, fun f' _ => ⟨by rw [hv]; exact Nat.le_refl _, fun _ => hx _ _ _ _ _ (by decide)⟩⟩, rfl⟩
  · unfold SJ
    rw [hv, hx _ _ _ _ _ (by decide), hx _ _ _ _ _ (by decide)]
    exact h.sj hf'
  · rw [show RQ (sV M 5 n f 0 c v) n = RQ M n from rfl, FL_eq (M := M) (M' := sV M 5 n f 0 c v) (fun c' f' _ _ => ⟨hx _ _ _ _ _ (by decide), hx _ _ _ _ _ (by decide)⟩)]
    omega
  · rw [show RQ (sV M 5 n f 0 c v) n = RQ M n from rfl, FF_eq (M := M) (M' := sV M 5 n f 0 c v) (fun f' _ => hx _ _ _ _ _ (by decide))]
    omega
/-- a store is done: content and version -/
theorem ST.stored {hp' : AH} {M2 : MS} {x : Int32} (h : ST hp M zB tB n clk cc K D ev r j s e) (hj : j ≤ RQ M n) (hf : f < 12) (hxo : cOk x) (e2 : M2 = sV (sV M 4 n f 0 0 x) 4 n f 0 1 (gV (sV M 4 n f 0 0 x) 4 n f 0 1 + 1)) (hR : Rep hp' M2) {e' : Nat → Nat} (he : ∀ c, c < 4 → e' c ≤ e c + 1) : ST hp' M2 zB tB n clk cc K D ev r (j + 1) (s + 1) e' ∧ MR M M2 n clk := by
  have hs := h.sj hf
  have hb : vrs M n f < 2 ^ 30 := by
    have h4 := h.2.2.2.2.2.2.1 f hf
    have hc := h.2.2.1.1.1
    omega
  have hx : ∀ g n' a b k', ¬ (g = 4 ∧ n' = n ∧ a = f ∧ b = 0 ∧ (k' = 0 ∨ k' = 1)) → gV M2 g n' a b k' = gV M g n' a b k' := fun g n' a b k' q => by rw [e2, sV_ne (by omega), sV_ne (by omega)]
  have h1 : gV M2 4 n f 0 1 = nI (vrs M n f + 1) := by
    rw [e2, sV_self, sV_ne (by omega), hs.2.1]
    exact nI_add _ 1
  have h0 : gV M2 4 n f 0 0 = x := by rw [e2, sV_ne (by omega), sV_self]
  have hvf : vrs M2 n f = vrs M n f + 1 := by show vN _ = _; rw [h1, vN_nI (by omega)]
  have hv : ∀ f', f' ≠ f → vrs M2 n f' = vrs M n f' := fun f' hne => by show vN _ = vN _; rw [hx _ _ _ _ _ (fun q => hne q.2.2.1)]
  have hv2 : ∀ f', vrs M n f' ≤ vrs M2 n f' ∧ vrs M2 n f' ≤ vrs M n f' + 1 := fun f' => by
    by_cases hne : f' = f
    · subst hne; omega
    · rw [hv f' hne]; omega
  have hT : ∀ y n' a, gT M2 y n' a = gT M y n' a ∧ gP M2 y n' a = gP M y n' a := fun y n' a => by subst e2; exact ⟨rfl, rfl⟩
  have hrq : RQ M2 n = RQ M n := RQ_eq (fun f _ => (hT 1 n f).1)
  refine ⟨⟨hR, h.2.1.of (by subst e2; rfl) (by subst e2; rfl) (fun y n' a => (hT y n' a).2), h.2.2.1.shelf (fun g n' a b k q _ => hx _ _ _ _ _ (by omega)) (fun a => (hT 0 n a).1) (fun a => (hT 2 n a).1) (fun f' _ => (hv2 f').1) (fun f' hf' => ?_), h.2.2.2.num (fun k => (hT 2 n k).1) (fun c => hx _ _ _ _ _ (by omega)) ?_ (fun c hc => ?_) (fun f' _ => by rw [hrq]; have := (hv2 f').2; omega)⟩, ⟨by subst e2; exact (G0.sv _ _ _ _ _ _ _).trans (G0.sv _ _ _ _ _ _ _), fun c _ => ⟨hx _ _ _ _ _ (by omega), hx _ _ _ _ _ (by omega), by rw [hx _ _ _ _ _ (by omega)]; exact Nat.le_refl _⟩, fun f' _ => ⟨(hv2 f').1, fun q => ?_⟩⟩, (hT 2 n _).1⟩
  · unfold SJ
    rw [(hT 1 n f').1]
    have h9 := h.sj hf'
    by_cases hne : f' = f
    · subst hne; rw [h0, hvf]; exact ⟨hxo, h1, h9.2.2⟩
    · rw [hv f' hne, hx _ _ _ _ _ (fun q => hne q.2.2.1), hx _ _ _ _ _ (fun q => hne q.2.2.1)]; exact h9
  · rw [hrq, FL_eq (M := M) (M' := M2) (fun c' f' _ _ => ⟨hx _ _ _ _ _ (by omega), hx _ _ _ _ _ (by omega)⟩)]
    omega
  · rw [hrq, FF_eq (M := M) (M' := M2) (fun f' _ => hx _ _ _ _ _ (by omega))]
    have := he c hc
    omega
  · by_cases hne : f' = f
    · subst hne; omega
    · exact hx _ _ _ _ _ (fun q => hne q.2.2.1)
/-- the requests that are done go -/
theorem ST.drop {hp' : AH} (h : ST hp M zB tB n clk cc K D ev r p 0 (fun _ => 0)) (hn : n < 2) (hf : f < 12) (hm : p ≤ (gT M 1 n f).length) (hR : Rep hp' (sW M (mz M) (mt M) 1 n f ((gT M 1 n f).drop p) (gP M 1 n f))) : ST hp' (sW M (mz M) (mt M) 1 n f ((gT M 1 n f).drop p) (gP M 1 n f)) zB tB n clk cc K D ev r 0 0 (fun _ => 0) ∧ MR M (sW M (mz M) (mt M) 1 n f ((gT M 1 n f).drop p) (gP M 1 n f)) n clk := by
  have hrq : RQ (sW M (mz M) (mt M) 1 n f ((gT M 1 n f).drop p) (gP M 1 n f)) n + p = RQ M n := by
    have hu := sN_upd (k := 12) (i := f) (f := fun f => (gT M 1 n f).length) (g := fun f' => (gT (sW M (mz M) (mt M) 1 n f ((gT M 1 n f).drop p) (gP M 1 n f)) 1 n f').length) hf (fun f' _ hne => by show (gT (sW M _ _ 1 n f _ _) 1 n f').length = _; rw [gT_sWn (fun q => hne q.2.2)])
    simp only [gT_sW, List.length_drop] at hu
    show sN 12 _ + p = sN 12 _
    omega
  refine ⟨⟨hR, h.2.1.gr (vt1 hn hf) (Or.inl ⟨rfl, rfl, rfl⟩) (fun q => absurd q (Nat.lt_irrefl _)), h.2.2.1.shelf (fun _ _ _ _ _ _ _ => rfl) (fun a => gT_sWn (by omega)) (fun a => gT_sWn (by omega)) (fun _ _ => Nat.le_refl _) (fun f' hf' => ?_), h.2.2.2.num (fun k => gT_sWn (by omega)) (fun _ => rfl) (by show RQ _ n + 0 + FL M n + p ≤ RQ M n + 0 + FL M n + 0; omega) (fun c _ => by show RQ _ n + 0 + FF M n + p ≤ RQ M n + 0 + FF M n + 0; omega) (fun f' _ => by show vrs M n f' + RQ _ n + p ≤ vrs M n f' + RQ M n + 0; omega)⟩, ⟨G0.sw _ _ _ _ _ _ _ _, FC.rfl' _ _, FV.rfl' _ _⟩, gT_sWn (by omega)⟩
  obtain ⟨s1, s2, s3⟩ := h.sj hf'
  refine ⟨s1, s2, fun q hq => ?_⟩
  by_cases hne : f' = f
  · subst hne; rw [gT_sW] at hq; exact s3 q (List.mem_of_mem_drop hq)
  · rw [gT_sWn (fun q => hne q.2.2)] at hq; exact s3 q hq
/-- a step that leaves the requests -/
def MU (M M' : MS) (n clk : Nat) : Prop := MR M M' n clk ∧ ∀ a, gT M' 1 n a = gT M 1 n a
theorem MU.rfl' (M : MS) (n clk : Nat) : MU M M n clk := ⟨MR.rfl' M n clk, fun _ => rfl⟩
theorem MU.trans {M M' M'' : MS} {n clk : Nat} (h : MU M M' n clk) (h' : MU M' M'' n clk) : MU M M'' n clk := ⟨h.1.trans h'.1, fun a => (h'.2 a).trans (h.2 a)⟩
theorem MU_snd (M : MS) {n clk k : Nat} (hk : k ≠ clk % 9) (q : Row) : MU M (snd M n k q) n clk := ⟨MR_snd M hk q, fun a => snd_T' _ _ _ _ (by decide) _ _⟩
theorem w_others_46 (hn : n < 2) (hf : f < 12) {M0 : MS} (x y : Int32) : ∀ (m o : Nat), cc - o = m → o ≤ cc → ∀ (hp : AH) (M : MS), ST hp M zB tB n clk cc K D ev r j 0 (fun c => if c < o then 0 else 1) → j ≤ RQ M n → MU M0 M n clk → WP L xs (d + 3) mX2_callOthers 46 [some (.ref (xi 0 n 0 0)), some (.int (nI f)), some (.int x), some (.ref (xi 4 n f 0)), some (.int y), some (.int (nI o))] [] hp (fun v hp' => retOk mX2_callOthers.2.2.2 v ∧ v = none ∧ ∃ M', ST hp' M' zB tB n clk cc K D ev r j 0 (fun _ => 0) ∧ MU M0 M' n clk) := by
  intro m
  induction m using Nat.strongRecOn with
  | ind m ih =>
    intro o hm ho0 hp M h hj hM
    obtain ⟨b1, b2, b3, b4, b5⟩ := h.2.2.1.1
    subst hm
    refine wp_iload dX2_callOthers_46 rfl ?_
    refine wp_aload_n (i := 0) dX2_callOthers_48 rfl rfl ?_
    refine wr_get (g := 0) (n := n) (a := 0) (b := 0) (k := 4) dX2_callOthers_49 h.1 f_X2_44 (vs0 hn (by decide)) (by decide) (by decide) ?_
    refine wp_icmp_ge (tgt := 93) dX2_callOthers_52 (by decide) (fun c52 => ?_) (fun c52 => ?_)
    · skip
      refine wp_ret (v := none) dX2_callOthers_93 rfl ?_
      exact ⟨trivial, rfl, M, h.weak (Nat.le_refl _) (Nat.le_refl _) (fun c' _ => by show 0 + j ≤ _; omega), hM⟩
    · skip
      rw [b4] at c52
      have hoc : o < cc := (nI_ltI (by omega) (by omega)).mp c52
      have ho4 : o < 4 := by omega
      refine wp_iload dX2_callOthers_55 rfl ?_
      refine wp_iload dX2_callOthers_57 rfl ?_
      refine wp_icmp_eq (tgt := 87) dX2_callOthers_59 (by decide) (fun c59 => ?_) (fun c59 => ?_)
      · skip
        refine wp_iinc (v := nI (o + 1)) dX2_callOthers_87 rfl (nI_1 _) ?_
        refine wp_goto (tgt := 46) dX2_callOthers_90 (by decide) ?_
        exact ih (cc - (o + 1)) (by omega) (o + 1) rfl (by omega) _ _ (h.weak (Nat.le_refl _) (Nat.le_refl _) (fun c' _ => by
          show (if c' < o + 1 then 0 else 1) + j ≤ (if c' < o then 0 else 1) + j
          split <;> split <;> omega)) hj hM
      · skip
        refine wp_aload_n (i := 3) dX2_callOthers_62 rfl rfl ?_
        refine wp_iload dX2_callOthers_63 rfl ?_
        refine wp_aload_n (i := 0) dX2_callOthers_65 rfl rfl ?_
        refine wr_get (g := 0) (n := n) (a := 0) (b := 0) (k := 0) dX2_callOthers_66 h.1 f_X2_62 (vs0 hn (by decide)) (by decide) (by decide) ?_
        refine wp_callV (N := mX3_isLeased) dX2_callOthers_69 l_X2_199 v_X3_isLeased rfl (h.1.oo (vs4 hn hf (k := 0) (by decide)) (by decide)) rfl (by decide) (s_isLeased h.1 hn hf ho4 _) (fun v hp9 hq => ?_)
        obtain ⟨rfl, rfl⟩ := hq
        refine wp_if_eq (tgt := 87) dX2_callOthers_72 (by decide) (fun c72 => ?_) (fun c72 => ?_)
        · skip
          refine wp_iinc (v := nI (o + 1)) dX2_callOthers_87 rfl (nI_1 _) ?_
          refine wp_goto (tgt := 46) dX2_callOthers_90 (by decide) ?_
          exact ih (cc - (o + 1)) (by omega) (o + 1) rfl (by omega) _ _ (h.weak (Nat.le_refl _) (Nat.le_refl _) (fun c' _ => by
            show (if c' < o + 1 then 0 else 1) + j ≤ (if c' < o then 0 else 1) + j
            split <;> split <;> omega)) hj hM
        · skip
          refine wp_aload_n (i := 0) dX2_callOthers_75 rfl rfl ?_
          refine wp_bipush (v := nI 6) dX2_callOthers_76 (by decide) ?_
          refine wp_iload dX2_callOthers_78 rfl ?_
          refine wp_iload_n (i := 1) dX2_callOthers_80 rfl rfl ?_
          refine wp_iconst (v := 0) dX2_callOthers_81 rfl ?_
          refine wp_iconst (v := 0) dX2_callOthers_82 rfl ?_
          refine wp_iconst (v := 0) dX2_callOthers_83 rfl ?_
          refine wp_callV (N := mX2_send) (as := [.int (nI 6), .int (nI o), .int (nI f), .int 0, .int 0, .int 0]) dX2_callOthers_84 l_X2_101 v_X2_send rfl (h.1.oo (vs0 hn (k := 0) (by decide)) (by decide)) rfl (by decide) (s_sendC h hn hj hoc hf 0 (e' := fun c => if c < o + 1 then 0 else 1) (fun c' _ => by
            show (if c' < o + 1 then 0 else 1) + (if c' = o then 1 else 0) ≤ if c' < o then 0 else 1
            split <;> split <;> split <;> omega)) (fun v hp8 hq => ?_)
          obtain ⟨rfl, k, q, hk, hS2⟩ := hq
          refine wp_iinc (v := nI (o + 1)) dX2_callOthers_87 rfl (nI_1 _) ?_
          refine wp_goto (tgt := 46) dX2_callOthers_90 (by decide) ?_
          exact ih (cc - (o + 1)) (by omega) (o + 1) rfl (by omega) _ _ hS2 (by rw [RQ_snd]; exact hj) (hM.trans (MU_snd _ hk q))
/-- the calls for a store that is first -/
theorem s_callOthers (h : ST hp M zB tB n clk cc K D ev r j 0 (fun _ => 0)) (hn : n < 2) (hj : j ≤ RQ M n) (hf : f < 12) (hp0 : p < (gT M 1 n f).length) : WM L xs (d + 3) mX2_callOthers [.ref (xi 0 n 0 0), .int (nI f), .int (nI p)] hp (fun v hp' => v = none ∧ ∃ M', ST hp' M' zB tB n clk cc K D ev r j 0 (fun _ => 0) ∧ MU M M' n clk) := by
  refine WM.of [some (.ref _), some (.int (nI f)), some (.int (nI p)), none, none, none] (by decide) rfl (Nat.le_of_ble_eq_true rfl) ?_
  refine wp_aload_n (i := 0) dX2_callOthers_0 rfl rfl ?_
  refine wr_netR (j := rS n) dX2_callOthers_1 h.1 f_X2_29 hn (Or.inr (Or.inl ⟨rfl, rfl⟩)) ?_
  refine wp_iload_n (i := 1) dX2_callOthers_4 rfl rfl ?_
  refine wr_aS (f := f) dX2_callOthers_5 h.1 rfl hn hf ?_
  refine wp_astore_n (i := 3) dX2_callOthers_6 rfl (Nat.le_of_ble_eq_true rfl) ?_
  refine wp_aload_n (i := 3) dX2_callOthers_7 rfl rfl ?_
  refine wr_get (g := 4) (n := n) (a := f) (b := 0) (k := 4) dX2_callOthers_8 h.1 f_X2_193 (vs4 hn hf (by decide)) (by decide) (by decide) ?_
  refine wp_if_ne (tgt := 26) dX2_callOthers_11 (by decide) (fun c11 => ?_) (fun c11 => ?_)
  · skip
    refine wp_ret (v := none) dX2_callOthers_26 rfl ?_
    refine ⟨trivial, rfl, M, h, MU.rfl' _ _ _⟩
  · skip
    refine wp_aload_n (i := 3) dX2_callOthers_14 rfl rfl ?_
    refine wr_sheR (j := xt 1 n f) dX2_callOthers_15 h.1 f_X2_179 hn hf (Or.inr ⟨rfl, rfl⟩) ?_
    refine wp_iload_n (i := 2) dX2_callOthers_18 rfl rfl ?_
    refine wp_iconst (v := 1) dX2_callOthers_19 rfl ?_
    refine wp_callV (N := mX4_get) dX2_callOthers_20 l_X2_69 v_X4_get rfl (h.1.oT (vt1 hn hf)) rfl (by decide) (s_get h.1 (vt1 hn hf) hp0 (c := 1) (by decide)) (fun v hp9 hq => ?_)
    obtain ⟨rfl, rfl⟩ := hq
    refine wp_if_ne (tgt := 27) dX2_callOthers_23 (by decide) (fun c23 => ?_) (fun c23 => ?_)
    · skip
      refine wp_aload_n (i := 3) dX2_callOthers_27 rfl rfl ?_
      refine wp_iconst (v := 1) dX2_callOthers_28 rfl ?_
      refine wr_put (g := 4) (n := n) (a := f) (b := 0) (k := 4) dX2_callOthers_29 h.1 (p_X2_193 rfl) (vs4 hn hf (by decide)) (by decide) (by decide) (okB rfl (by decide)) (fun hp2 hR1 => ?_)
      refine wp_aload_n (i := 3) dX2_callOthers_32 rfl rfl ?_
      refine wr_sheR (j := xt 1 n f) dX2_callOthers_33 hR1 f_X2_179 hn hf (Or.inr ⟨rfl, rfl⟩) ?_
      refine wp_iload_n (i := 2) dX2_callOthers_36 rfl rfl ?_
      refine wp_iconst (v := 0) dX2_callOthers_37 rfl ?_
      refine wp_callV (N := mX4_get) dX2_callOthers_38 l_X2_69 v_X4_get rfl (hR1.oT (vt1 hn hf)) rfl (by decide) (s_get hR1 (vt1 hn hf) hp0 (c := 0) (by decide)) (fun v hp9 hq => ?_)
      obtain ⟨rfl, rfl⟩ := hq
      refine wp_istore dX2_callOthers_41 (Nat.le_of_ble_eq_true rfl) ?_
      refine wp_iconst (v := 0) dX2_callOthers_43 rfl ?_
      refine wp_istore dX2_callOthers_44 (Nat.le_of_ble_eq_true rfl) ?_
      obtain ⟨hS1, hM1⟩ := h.seen (e' := fun c => if c < 0 then 0 else 1) hf (fun c' _ => by rw [c11]; show 1 + 0 ≤ 0 + 1; decide) hR1
      exact w_others_46 hn hf _ _ cc 0 rfl (Nat.zero_le _) _ _ hS1 hj ⟨hM1, fun _ => rfl⟩
    · skip
      refine wp_ret (v := none) dX2_callOthers_26 rfl ?_
      refine ⟨trivial, rfl, M, h, MU.rfl' _ _ _⟩
end SERVER
