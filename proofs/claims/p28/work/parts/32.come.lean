/-! ===== what comes, I ===== -/
section COME
variable {L : Nat} {xs : Nat → Int32} {d : Nat} {hp : AH} {M : MS} {zB tB n clk cc K : Nat} {D : Nat → Nat} {ev : Bool} {r j s : Nat} {e : Nat → Nat} {c f p : Nat}
/-- the next -/
theorem ST.next {q0 : Row} {s' : Nat} (h : ST hp M zB tB n clk cc K D ev r j s e) (h0 : (gT M 2 n (clk % 9))[r]? = some q0) (hs : s' ≤ s + if kdTh q0 then 1 else 0) : ST hp M zB tB n clk cc K D ev (r + 1) j s' e :=
  ⟨h.1, h.2.1, h.2.2.1, BB.next h.2.2.2 h0 hs⟩
/-- one more thing is lost -/
theorem ST.lost {hp' : AH} {v : Int32} (h : ST hp M zB tB n clk cc K D ev r j s e) (hc : c < cc) (hev : ev = true) (hR : Rep hp' (sV M 1 n c 0 11 v)) : ST hp' (sV M 1 n c 0 11 v) zB tB n clk cc K D ev r j s e ∧ MR M (sV M 1 n c 0 11 v) n clk := by
  obtain ⟨l, hI⟩ := (h.cj hc).1
  have hC := h.cj hc
  have hO := OC.sv1 M n c 11 v
  have hx : ∀ g n' a b k', ¬ (g = 1 ∧ n' = n ∧ a = c ∧ b = 0 ∧ k' = 11) → gV (sV M 1 n c 0 11 v) g n' a b k' = gV M g n' a b k' := fun g n' a b k' q => sV_ne q
  refine ⟨⟨hR, h.2.1.of rfl rfl (fun _ _ _ => rfl), h.2.2.1.client hO (hC.of hO ⟨l, hI.of (hx _ _ _ _ _ (by omega)) (fun _ => hx _ _ _ _ _ (by omega)) (fun _ => ⟨hx _ _ _ _ _ (by omega), hx _ _ _ _ _ (by omega)⟩)⟩ (hx _ _ _ _ _ (by omega)) (fun q => ?_) hC.2.2.2.2.1 (fun f' hf' => ?_) (fun q => ?_)), hO.bj h.2.2.2 (hx _ _ _ _ _ (by omega)) ?_⟩, MR_oc hO (hx _ _ _ _ _ (by omega)) (hx _ _ _ _ _ (by omega)) (by rw [hx _ _ _ _ _ (by omega)]; exact Nat.le_refl _)⟩
  · rw [hx _ _ _ _ _ (by omega)] at q
    intro f hf
    rw [hx _ _ _ _ _ (by omega), hx _ _ _ _ _ (by omega)]; exact hC.2.2.2.1 q f hf
  · rw [hx _ _ _ _ _ (by omega), hx _ _ _ _ _ (by omega)]; exact hC.2.2.2.2.2.1 f' hf'
  · rw [hev] at q; exact absurd q (by decide)
  · rw [FL_eq (M := M) (M' := sV M 1 n c 0 11 v) (fun c' f' _ _ => ⟨hx _ _ _ _ _ (by omega), hx _ _ _ _ _ (by omega)⟩)]
    exact Nat.le_refl _
/-- a request comes -/
theorem ST.req {hp' : AH} {q0 q : Row} (h : ST hp M zB tB n clk cc K D ev r 0 0 (fun _ => 0)) (hn : n < 2) (hf : f < 12) (h0 : (gT M 2 n (clk % 9))[r]? = some q0) (hq0 : kdR q0 = true) (hq : QJ cc q) (hR : Rep hp' (sW M (aZ M 1 n f) (aT M 1 n f) 1 n f (gT M 1 n f ++ [q]) (aP M 1 n f))) : ST hp' (sW M (aZ M 1 n f) (aT M 1 n f) 1 n f (gT M 1 n f ++ [q]) (aP M 1 n f)) zB tB n clk cc K D ev (r + 1) 0 0 (fun _ => 0) ∧ MR M (sW M (aZ M 1 n f) (aT M 1 n f) 1 n f (gT M 1 n f ++ [q]) (aP M 1 n f)) n clk := by
  have hB := BB.req h.2.2.2 h0 hq0
  have hb := BB.reqs hB
  have hrows := rows_RQ M n hf
  have hrq : RQ (sW M (aZ M 1 n f) (aT M 1 n f) 1 n f (gT M 1 n f ++ [q]) (aP M 1 n f)) n = RQ M n + 1 := by
    have hu := sN_upd (k := 12) (i := f) (f := fun f => (gT M 1 n f).length) (g := fun f' => (gT (sW M (aZ M 1 n f) (aT M 1 n f) 1 n f (gT M 1 n f ++ [q]) (aP M 1 n f)) 1 n f').length) hf (fun f' _ hne => by show (gT (sW M _ _ 1 n f _ _) 1 n f').length = _; rw [gT_sWn (fun q => hne q.2.2)])
    simp only [gT_sW, List.length_append, List.length_singleton] at hu
    show sN 12 _ = sN 12 _ + 1
    omega
  refine ⟨⟨hR, h.2.1.add h.1 (vt1 hn hf) (by show _ ≤ 2600; omega), h.2.2.1.shelf (fun _ _ _ _ _ _ _ => rfl) (fun a => gT_sWn (by omega)) (fun a => gT_sWn (by omega)) (fun _ _ => Nat.le_refl _) (fun f' hf' => ?_), ?_⟩, ⟨G0.sw _ _ _ _ _ _ _ _, FC.rfl' _ _, FV.rfl' _ _⟩, gT_sWn (by omega)⟩
  · obtain ⟨s1, s2, s3⟩ := h.sj hf'
    refine ⟨s1, s2, fun q' hq' => ?_⟩
    by_cases hne : f' = f
    · subst hne
      rw [gT_sW, List.mem_append, List.mem_singleton] at hq'
      rcases hq' with hq' | hq'
      · exact s3 q' hq'
      · subst hq'; exact hq
    · rw [gT_sWn (fun q => hne q.2.2)] at hq'; exact s3 q' hq'
  · unfold BJ
    rw [hrq, show (fun k => gT (sW M (aZ M 1 n f) (aT M 1 n f) 1 n f (gT M 1 n f ++ [q]) (aP M 1 n f)) 2 n k) = (fun k => gT M 2 n k) from funext (fun k => gT_sWn (by omega))]
    exact hB
/-- the flags of one file of a client -/
theorem FL_one {M' : MS} (hc : c < 4) (hf : f < 12) (hO : OC M M' n c) (h : ∀ g, g ≠ f → gV M' 2 n c g 6 = gV M 2 n c g 6 ∧ gV M' 2 n c g 7 = gV M 2 n c g 7) (h1 : gV M' 2 n c f 6 = gV M 2 n c f 6 ∨ gV M' 2 n c f 7 = gV M 2 n c f 7) : FL M n ≤ FL M' n + 1 := by
  have hu := FL_upd (M := M) (M' := M') (n := n) hc hf (fun c' f' _ _ hne => by
    by_cases hcc : c' = c
    · subst hcc; exact h f' (fun q => hne ⟨rfl, q⟩)
    · exact ⟨hO.1 2 n c' f' 6 (fun q => hcc q.2.1), hO.1 2 n c' f' 7 (fun q => hcc q.2.1)⟩)
  have b1 := bz_le (gV M 2 n c f 6)
  have b2 := bz_le (gV M 2 n c f 7)
  rcases h1 with e9 | e9 <;> rw [e9] at hu <;> omega
/-- contents and versions -/
theorem HR.hj {M' : MS} {x w : Int32} (hH : HR M M' n c f x w) (hh : ∀ f, f < 12 → HJ M n c f) (hx : cOk x) (hw : w = nI (vN w) ∧ vN w ≤ vrs M n f) : ∀ f', f' < 12 → cOk (gV M' 2 n c f' 1) ∧ gV M' 2 n c f' 2 = nI (vN (gV M' 2 n c f' 2)) ∧ vN (gV M' 2 n c f' 2) ≤ vrs M n f' := by
  intro f' hf'
  obtain ⟨a1, a2, a3⟩ := hh f' hf'
  refine ⟨?_, ?_⟩
  · rcases hH.1 f' with q | ⟨-, q⟩
    · rw [q]; exact a1
    · rw [q]; exact hx
  · rcases hH.2.1 f' with q | ⟨e9, q⟩
    · rw [q]; exact ⟨a2, a3⟩
    · rw [q, e9]; exact hw
/-- a file is given -/
theorem ST.given {hp' : AH} {M' : MS} {x w : Int32} (h : ST hp M zB tB n clk cc K D ev r j (s + 1) e) (hc : c < cc) (hf : f < 12) (hx : cOk x) (hw : w = nI (vN w) ∧ vN w ≤ vrs M n f) (h6 : gV M 1 n c 0 6 = 0) (hG : GvR M M' n c f x w) (hR : Rep hp' M') : ST hp' M' zB tB n clk cc K D ev r j s e ∧ MR M M' n clk := by
  have hC := h.cj hc
  obtain ⟨g1, g2, g3, g4, g5⟩ := hG
  have hO := g2.oc
  have hk : ∀ k, k ≠ 2 → gV M' 1 n c 0 k = gV M 1 n c 0 k := fun k hk => g2.1 1 n c 0 k (by omega)
  have hT : ∀ y n' a, gT M' y n' a = gT M y n' a ∧ gP M' y n' a = gP M y n' a := fun y n' a => by unfold gT gP; rw [g2.2.2.2]; exact ⟨rfl, rfl⟩
  refine ⟨⟨hR, h.2.1.of g2.2.1 g2.2.2.1 (fun y n' a => (hT y n' a).2), h.2.2.1.client hO (hC.of hO g1 (hk 4 (by decide)) (fun q => absurd ((hk 6 (by decide)).trans h6) q) (by rw [(hT 0 n c).1]; exact hC.2.2.2.2.1) (g3.hj hC.2.2.2.2.2.1 hx hw) (fun q => by rw [hk 6 (by decide), hk 11 (by decide)]; exact hC.2.2.2.2.2.2 q)), hO.bj h.2.2.2 (hk 9 (by decide)) (by have := FL_one (h.lt hc) hf hO g3.2.2 (Or.inr g5); omega)⟩, MR_oc hO (hk 7 (by decide)) (hk 8 (by decide)) (by rw [hk 9 (by decide)]; exact Nat.le_refl _)⟩
theorem stored_get (M : MS) (n c f : Nat) (x w u : Int32) (g n' a b k : Nat) (hg : ¬ (g = 2 ∧ n' = n ∧ a = c ∧ b = f)) : gV (mStored M n c f x w u) g n' a b k = gV M g n' a b k := by
  unfold mStored
  split
  · rw [sV_ne (by omega)]
  · split
    · rw [sV_ne (by omega), sV_ne (by omega), sV_ne (by omega), sV_ne (by omega)]
    · rw [sV_ne (by omega), sV_ne (by omega), sV_ne (by omega)]
theorem stored_own (M : MS) (n c f : Nat) (x w u : Int32) : gV (mStored M n c f x w u) 2 n c f 0 = gV M 2 n c f 0 ∧ gV (mStored M n c f x w u) 2 n c f 1 = gV M 2 n c f 1 ∧ (gV (mStored M n c f x w u) 2 n c f 2 = gV M 2 n c f 2 ∨ gV (mStored M n c f x w u) 2 n c f 2 = w) ∧ (gV (mStored M n c f x w u) 2 n c f 4 = gV M 2 n c f 4 ∨ gV (mStored M n c f x w u) 2 n c f 4 = 0) ∧ gV (mStored M n c f x w u) 2 n c f 6 = gV M 2 n c f 6 := by
  unfold mStored
  split
  · simp [gV_sV]
  · split
    · simp [gV_sV]
    · simp [gV_sV]
theorem stored_T (M : MS) (n c f : Nat) (x w u : Int32) : mz (mStored M n c f x w u) = mz M ∧ mt (mStored M n c f x w u) = mt M ∧ (∀ y n' a, gT (mStored M n c f x w u) y n' a = gT M y n' a ∧ gP (mStored M n c f x w u) y n' a = gP M y n' a) ∧ ∀ i, gX (mStored M n c f x w u) i = gX M i := by
  unfold mStored
  split
  · exact ⟨rfl, rfl, fun _ _ _ => ⟨rfl, rfl⟩, fun _ => rfl⟩
  · split <;> exact ⟨rfl, rfl, fun _ _ _ => ⟨rfl, rfl⟩, fun _ => rfl⟩
/-- a file is stored -/
theorem ST.kept {hp' : AH} {x w u : Int32} (h : ST hp M zB tB n clk cc K D ev r j (s + 1) e) (hc : c < cc) (hf : f < 12) (hw : w = nI (vN w) ∧ vN w ≤ vrs M n f) (h6 : gV M 1 n c 0 6 = 0) (hR : Rep hp' (mStored M n c f x w u)) : ST hp' (mStored M n c f x w u) zB tB n clk cc K D ev r j s e ∧ MR M (mStored M n c f x w u) n clk := by
  have hC := h.cj hc
  obtain ⟨l, i1, i2, i3, i4, i5⟩ := hC.1
  obtain ⟨o0, o1, o2, o4, o6⟩ := stored_own M n c f x w u
  obtain ⟨t1, t2, t3, t4⟩ := stored_T M n c f x w u
  have hg := stored_get M n c f x w u
  have hO : OC M (mStored M n c f x w u) n c := ⟨fun g n' a b k q => hg g n' a b k (fun p => q ⟨p.2.1, p.2.2.1, by omega⟩), fun y n' a _ => t3 y n' a, t4⟩
  have hk : ∀ k, gV (mStored M n c f x w u) 1 n c 0 k = gV M 1 n c 0 k := fun k => hg _ _ _ _ _ (by omega)
  have hI : CI (mStored M n c f x w u) n c l := by
    refine ⟨i1.oth (hk 2) (fun k => hg _ _ _ _ _ (by omega)), i2, i3, fun g hgl => ?_, fun g hgl hd => ?_⟩
    · by_cases e9 : g = f
      · subst e9; rw [o0]; exact i4 g hgl
      · rw [hg _ _ _ _ _ (by omega)]; exact i4 g hgl
    · by_cases e9 : g = f
      · subst e9
        rcases o4 with q | q
        · rw [q] at hd; exact i5 g hgl hd
        · exact absurd q hd
      · rw [hg _ _ _ _ _ (by omega)] at hd; exact i5 g hgl hd
  refine ⟨⟨hR, h.2.1.of t1 t2 (fun y n' a => (t3 y n' a).2), h.2.2.1.client hO (hC.of hO ⟨l, hI⟩ (hk 4) (fun q => absurd ((hk 6).trans h6) q) (by rw [(t3 0 n c).1]; exact hC.2.2.2.2.1) (fun f' hf' => ?_) (fun q => by rw [hk 6, hk 11]; exact hC.2.2.2.2.2.2 q)), hO.bj h.2.2.2 (hk 9) (by have := FL_one (h.lt hc) hf hO (fun g hne => ⟨hg _ _ _ _ _ (by omega), hg _ _ _ _ _ (by omega)⟩) (Or.inl o6); omega)⟩, MR_oc hO (hk 7) (hk 8) (by rw [hk 9]; exact Nat.le_refl _)⟩
  obtain ⟨a1, a2, a3⟩ := hC.2.2.2.2.2.1 f' hf'
  by_cases e9 : f' = f
  · subst e9
    rw [o1]
    refine ⟨a1, ?_⟩
    rcases o2 with q | q
    · rw [q]; exact ⟨a2, a3⟩
    · rw [q]; exact hw
  · rw [hg _ _ _ _ _ (by omega), hg _ _ _ _ _ (by omega)]; exact ⟨a1, a2, a3⟩
/-- a CLASH has come -/
theorem ST.clash {hp' : AH} {M' : MS} {x w : Int32} {q0 : Row} (h : ST hp M zB tB n clk cc K D ev r j s e) (hn : n < 2) (hc : c < cc) (hf : f < 12) (hx : cOk x) (hw : w = nI (vN w) ∧ vN w ≤ vrs M n f) (h6 : gV M 1 n c 0 6 = 0) (h0 : (gT M 2 n (clk % 9))[r]? = some q0) (hq0 : kdTh q0 = true) (hG : ClR M M' n c f x w) (hR : Rep hp' M') : ST hp' M' zB tB n clk cc K D ev (r + 1) j s e ∧ MR M M' n clk ∧ gV M' 1 n c 0 6 = 0 ∧ gV M' 2 n c f 7 = 0 := by
  have hC := h.cj hc
  obtain ⟨g1, g2, g3, g4, g5, g6, g7, g8, g9⟩ := hG
  have hk : ∀ k, k ≠ 2 → k ≠ 9 → gV M' 1 n c 0 k = gV M 1 n c 0 k := fun k hk hk' => by rw [g5 1 n c 0 k (by omega), sV_ne (by omega)]
  have hk9 : gV M' 1 n c 0 9 = gV M 1 n c 0 9 + 1 := by rw [g5 1 n c 0 9 (by omega), sV_self]
  have hO : OC M M' n c := ⟨fun g n' a b k q => by rw [g5 g n' a b k (by omega), sV_ne (by omega)], g6, g7⟩
  have hfl := FL_one (h.lt hc) hf hO g2.2.2 (Or.inl g3)
  have hcf := BB.conf h.2.2.2 h0 h.2.2.1.1.1 (c0 := c) (s' := s + 1) (by rw [if_pos hq0]; exact Nat.le_refl _) (G' := fun c => gV M' 1 n c 0 9) (fun c' _ => by
    by_cases hcc : c' = c
    · subst hcc; rw [if_pos rfl]; exact hk9
    · rw [if_neg hcc]; exact hO.1 1 n c' 0 9 (fun q => hcc q.2.1))
  have hB : BJ M' n clk K D (r + 1) j s e := by
    unfold BJ
    have hv : vrs M' n = vrs M n := funext hO.vrs
    rw [show (fun k => gT M' 2 n k) = (fun k => gT M 2 n k) from funext (fun k => (g6 2 n k (by omega)).1), hv, hO.rq, hO.ff]
    exact BB.num hcf.1 (by omega) ⟨FL_le _ _, FF_le _ _⟩ (fun _ _ => Nat.le_refl _) (fun _ _ => Nat.le_refl _)
  have hRI : RI zB tB M' := by
    obtain ⟨k1, k2, k3⟩ := h.2.1
    have hu := SC_upd (M := M) (M' := M') (vt0 hn (h.lt hc)) (fun y' n' a' hne => (g6 y' n' a' hne).2)
    have h9 := k3 0 n c (vt0 hn (h.lt hc))
    simp only [tw] at hu
    refine ⟨?_, ?_, fun y' n' a' ht => ?_⟩
    · rcases g9.1 with ⟨e1, e2, e3⟩ | ⟨e1, e2, e3⟩ <;> omega
    · rcases g9.1 with ⟨e1, e2, e3⟩ | ⟨e1, e2, e3⟩ <;> omega
    · by_cases hq : y' = 0 ∧ n' = n ∧ a' = c
      · obtain ⟨rfl, rfl, rfl⟩ := hq
        rcases g9.1 with ⟨e1, e2, e3⟩ | ⟨e1, e2, e3⟩
        · rw [e1]; exact h9
        · exact ⟨by rw [e1]; exact ch_next h9.1, g9.2 (by omega)⟩
      · rw [(g6 y' n' a' hq).2]; exact k3 y' n' a' ht
  refine ⟨⟨hR, hRI, h.2.2.1.client hO (hC.of hO g1 (hk 4 (by decide) (by decide)) (fun q => absurd ((hk 6 (by decide) (by decide)).trans h6) q) g8 (g2.hj hC.2.2.2.2.2.1 hx hw) (fun q => by rw [hk 6 (by decide) (by decide), hk 11 (by decide) (by decide)]; exact hC.2.2.2.2.2.2 q)), hB⟩, MR_oc hO (hk 7 (by decide) (by decide)) (hk 8 (by decide) (by decide)) (hcf.2 c (h.lt hc)), (hk 6 (by decide) (by decide)).trans h6, g4⟩
/-- a CALL has come -/
theorem ST.called {hp' : AH} {M' : MS} (h : ST hp M zB tB n clk cc K D ev r j s e) (hc : c < cc) (hf : f < 12) (h6 : gV M 1 n c 0 6 = 0) (hl : ∃ l', CI M' n c l') (hO1 : Oth (sV M 1 n c 0 10 (gV M 1 n c 0 10 + 1)) M' n c) (hH : HR (sV M 1 n c 0 10 (gV M 1 n c 0 10 + 1)) M' n c f 0 0) (hf6 : gV M' 2 n c f 6 = gV (sV M 1 n c 0 10 (gV M 1 n c 0 10 + 1)) 2 n c f 6) (hf7 : gV M' 2 n c f 7 = gV (sV M 1 n c 0 10 (gV M 1 n c 0 10 + 1)) 2 n c f 7) (hR : Rep hp' M') : ST hp' M' zB tB n clk cc K D ev r j s e ∧ MR M M' n clk := by
  have hC := h.cj hc
  have hO : OC M M' n c := (OC.sv1 M n c 10 _).trans hO1.oc
  have hk : ∀ k, k ≠ 2 → k ≠ 10 → gV M' 1 n c 0 k = gV M 1 n c 0 k := fun k hk hk' => by rw [hO1.1 1 n c 0 k (by omega), sV_ne (by omega)]
  have hT : ∀ y n' a, gT M' y n' a = gT M y n' a ∧ gP M' y n' a = gP M y n' a := fun y n' a => by unfold gT gP; rw [hO1.2.2.2]; exact ⟨rfl, rfl⟩
  have hH2 : HR M M' n c f 0 0 := ⟨fun g => by have := hH.1 g; rw [sV_ne (by omega)] at this; exact this, fun g => by have := hH.2.1 g; rw [sV_ne (by omega)] at this; exact this, fun g hg => by have := hH.2.2 g hg; rw [sV_ne (by omega), sV_ne (by omega)] at this; exact this⟩
  rw [sV_ne (by omega)] at hf6 hf7
  have hFL : FL M' n = FL M n := FL_eq (fun c' f' _ _ => by
    by_cases hcc : c' = c
    · subst hcc
      by_cases e9 : f' = f
      · subst e9; exact ⟨hf6, hf7⟩
      · exact hH2.2.2 f' e9
    · exact ⟨hO.1 2 n c' f' 6 (fun q => hcc q.2.1), hO.1 2 n c' f' 7 (fun q => hcc q.2.1)⟩)
  exact ⟨⟨hR, h.2.1.of hO1.2.1 hO1.2.2.1 (fun y n' a => (hT y n' a).2), h.2.2.1.client hO (hC.of hO hl (hk 4 (by decide) (by decide)) (fun q => absurd ((hk 6 (by decide) (by decide)).trans h6) q) (by rw [(hT 0 n c).1]; exact hC.2.2.2.2.1) (hH2.hj hC.2.2.2.2.2.1 (cOk_nI (k := 0) (by decide)) ⟨by decide, Nat.zero_le _⟩) (fun q => by rw [hk 6 (by decide) (by decide), hk 11 (by decide) (by decide)]; exact hC.2.2.2.2.2.2 q)), hO.bj h.2.2.2 (hk 9 (by decide) (by decide)) (by rw [hFL]; exact Nat.le_refl _)⟩, MR_oc hO (hk 7 (by decide) (by decide)) (hk 8 (by decide) (by decide)) (by rw [hk 9 (by decide) (by decide)]; exact Nat.le_refl _)⟩
end COME
