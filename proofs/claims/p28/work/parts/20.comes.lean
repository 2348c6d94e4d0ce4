theorem sV_ne {M : MS} {g n a b k : Nat} {v : Int32} {g' n' a' b' k' : Nat} (h : ¬ (g' = g ∧ n' = n ∧ a' = a ∧ b' = b ∧ k' = k)) : gV (sV M g n a b k v) g' n' a' b' k' = gV M g' n' a' b' k' := if_neg h
/-! ===== Client, V: what comes to a client ===== -/
/-- nothing outside the client's own files and order has changed -/
def Oth (M M' : MS) (n c : Nat) : Prop := (∀ g n' a b k, ¬ (n' = n ∧ a = c ∧ (g = 2 ∨ g = 3 ∨ (g = 1 ∧ b = 0 ∧ k = 2))) → gV M' g n' a b k = gV M g n' a b k) ∧ M'.1 = M.1 ∧ M'.2.1 = M.2.1 ∧ M'.2.2.2 = M.2.2.2
/-- contents and versions of a client's files are what they were, or x and w -/
def HR (M M' : MS) (n c f : Nat) (x w : Int32) : Prop := (∀ g, gV M' 2 n c g 1 = gV M 2 n c g 1 ∨ (g = f ∧ gV M' 2 n c g 1 = x)) ∧ (∀ g, gV M' 2 n c g 2 = gV M 2 n c g 2 ∨ (g = f ∧ gV M' 2 n c g 2 = w)) ∧ (∀ g, g ≠ f → gV M' 2 n c g 6 = gV M 2 n c g 6 ∧ gV M' 2 n c g 7 = gV M 2 n c g 7)
theorem Oth.rfl' (M : MS) (n c : Nat) : Oth M M n c := ⟨fun _ _ _ _ _ _ => rfl, rfl, rfl, rfl⟩
theorem Oth.trans {M M' M'' : MS} {n c : Nat} (h : Oth M M' n c) (h' : Oth M' M'' n c) : Oth M M'' n c := ⟨fun g n' a b k q => (h'.1 g n' a b k q).trans (h.1 g n' a b k q), h'.2.1.trans h.2.1, h'.2.2.1.trans h.2.2.1, h'.2.2.2.trans h.2.2.2⟩
theorem Oth.sv (M : MS) (n c f k : Nat) (v : Int32) : Oth M (sV M 2 n c f k v) n c := ⟨fun g n' a b k' q => by rw [gV_sV, if_neg]; rintro ⟨rfl, rfl, rfl, -, -⟩; exact q ⟨rfl, rfl, Or.inl rfl⟩, rfl, rfl, rfl⟩
theorem Oth.co (M : MS) (n c : Nat) (cnt : Int32) (F : Nat → Int32) (z : List Nat) : Oth M (cO M n c cnt F z) n c := ⟨fun g n' a b k' q => by
  unfold cO
  rw [gV_wV, if_neg (by omega), if_neg (by omega), if_neg (by omega), if_neg (by omega)], rfl, rfl, rfl⟩
theorem Oth.given (M : MS) (n c f : Nat) (x w u : Int32) : Oth M (mGiven M n c f x w u) n c :=
  ((((Oth.sv M n c f 0 1).trans (Oth.sv _ n c f 1 x)).trans (Oth.sv _ n c f 2 w)).trans (Oth.sv _ n c f 3 u)).trans (Oth.sv _ n c f 4 0)
theorem given_get (M : MS) (n c f : Nat) (x w u : Int32) (g k : Nat) : gV (mGiven M n c f x w u) 2 n c g k = if g = f then (match k with | 0 => 1 | 1 => x | 2 => w | 3 => u | 4 => 0 | _ => gV M 2 n c g k) else gV M 2 n c g k := by
  unfold mGiven
  simp only [gV_sV]
  by_cases h : g = f
  · subst h
    rw [if_pos rfl]
    match k with
    | 0 => simp
    | 1 => simp
    | 2 => simp
    | 3 => simp
    | 4 => simp
    | k + 5 => simp
  · rw [if_neg h, if_neg (by omega), if_neg (by omega), if_neg (by omega), if_neg (by omega), if_neg (by omega)]
theorem Ord.oth {M M' : MS} {n c : Nat} {l : List Nat} (h : Ord M n c l) (h1 : gV M' 1 n c 0 2 = gV M 1 n c 0 2) (h2 : ∀ k, gV M' 3 n c 0 k = gV M 3 n c 0 k) : Ord M' n c l :=
  ⟨h1.trans h.1, h.2.1, h.2.2.1, fun k f q => (h2 k).trans (h.2.2.2 k f q)⟩
theorem CI.sv {M : MS} {n c : Nat} {l : List Nat} (h : CI M n c l) {f k : Nat} (v : Int32) (hk : k ≠ 0 ∧ k ≠ 4) : CI (sV M 2 n c f k v) n c l := by
  obtain ⟨h1, h2, h3, h4, h5⟩ := h
  refine ⟨h1.oth (sV_ne (by omega)) (fun k' => sV_ne (by omega)), h2, h3, fun g hg => ?_, fun g hg => ?_⟩
  · rw [gV_sV, if_neg (by omega)]; exact h4 g hg
  · rw [gV_sV, if_neg (by omega)]; exact h5 g hg
theorem CI.left {M : MS} {n c : Nat} {l l' z : List Nat} {F : Nat → Int32} (h : CI M n c l) (hL : Left M n c l l' z) (hF : Lst F l') : CI (cO M n c (nI l'.length) F z) n c l' := by
  obtain ⟨h1, h2, h3, h4, h5⟩ := h
  obtain ⟨k1, k2, k3, k4⟩ := hL
  refine ⟨Ord.of_cO (Nat.le_trans k4 h1.2.1) (fun f hf => h1.2.2.1 f ((k1 f).mp hf).1) hF, k3, by omega, fun f hf => ?_, fun f hf hd => ?_⟩
  · by_cases hz : f ∈ z
    · have e : gV (cO M n c (nI l'.length) F z) 2 n c f 0 = 0 := by
        unfold cO
        rw [gV_wV, if_neg (by omega), if_neg (by omega), if_pos ⟨rfl, rfl, rfl, hz, rfl⟩]
      rw [e, k1]
      exact ⟨fun q => absurd rfl q, fun q => absurd hz q.2⟩
    · rw [cO_he _ _ _ _ _ _ _ _ (Or.inl hz), h4 f hf, k1]
      exact ⟨fun q => ⟨q, hz⟩, fun q => q.1⟩
  · rw [cO_he _ _ _ _ _ _ _ _ (Or.inr ⟨by decide, by decide⟩)] at hd
    exact (k1 f).mpr ⟨h5 f hf hd, fun hz => hd (k2 f hz).2⟩
theorem mem_useL {l : List Nat} {f g : Nat} (hn : l.Nodup) : g ∈ useL l f ↔ g = f ∨ g ∈ l := by
  unfold useL
  rw [List.mem_cons, hn.mem_erase_iff]
  constructor
  · rintro (h | h); exact Or.inl h; exact Or.inr h.2
  · rintro (h | h)
    · exact Or.inl h
    · by_cases hg : g = f
      · exact Or.inl hg
      · exact Or.inr ⟨hg, h⟩
theorem useL_nodup {l : List Nat} {f : Nat} (hn : l.Nodup) : (useL l f).Nodup := by
  unfold useL
  rw [List.nodup_cons]
  exact ⟨fun h => (hn.mem_erase_iff.mp h).1 rfl, hn.erase f⟩
/-- given and used -/
theorem CI.use {M : MS} {n c : Nat} {l : List Nat} {F : Nat → Int32} (h1 : Ord M n c l) (h2 : l.Nodup) {f : Nat} (hf : f < 12) (hl : (useL l f).length ≤ 6) (h4 : ∀ g, g < 12 → (¬ gV M 2 n c g 0 = 0 ↔ g = f ∨ g ∈ l)) (h5 : ∀ g, g < 12 → ¬ gV M 2 n c g 4 = 0 → g = f ∨ g ∈ l) (hF : Lst F (useL l f)) : CI (cO M n c (nI (useL l f).length) F []) n c (useL l f) := by
  refine ⟨Ord.of_cO (by omega) (fun g hg => ?_) hF, useL_nodup h2, hl, fun g hg => ?_, fun g hg hd => ?_⟩
  · rcases (mem_useL h2).mp hg with rfl | q
    · exact hf
    · exact h1.2.2.1 g q
  · rw [cO_he _ _ _ _ _ _ _ _ (Or.inl List.not_mem_nil), mem_useL h2]; exact h4 g hg
  · rw [cO_he _ _ _ _ _ _ _ _ (Or.inl List.not_mem_nil)] at hd
    exact (mem_useL h2).mpr (h5 g hg hd)
section CLIENT5
variable {L : Nat} {xs : Nat → Int32} {d : Nat} {hp : AH} {M : MS} {n c : Nat} {Q : Option Value → AH → Prop}
theorem HR.co (M : MS) (n c f : Nat) (x w : Int32) (cnt : Int32) (F : Nat → Int32) (z : List Nat) : HR M (cO M n c cnt F z) n c f x w :=
  ⟨fun g => Or.inl (cO_he _ _ _ _ _ _ _ _ (Or.inr ⟨by decide, by decide⟩)), fun g => Or.inl (cO_he _ _ _ _ _ _ _ _ (Or.inr ⟨by decide, by decide⟩)), fun g _ => ⟨cO_he _ _ _ _ _ _ _ _ (Or.inr ⟨by decide, by decide⟩), cO_he _ _ _ _ _ _ _ _ (Or.inr ⟨by decide, by decide⟩)⟩⟩
theorem HR.given (M : MS) (n c f : Nat) (x w u : Int32) : HR M (mGiven M n c f x w u) n c f x w := by
  refine ⟨fun g => ?_, fun g => ?_, fun g hg => ⟨by rw [given_get, if_neg hg], by rw [given_get, if_neg hg]⟩⟩
  · rw [given_get]
    by_cases h : g = f
    · rw [if_pos h]; exact Or.inr ⟨h, rfl⟩
    · rw [if_neg h]; exact Or.inl rfl
  · rw [given_get]
    by_cases h : g = f
    · rw [if_pos h]; exact Or.inr ⟨h, rfl⟩
    · rw [if_neg h]; exact Or.inl rfl
theorem HR.trans {M M' M'' : MS} {n c f : Nat} {x w : Int32} (h : HR M M' n c f x w) (h' : HR M' M'' n c f x w) : HR M M'' n c f x w := by
  refine ⟨fun g => ?_, fun g => ?_, fun g hg => ⟨(h'.2.2 g hg).1.trans (h.2.2 g hg).1, (h'.2.2 g hg).2.trans (h.2.2 g hg).2⟩⟩
  · rcases h'.1 g with q | q
    · rw [q]; exact h.1 g
    · exact Or.inr q
  · rcases h'.2.1 g with q | q
    · rw [q]; exact h.2.1 g
    · exact Or.inr q
theorem HR.sv (M : MS) (n c f k : Nat) (x w v : Int32) (hk : k ≠ 1 ∧ k ≠ 2) : HR M (sV M 2 n c f k v) n c f x w :=
  ⟨fun g => Or.inl (sV_ne (by omega)), fun g => Or.inl (sV_ne (by omega)), fun g hg => ⟨sV_ne (fun q => hg q.2.2.2.1), sV_ne (fun q => hg q.2.2.2.1)⟩⟩

/-- what a given file leaves behind at its client -/
def GvR (M M' : MS) (n c f : Nat) (x w : Int32) : Prop := (∃ l', CI M' n c l') ∧ Oth M M' n c ∧ HR M M' n c f x w ∧ gV M' 2 n c f 6 = 0 ∧ gV M' 2 n c f 7 = gV M 2 n c f 7
theorem GvR.skip {M : MS} {n c f : Nat} {x w : Int32} {l l' z : List Nat} {F : Nat → Int32} (hI : CI M n c l) (hL : Left (sV M 2 n c f 6 0) n c l l' z) (hF : Lst F l') : GvR M (cO (sV M 2 n c f 6 0) n c (nI l'.length) F z) n c f x w :=
  ⟨⟨l', (hI.sv 0 (by decide)).left hL hF⟩, (Oth.sv M n c f 6 0).trans (Oth.co _ _ _ _ _ _), (HR.sv M n c f 6 x w 0 (by decide)).trans (HR.co _ _ _ _ _ _ _ _ _), by rw [cO_he _ _ _ _ _ _ _ _ (Or.inr ⟨by decide, by decide⟩)]; exact sV_self _ _ _ _ _ _ _, by rw [cO_he _ _ _ _ _ _ _ _ (Or.inr ⟨by decide, by decide⟩)]; exact sV_ne (by omega)⟩
theorem GvR.given {M M0 : MS} {n c f : Nat} {x w u : Int32} {l0 : List Nat} {F : Nat → Int32} (hf : f < 12) (hO : Oth M M0 n c) (hH : HR M M0 n c f x w) (h6 : gV M0 2 n c f 6 = 0) (h7 : gV M0 2 n c f 7 = gV M 2 n c f 7) (hI : CI M0 n c l0) (hl : (useL l0 f).length ≤ 6) (hF : Lst F (useL l0 f)) : GvR M (cO (mGiven M0 n c f x w u) n c (nI (useL l0 f).length) F []) n c f x w := by
  obtain ⟨i1, i2, i3, i4, i5⟩ := hI
  refine ⟨⟨useL l0 f, CI.use (i1.oth ?_ (fun k => ?_)) i2 hf hl (fun g hg => ?_) (fun g hg hd => ?_) hF⟩, (hO.trans (Oth.given M0 n c f x w u)).trans (Oth.co _ _ _ _ _ _), (hH.trans (HR.given M0 n c f x w u)).trans (HR.co _ _ _ _ _ _ _ _ _), ?_, ?_⟩
  · unfold mGiven; simp only [gV_sV]; rw [if_neg (by omega), if_neg (by omega), if_neg (by omega), if_neg (by omega), if_neg (by omega)]
  · unfold mGiven; simp only [gV_sV]; rw [if_neg (by omega), if_neg (by omega), if_neg (by omega), if_neg (by omega), if_neg (by omega)]
  · rw [given_get]
    by_cases h : g = f
    · rw [if_pos h]; exact ⟨fun _ => Or.inl h, fun _ q => absurd q (show ¬ (1 : Int32) = 0 by decide)⟩
    · rw [if_neg h, i4 g hg]; exact ⟨fun q => Or.inr q, fun q => q.resolve_left h⟩
  · rw [given_get] at hd
    by_cases h : g = f
    · exact Or.inl h
    · rw [if_neg h] at hd; exact Or.inr (i5 g hg hd)
  · rw [cO_he _ _ _ _ _ _ _ _ (Or.inr ⟨by decide, by decide⟩), given_get, if_pos rfl]; exact h6
  · rw [cO_he _ _ _ _ _ _ _ _ (Or.inr ⟨by decide, by decide⟩), given_get, if_pos rfl]; exact h7
/-- a file is given -/
theorem s_takeGiven (hR : Rep hp M) (hn : n < 2) (hc : c < 4) {l : List Nat} (hI : CI M n c l) {f : Nat} (hf : f < 12) (x w u : Int32) {r : Nat} (hr : r ≤ 6) : WM L xs (d + 3) mX0_takeGiven [.ref (xi 1 n c 0), .int (nI f), .int x, .int w, .int u, .int (nI r)] hp (fun v hp' => v = none ∧ ∃ M', Rep hp' M' ∧ GvR M M' n c f x w) := by
  refine WM.of [some (.ref _), some (.int (nI f)), some (.int x), some (.int w), some (.int u), some (.int (nI r)), none] (by decide) rfl (Nat.le_of_ble_eq_true rfl) ?_
  refine wp_aload_n (i := 0) dX0_takeGiven_0 rfl rfl ?_
  refine wr_cliR (j := rF n c) dX0_takeGiven_1 hR f_X0_11 hn hc (Or.inl ⟨rfl, rfl⟩) ?_
  refine wp_iload_n (i := 1) dX0_takeGiven_4 rfl rfl ?_
  refine wr_aF (f := f) dX0_takeGiven_5 hR rfl hn hc hf ?_
  refine wp_astore dX0_takeGiven_6 (Nat.le_of_ble_eq_true rfl) ?_
  refine wp_aload dX0_takeGiven_8 rfl ?_
  refine wp_iconst (v := 0) dX0_takeGiven_10 rfl ?_
  refine wr_put (g := 2) (n := n) (a := c) (b := f) (k := 6) dX0_takeGiven_11 hR (p_X0_39 rfl) (vs2 hn hc hf (by decide)) (by decide) (by decide) (okB rfl (by decide)) (fun hp2 hR1 => ?_)
  refine wp_aload dX0_takeGiven_14 rfl ?_
  refine wr_get (g := 2) (n := n) (a := c) (b := f) (k := 4) dX0_takeGiven_16 hR1 f_X0_58 (vs2 hn hc hf (by decide)) (by decide) (by decide) ?_
  refine wp_if_ne (tgt := 39) dX0_takeGiven_19 (by decide) (fun c19 => ?_) (fun c19 => ?_)
  · skip
    refine wp_ret (v := none) dX0_takeGiven_39 rfl ?_
    refine ⟨trivial, rfl, _, hR1, ?_⟩
    have hI1 : CI (sV M 2 n c f 6 0) n c l := hI.sv 0 (by decide)
    exact ⟨⟨l, hI1⟩, Oth.sv M n c f 6 0, HR.sv M n c f 6 x w 0 (by decide), sV_self _ _ _ _ _ _ _, sV_ne (by omega)⟩
  · skip
    refine wp_aload dX0_takeGiven_22 rfl ?_
    refine wr_get (g := 2) (n := n) (a := c) (b := f) (k := 0) dX0_takeGiven_24 hR1 f_X0_55 (vs2 hn hc hf (by decide)) (by decide) (by decide) ?_
    refine wp_if_ne (tgt := 40) dX0_takeGiven_27 (by decide) (fun c27 => ?_) (fun c27 => ?_)
    · skip
      refine wp_aload dX0_takeGiven_40 rfl ?_
      refine wp_iload_n (i := 2) dX0_takeGiven_42 rfl rfl ?_
      refine wp_iload_n (i := 3) dX0_takeGiven_43 rfl rfl ?_
      refine wp_iload dX0_takeGiven_44 rfl ?_
      refine wp_callV (N := mX1_beGiven) dX0_takeGiven_46 l_X0_65 v_X1_beGiven rfl (hR1.oo (vs2 hn hc hf (k := 0) (by decide)) (by decide)) rfl (by decide) (s_beGiven hR1 hn hc hf x w u) (fun v hp3 hq => ?_)
      obtain ⟨rfl, hR3⟩ := hq
      refine wp_aload_n (i := 0) dX0_takeGiven_49 rfl rfl ?_
      refine wp_iload_n (i := 1) dX0_takeGiven_50 rfl rfl ?_
      have hI2 : CI (sV M 2 n c f 6 0) n c l := hI.sv 0 (by decide)
      have hfl : f ∈ l := (hI.2.2.2.1 f hf).mp (by rw [sV_k (by decide)] at c27; exact c27)
      have hu : (useL l f).length ≤ 6 := by rw [useL_len, if_pos hfl]; exact hI.2.2.1
      refine wp_callV (N := mX0_use) dX0_takeGiven_51 l_X0_69 v_X0_use rfl (hR3.oo (vs1 hn hc (k := 2) (by decide)) (by decide)) rfl (by decide) (s_use hR3 hn hc (l := l) (hI2.1.oth (by unfold mGiven; simp only [gV_sV]; rw [if_neg (by omega), if_neg (by omega), if_neg (by omega), if_neg (by omega), if_neg (by omega)]) (fun k => by unfold mGiven; simp only [gV_sV]; rw [if_neg (by omega), if_neg (by omega), if_neg (by omega), if_neg (by omega), if_neg (by omega)])) hf (Or.inr (by have := hI2.2.2.1; omega))) (fun v hp4 hq => ?_)
      obtain ⟨rfl, F4, hR4, hF4⟩ := hq
      refine wp_ret (v := none) dX0_takeGiven_54 rfl ?_
      refine ⟨trivial, rfl, _, hR4, ?_⟩
      exact GvR.given hf (Oth.sv M n c f 6 0) (HR.sv M n c f 6 x w 0 (by decide)) (sV_self _ _ _ _ _ _ _) (sV_ne (by omega)) hI2 hu hF4
    · skip
      refine wp_aload_n (i := 0) dX0_takeGiven_30 rfl rfl ?_
      refine wp_iload dX0_takeGiven_31 rfl ?_
      have hI1 : CI (sV M 2 n c f 6 0) n c l := hI.sv 0 (by decide)
      refine wp_callV (N := mX0_makesRoom) dX0_takeGiven_33 l_X0_61 v_X0_makesRoom rfl (hR1.oo (vs1 hn hc (k := 2) (by decide)) (by decide)) rfl (by decide) (s_makesRoom hR1 hn hc hI1 (r := r) (by omega)) (fun v hp1 hq => ?_)
      obtain ⟨l', F, z, hR2, hF2, hL2, rfl⟩ := hq
      refine wp_if_ne (tgt := 40) dX0_takeGiven_36 (by decide) (fun c36 => ?_) (fun c36 => ?_)
      · skip
        refine wp_aload dX0_takeGiven_40 rfl ?_
        refine wp_iload_n (i := 2) dX0_takeGiven_42 rfl rfl ?_
        refine wp_iload_n (i := 3) dX0_takeGiven_43 rfl rfl ?_
        refine wp_iload dX0_takeGiven_44 rfl ?_
        refine wp_callV (N := mX1_beGiven) dX0_takeGiven_46 l_X0_65 v_X1_beGiven rfl (hR2.oo (vs2 hn hc hf (k := 0) (by decide)) (by decide)) rfl (by decide) (s_beGiven hR2 hn hc hf x w u) (fun v hp3 hq => ?_)
        obtain ⟨rfl, hR3⟩ := hq
        refine wp_aload_n (i := 0) dX0_takeGiven_49 rfl rfl ?_
        refine wp_iload_n (i := 1) dX0_takeGiven_50 rfl rfl ?_
        have c36 := bI_ne.mp c36
        have hfl : f ∉ l' := fun q => by
          have h9 := (hI1.2.2.2.1 f hf).mpr ((hL2.1 f).mp q).1
          exact h9 (by rw [sV_k (by decide)]; rw [sV_k (by decide)] at c27; exact c27)
        have hI2 := hI1.left hL2 hF2
        have hu : (useL l' f).length ≤ 6 := by rw [useL_len, if_neg hfl]; omega
        refine wp_callV (N := mX0_use) dX0_takeGiven_51 l_X0_69 v_X0_use rfl (hR3.oo (vs1 hn hc (k := 2) (by decide)) (by decide)) rfl (by decide) (s_use hR3 hn hc (l := l') (hI2.1.oth (by unfold mGiven; simp only [gV_sV]; rw [if_neg (by omega), if_neg (by omega), if_neg (by omega), if_neg (by omega), if_neg (by omega)]) (fun k => by unfold mGiven; simp only [gV_sV]; rw [if_neg (by omega), if_neg (by omega), if_neg (by omega), if_neg (by omega), if_neg (by omega)])) hf (Or.inr (by have := hI2.2.2.1; omega))) (fun v hp4 hq => ?_)
        obtain ⟨rfl, F4, hR4, hF4⟩ := hq
        refine wp_ret (v := none) dX0_takeGiven_54 rfl ?_
        refine ⟨trivial, rfl, _, hR4, ?_⟩
        exact GvR.given hf ((Oth.sv M n c f 6 0).trans (Oth.co _ _ _ _ _ _)) ((HR.sv M n c f 6 x w 0 (by decide)).trans (HR.co _ _ _ _ _ _ _ _ _)) (by rw [cO_he _ _ _ _ _ _ _ _ (Or.inr ⟨by decide, by decide⟩)]; exact sV_self _ _ _ _ _ _ _) (by rw [cO_he _ _ _ _ _ _ _ _ (Or.inr ⟨by decide, by decide⟩)]; exact sV_ne (by omega)) hI2 hu hF4
      · skip
        refine wp_ret (v := none) dX0_takeGiven_39 rfl ?_
        exact ⟨trivial, rfl, _, hR2, GvR.skip hI hL2 hF2⟩
/-- a file is called back -/
theorem s_takeCall (hR : Rep hp M) (hn : n < 2) (hc : c < 4) {l : List Nat} (hI : CI M n c l) {f : Nat} (hf : f < 12) : WM L xs (d + 2) mX0_takeCall [.ref (xi 1 n c 0), .int (nI f)] hp (fun v hp' => v = none ∧ ∃ M', Rep hp' M' ∧ (∃ l', CI M' n c l') ∧ Oth (sV M 1 n c 0 10 (gV M 1 n c 0 10 + 1)) M' n c ∧ HR (sV M 1 n c 0 10 (gV M 1 n c 0 10 + 1)) M' n c f 0 0 ∧ gV M' 2 n c f 6 = gV (sV M 1 n c 0 10 (gV M 1 n c 0 10 + 1)) 2 n c f 6 ∧ gV M' 2 n c f 7 = gV (sV M 1 n c 0 10 (gV M 1 n c 0 10 + 1)) 2 n c f 7) := by
  refine WM.of [some (.ref _), some (.int (nI f))] (by decide) rfl (Nat.le_of_ble_eq_true rfl) ?_
  refine wp_aload_n (i := 0) dX0_takeCall_0 rfl rfl ?_
  refine wp_dup dX0_takeCall_1 rfl ?_
  refine wr_get (g := 1) (n := n) (a := c) (b := 0) (k := 10) dX0_takeCall_2 hR f_X0_75 (vs1 hn hc (by decide)) (by decide) (by decide) ?_
  refine wp_iconst (v := 1) dX0_takeCall_5 rfl ?_
  refine wp_iadd dX0_takeCall_6 ?_
  refine wr_put (g := 1) (n := n) (a := c) (b := 0) (k := 10) dX0_takeCall_7 hR (p_X0_75 rfl) (vs1 hn hc (by decide)) (by decide) (by decide) (okI rfl) (fun hp2 hR1 => ?_)
  refine wp_aload_n (i := 0) dX0_takeCall_10 rfl rfl ?_
  refine wr_cliR (j := rF n c) dX0_takeCall_11 hR1 f_X0_11 hn hc (Or.inl ⟨rfl, rfl⟩) ?_
  refine wp_iload_n (i := 1) dX0_takeCall_14 rfl rfl ?_
  refine wr_aF (f := f) dX0_takeCall_15 hR1 rfl hn hc hf ?_
  refine wr_get (g := 2) (n := n) (a := c) (b := f) (k := 4) dX0_takeCall_16 hR1 f_X0_58 (vs2 hn hc hf (by decide)) (by decide) (by decide) ?_
  refine wp_if_eq (tgt := 35) dX0_takeCall_19 (by decide) (fun c19 => ?_) (fun c19 => ?_)
  · skip
    refine wp_aload_n (i := 0) dX0_takeCall_35 rfl rfl ?_
    refine wp_iload_n (i := 1) dX0_takeCall_36 rfl rfl ?_
    rw [gV_sV, if_neg (by omega)] at c19
    refine wp_callV (N := mX0_letGo) dX0_takeCall_37 l_X0_72 v_X0_letGo rfl (hR1.oo (vs1 hn hc (k := 2) (by decide)) (by decide)) rfl (by decide) (s_letGo hR1 hn hc (hI.1.oth (sV_ne (by omega)) (fun k => sV_ne (by omega))) hf) (fun v hp1 hq => ?_)
    obtain ⟨rfl, hq⟩ := hq
    refine wp_ret (v := none) dX0_takeCall_40 rfl ?_
    rcases hq with ⟨hm, F, hR2, hF2⟩ | ⟨hm, hR2⟩
    · refine ⟨trivial, rfl, _, hR2, ⟨l.erase f, ?_⟩, Oth.co _ _ _ _ _ _, HR.co _ _ _ _ _ _ _ _ _, ?_, ?_⟩
      · refine CI.left (l := l) (M := sV M 1 n c 0 10 (gV M 1 n c 0 10 + 1)) ⟨hI.1.oth (sV_ne (by omega)) (fun k => sV_ne (by omega)), hI.2.1, hI.2.2.1, fun g hg => by rw [gV_sV, if_neg (by omega)]; exact hI.2.2.2.1 g hg, fun g hg => by rw [gV_sV, if_neg (by omega)]; exact hI.2.2.2.2 g hg⟩ ⟨fun g => ?_, fun g hg => ?_, hI.2.1.erase f, by rw [List.length_erase_of_mem hm]; omega⟩ hF2
        · rw [hI.2.1.mem_erase_iff, List.mem_singleton]; exact ⟨fun q => ⟨q.2, q.1⟩, fun q => ⟨q.2, q.1⟩⟩
        · rw [List.mem_singleton] at hg; subst hg; exact ⟨hm, by rw [gV_sV, if_neg (by omega)]; exact c19⟩
      · rw [cO_he _ _ _ _ _ _ _ _ (Or.inr ⟨by decide, by decide⟩)]
      · rw [cO_he _ _ _ _ _ _ _ _ (Or.inr ⟨by decide, by decide⟩)]
    · exact ⟨trivial, rfl, _, hR2, ⟨l, hI.1.oth (sV_ne (by omega)) (fun k => sV_ne (by omega)), hI.2.1, hI.2.2.1, fun g hg => by rw [gV_sV, if_neg (by omega)]; exact hI.2.2.2.1 g hg, fun g hg => by rw [gV_sV, if_neg (by omega)]; exact hI.2.2.2.2 g hg⟩, Oth.rfl' _ _ _, ⟨fun g => Or.inl rfl, fun g => Or.inl rfl, fun g _ => ⟨rfl, rfl⟩⟩, rfl, rfl⟩
  · skip
    refine wp_aload_n (i := 0) dX0_takeCall_22 rfl rfl ?_
    refine wr_cliR (j := rF n c) dX0_takeCall_23 hR1 f_X0_11 hn hc (Or.inl ⟨rfl, rfl⟩) ?_
    refine wp_iload_n (i := 1) dX0_takeCall_26 rfl rfl ?_
    refine wr_aF (f := f) dX0_takeCall_27 hR1 rfl hn hc hf ?_
    refine wp_iconst (v := (-1)) dX0_takeCall_28 rfl ?_
    refine wr_put (g := 2) (n := n) (a := c) (b := f) (k := 3) dX0_takeCall_29 hR1 (p_X0_45 rfl) (vs2 hn hc hf (by decide)) (by decide) (by decide) (okI rfl) (fun hp4 hR3 => ?_)
    refine wp_goto (tgt := 40) dX0_takeCall_32 (by decide) ?_
    refine wp_ret (v := none) dX0_takeCall_40 rfl ?_
    refine ⟨trivial, rfl, _, hR3, ⟨l, ?_⟩, Oth.sv _ _ _ _ _ _, HR.sv _ _ _ _ _ _ _ _ (by decide), sV_ne (by omega), sV_ne (by omega)⟩
    exact CI.sv (M := sV M 1 n c 0 10 (gV M 1 n c 0 10 + 1)) ⟨hI.1.oth (sV_ne (by omega)) (fun k => sV_ne (by omega)), hI.2.1, hI.2.2.1, fun g hg => by rw [gV_sV, if_neg (by omega)]; exact hI.2.2.2.1 g hg, fun g hg => by rw [gV_sV, if_neg (by omega)]; exact hI.2.2.2.2 g hg⟩ _ (by decide)
end CLIENT5
