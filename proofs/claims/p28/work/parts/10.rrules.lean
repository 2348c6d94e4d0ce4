/-! ===== the rules over the state in numbers ===== -/
theorem Rep.scal {hp : AH} {M : MS} (h : Rep hp M) {g n a b k : Nat} (hs : vs g n a b k) : hv hp (xi g n a b) k = .int (gV M g n a b k) := by
  obtain ⟨r1, r2, r3, r4, r5, r6, r7, r8, r9, r10, r11, r12, r13⟩ := h
  exact (r10 g n a b k hs).1
theorem Rep.og {hp : AH} {M : MS} (h : Rep hp M) {g n a b k : Nat} (hs : vs g n a b k) : okg g k (gV M g n a b k) := by
  obtain ⟨r1, r2, r3, r4, r5, r6, r7, r8, r9, r10, r11, r12, r13⟩ := h
  exact (r10 g n a b k hs).2
theorem Rep.oo {hp : AH} {M : MS} (h : Rep hp M) {g n a b k : Nat} (hs : vs g n a b k) (hg : g ≠ 3 ∧ g ≠ 5) : okc hp (xi g n a b) (ck g) (nk g) := by
  obtain ⟨r1, r2, r3, r4, r5, r6, r7, r8, r9, r10, r11, r12, r13⟩ := h
  have hl := xi_le hs
  refine ⟨hl.1, by omega, ?_⟩
  obtain ⟨h1, h2⟩ := hs
  match g, h2, hg with
  | 0, h2, _ =>
    have h2 : a = 0 ∧ b = 0 ∧ k < 5 := h2
    obtain ⟨rfl, rfl, -⟩ := h2
    exact (r5 n h1).1
  | 1, h2, _ =>
    have h2 : a < 4 ∧ b = 0 ∧ (k = 2 ∨ (4 ≤ k ∧ k < 12)) := h2
    obtain ⟨h3, rfl, -⟩ := h2
    exact (r6 n a h1 h3).2.1
  | 2, h2, _ =>
    have h2 : a < 4 ∧ b < 12 ∧ k < 8 := h2
    exact (r7 n a b h1 h2.1 h2.2.1).2
  | 3, _, hg => exact absurd rfl hg.1
  | 4, h2, _ =>
    have h2 : a < 12 ∧ b = 0 ∧ (k < 2 ∨ k = 4) := h2
    obtain ⟨h3, rfl, -⟩ := h2
    exact (r8 n a h1 h3).2.1
  | 5, _, hg => exact absurd rfl hg.2
  | n + 6, h2, _ => exact h2.elim
theorem okI {ci k : Nat} {v : Int32} (h : fty ci k = .int) : okf ci k (.int v) := fun base b => by rw [h]; exact ⟨rfl, rfl⟩
theorem okB {ci k : Nat} {v : Int32} (h : fty ci k = .boolean) (hv : v = 0 ∨ v = 1) : okf ci k (.int v) := fun base b => by rw [h]; exact ⟨narrow_01 hv, fits_01 hv⟩
theorem narrow_b_inv {v : Int32} (h : narrow .boolean (.int v) = .int v) : v = 0 ∨ v = 1 := by
  have h1 : narrow .boolean (.int v) = .int (v &&& 1) := rfl
  rw [h1] at h
  have h2 : v &&& 1 = v := Value.int.inj h
  rw [← h2]
  obtain ⟨j, hj, e⟩ := pk_andE v (m := 1) 1 rfl
  rw [e]
  rcases (show j = 0 ∨ j = 1 by omega) with rfl | rfl
  · exact Or.inl rfl
  · exact Or.inr rfl
/-- a boolean field holds 0 or 1 -/
theorem Rep.bool {hp : AH} {M : MS} (h : Rep hp M) {g n a b k : Nat} (hs : vs g n a b k) (hf : fty (ck g) k = .boolean) (hg : g ≠ 3 ∧ g ≠ 5) : gV M g n a b k = 0 ∨ gV M g n a b k = 1 := by
  rcases h.og hs with e | e | e
  · exact absurd e hg.1
  · exact absurd e hg.2
  · have h1 := (e 0 0).1
    rw [hf] at h1
    exact narrow_b_inv h1
section RR
variable {L : Nat} {xs : Nat → Int32} {d : Nat} {C : MD} {pc : Nat} {ls : LSt} {st : List Value} {hp : AH} {Q : Option Value → AH → Prop} {M : MS}
theorem wr_get {g n a b k idx : Nat} (hd : decode C.2.1 pc = .ok (.getfield idx, 3)) (hR : Rep hp M) (hf : fG C.1.cls idx (ck g) k) (hs : vs g n a b k) (hg : g ≠ 3 ∧ g ≠ 5) (hn : k < nk g) (kk : WP L xs d C (pc + 3) ls (.int (gV M g n a b k) :: st) hp Q) : WP L xs d C pc ls (.ref (xi g n a b) :: st) hp Q := by
  refine wp_get hd (hR.oo hs hg) hf hn ?_
  rw [hR.scal hs]
  exact kk
theorem wr_put {g n a b k idx : Nat} {v : Int32} (hd : decode C.2.1 pc = .ok (.putfield idx, 3)) (hR : Rep hp M) (hf : fP C idx (ck g) k) (hs : vs g n a b k) (hg : g ≠ 3 ∧ g ≠ 5) (hn : k < nk g) (hok : okf (ck g) k (.int v)) (kk : ∀ hp', Rep hp' (sV M g n a b k v) → WP L xs d C (pc + 3) ls st hp' Q) : WP L xs d C pc ls (.int v :: .ref (xi g n a b) :: st) hp Q :=
  wp_put hd (hR.oo hs hg) hf hok hn (kk _ (hR.setV hs (Or.inr (Or.inr hok))))
/-- the two rows of ints that are arrays -/
theorem Rep.oA {hp : AH} {M : MS} (h : Rep hp M) {n a k : Nat} (hs : vs 3 n a 0 k) : okc hp (xi 3 n a 0) 6 12 := by
  obtain ⟨r1, r2, r3, r4, r5, r6, r7, r8, r9, r10, r11, r12, r13⟩ := h
  have hl := xi_le hs
  have h2 : a < 4 ∧ 0 = 0 ∧ k < 12 := hs.2
  exact ⟨hl.1, by omega, (r6 n a hs.1 h2.1).2.2.2.2.2.2⟩
theorem Rep.oU {hp : AH} {M : MS} (h : Rep hp M) {n a k : Nat} (hs : vs 5 n a 0 k) : okc hp (xi 5 n a 0) 6 4 := by
  obtain ⟨r1, r2, r3, r4, r5, r6, r7, r8, r9, r10, r11, r12, r13⟩ := h
  have hl := xi_le hs
  have h2 : a < 12 ∧ 0 = 0 ∧ k < 4 := hs.2
  exact ⟨hl.1, by omega, (r8 n a hs.1 h2.1).2.2.2.2⟩
theorem wr_ordG {n a k : Nat} {x : Int32} (hd : decode C.2.1 pc = .ok (.iaload, 1)) (hR : Rep hp M) (hx : x = nI k) (hs : vs 3 n a 0 k) (kk : WP L xs d C (pc + 1) ls (.int (gV M 3 n a 0 k) :: st) hp Q) : WP L xs d C pc ls (.int x :: .ref (xi 3 n a 0) :: st) hp Q := by
  have h2 : a < 4 ∧ 0 = 0 ∧ k < 12 := hs.2
  refine wp_iald hd (hR.oA hs) hx h2.2.2 (by decide) ?_
  rw [hR.scal hs]
  exact kk
theorem wr_ordP {n a k : Nat} {x y : Int32} (hd : decode C.2.1 pc = .ok (.iastore, 1)) (hR : Rep hp M) (hx : x = nI k) (hs : vs 3 n a 0 k) (kk : ∀ hp', Rep hp' (sV M 3 n a 0 k y) → WP L xs d C (pc + 1) ls st hp' Q) : WP L xs d C pc ls (.int y :: .int x :: .ref (xi 3 n a 0) :: st) hp Q := by
  have h2 : a < 4 ∧ 0 = 0 ∧ k < 12 := hs.2
  exact wp_iast hd (hR.oA hs) hx h2.2.2 (by decide) (kk _ (hR.setV hs (Or.inl rfl)))
theorem wr_untG {n a k : Nat} {x : Int32} (hd : decode C.2.1 pc = .ok (.iaload, 1)) (hR : Rep hp M) (hx : x = nI k) (hs : vs 5 n a 0 k) (kk : WP L xs d C (pc + 1) ls (.int (gV M 5 n a 0 k) :: st) hp Q) : WP L xs d C pc ls (.int x :: .ref (xi 5 n a 0) :: st) hp Q := by
  have h2 : a < 12 ∧ 0 = 0 ∧ k < 4 := hs.2
  refine wp_iald hd (hR.oU hs) hx h2.2.2 (by decide) ?_
  rw [hR.scal hs]
  exact kk
theorem wr_untP {n a k : Nat} {x y : Int32} (hd : decode C.2.1 pc = .ok (.iastore, 1)) (hR : Rep hp M) (hx : x = nI k) (hs : vs 5 n a 0 k) (kk : ∀ hp', Rep hp' (sV M 5 n a 0 k y) → WP L xs d C (pc + 1) ls st hp' Q) : WP L xs d C pc ls (.int y :: .int x :: .ref (xi 5 n a 0) :: st) hp Q := by
  have h2 : a < 12 ∧ 0 = 0 ∧ k < 4 := hs.2
  exact wp_iast hd (hR.oU hs) hx h2.2.2 (by decide) (kk _ (hR.setV hs (Or.inr (Or.inl rfl))))
/-! references -/
theorem Rep.top {hp : AH} {M : MS} (h : Rep hp M) : okc hp 1 5 2 ∧ hv hp 1 0 = .ref (xi 0 0 0 0) ∧ hv hp 1 1 = .ref (xi 0 1 0 0) := by
  obtain ⟨r1, r2, r3, ⟨a1, a2, a3⟩, r5, r6, r7, r8, r9, r10, r11, r12, r13⟩ := h
  exact ⟨⟨by decide, by omega, a1⟩, a2, a3⟩
theorem wr_net {idx : Nat} (hd : decode C.2.1 pc = .ok (.getfield idx, 3)) (hR : Rep hp M) (hf : fG C.1.cls idx 5 0) (kk : WP L xs d C (pc + 3) ls (.ref (xi 0 0 0 0) :: st) hp Q) : WP L xs d C pc ls (.ref 1 :: st) hp Q := by
  refine wp_get hd hR.top.1 hf (by decide) ?_
  rw [hR.top.2.1]; exact kk
theorem wr_trial {idx : Nat} (hd : decode C.2.1 pc = .ok (.getfield idx, 3)) (hR : Rep hp M) (hf : fG C.1.cls idx 5 1) (kk : WP L xs d C (pc + 3) ls (.ref (xi 0 1 0 0) :: st) hp Q) : WP L xs d C pc ls (.ref 1 :: st) hp Q := by
  refine wp_get hd hR.top.1 hf (by decide) ?_
  rw [hR.top.2.2]; exact kk
theorem Rep.N {hp : AH} {M : MS} (h : Rep hp M) {n : Nat} (hn : n < 2) : ShN hp n ∧ 277 ≤ hsz hp := by
  obtain ⟨r1, r2, r3, r4, r5, r6, r7, r8, r9, r10, r11, r12, r13⟩ := h
  exact ⟨r5 n hn, r1⟩
theorem Rep.Cl {hp : AH} {M : MS} (h : Rep hp M) {n c : Nat} (hn : n < 2) (hc : c < 4) : ShC hp n c ∧ 277 ≤ hsz hp := by
  obtain ⟨r1, r2, r3, r4, r5, r6, r7, r8, r9, r10, r11, r12, r13⟩ := h
  exact ⟨r6 n c hn hc, r1⟩
theorem Rep.H {hp : AH} {M : MS} (h : Rep hp M) {n c f : Nat} (hn : n < 2) (hc : c < 4) (hf : f < 12) : ShH hp n c f ∧ 277 ≤ hsz hp := by
  obtain ⟨r1, r2, r3, r4, r5, r6, r7, r8, r9, r10, r11, r12, r13⟩ := h
  exact ⟨r7 n c f hn hc hf, r1⟩
theorem Rep.S {hp : AH} {M : MS} (h : Rep hp M) {n f : Nat} (hn : n < 2) (hf : f < 12) : ShS hp n f ∧ 277 ≤ hsz hp := by
  obtain ⟨r1, r2, r3, r4, r5, r6, r7, r8, r9, r10, r11, r12, r13⟩ := h
  exact ⟨r8 n f hn hf, r1⟩
theorem Rep.K {hp : AH} {M : MS} (h : Rep hp M) {n k : Nat} (hn : n < 2) (hk : k < 9) : hv hp (rT n) k = .ref (xt 2 n k) := by
  obtain ⟨r1, r2, r3, r4, r5, r6, r7, r8, r9, r10, r11, r12, r13⟩ := h
  exact r9 n k hn hk
theorem Rep.T {hp : AH} {M : MS} (h : Rep hp M) {y n a : Nat} (ht : vt y n a) : TabAt hp (xt y n a) (tw y) (gT M y n a) (gP M y n a) := by
  obtain ⟨r1, r2, r3, r4, r5, r6, r7, r8, r9, r10, r11, r12, r13⟩ := h
  exact r11 y n a ht
theorem wr_netR {n k idx j : Nat} (hd : decode C.2.1 pc = .ok (.getfield idx, 3)) (hR : Rep hp M) (hf : fG C.1.cls idx 2 k) (hn : n < 2) (hk : (k = 5 ∧ j = rC n) ∨ (k = 6 ∧ j = rS n) ∨ (k = 7 ∧ j = rT n)) (kk : WP L xs d C (pc + 3) ls (.ref j :: st) hp Q) : WP L xs d C pc ls (.ref (xi 0 n 0 0) :: st) hp Q := by
  obtain ⟨⟨a1, a2, a3, a4, -⟩, hz⟩ := hR.N hn
  have ho : okc hp (xi 0 n 0 0) 2 8 := ⟨by simp only [xi]; omega, by simp only [xi]; omega, a1⟩
  refine wp_get hd ho hf (by omega) ?_
  rcases hk with ⟨rfl, rfl⟩ | ⟨rfl, rfl⟩ | ⟨rfl, rfl⟩
  · rw [a2]; exact kk
  · rw [a3]; exact kk
  · rw [a4]; exact kk
theorem wr_cliR {n c k idx j : Nat} (hd : decode C.2.1 pc = .ok (.getfield idx, 3)) (hR : Rep hp M) (hf : fG C.1.cls idx 0 k) (hn : n < 2) (hc : c < 4) (hk : (k = 0 ∧ j = rF n c) ∨ (k = 1 ∧ j = xi 3 n c 0) ∨ (k = 3 ∧ j = xt 0 n c)) (kk : WP L xs d C (pc + 3) ls (.ref j :: st) hp Q) : WP L xs d C pc ls (.ref (xi 1 n c 0) :: st) hp Q := by
  obtain ⟨⟨-, a1, a2, a3, a4, -⟩, hz⟩ := hR.Cl hn hc
  have ho : okc hp (xi 1 n c 0) 0 12 := ⟨by simp only [xi]; omega, by simp only [xi]; omega, a1⟩
  refine wp_get hd ho hf (by omega) ?_
  rcases hk with ⟨rfl, rfl⟩ | ⟨rfl, rfl⟩ | ⟨rfl, rfl⟩
  · rw [a2]; exact kk
  · rw [a3]; exact kk
  · rw [a4]; exact kk
theorem wr_sheR {n f k idx j : Nat} (hd : decode C.2.1 pc = .ok (.getfield idx, 3)) (hR : Rep hp M) (hf : fG C.1.cls idx 3 k) (hn : n < 2) (hc : f < 12) (hk : (k = 2 ∧ j = xi 5 n f 0) ∨ (k = 3 ∧ j = xt 1 n f)) (kk : WP L xs d C (pc + 3) ls (.ref j :: st) hp Q) : WP L xs d C pc ls (.ref (xi 4 n f 0) :: st) hp Q := by
  obtain ⟨⟨-, a1, a2, a3, -⟩, hz⟩ := hR.S hn hc
  have ho : okc hp (xi 4 n f 0) 3 5 := ⟨by simp only [xi]; omega, by simp only [xi]; omega, a1⟩
  refine wp_get hd ho hf (by omega) ?_
  rcases hk with ⟨rfl, rfl⟩ | ⟨rfl, rfl⟩
  · rw [a2]; exact kk
  · rw [a3]; exact kk
theorem wr_aC {n c : Nat} {x : Int32} (hd : decode C.2.1 pc = .ok (.aaload, 1)) (hR : Rep hp M) (hx : x = nI c) (hn : n < 2) (hc : c < 4) (kk : WP L xs d C (pc + 1) ls (.ref (xi 1 n c 0) :: st) hp Q) : WP L xs d C pc ls (.int x :: .ref (rC n) :: st) hp Q := by
  obtain ⟨⟨-, -, -, -, a1, -, -⟩, hz⟩ := hR.N hn
  refine wp_aald hd (t := 7) (n := 4) ⟨by simp only [rC]; omega, by simp only [rC]; omega, a1⟩ rfl hx hc (by decide) ?_
  rw [(hR.Cl hn hc).1.1]; exact kk
theorem wr_aS {n f : Nat} {x : Int32} (hd : decode C.2.1 pc = .ok (.aaload, 1)) (hR : Rep hp M) (hx : x = nI f) (hn : n < 2) (hf : f < 12) (kk : WP L xs d C (pc + 1) ls (.ref (xi 4 n f 0) :: st) hp Q) : WP L xs d C pc ls (.int x :: .ref (rS n) :: st) hp Q := by
  obtain ⟨⟨-, -, -, -, -, a1, -⟩, hz⟩ := hR.N hn
  refine wp_aald hd (t := 9) (n := 12) ⟨by simp only [rS]; omega, by simp only [rS]; omega, a1⟩ rfl hx hf (by decide) ?_
  rw [(hR.S hn hf).1.1]; exact kk
theorem wr_aT {n k : Nat} {x : Int32} (hd : decode C.2.1 pc = .ok (.aaload, 1)) (hR : Rep hp M) (hx : x = nI k) (hn : n < 2) (hk : k < 9) (kk : WP L xs d C (pc + 1) ls (.ref (xt 2 n k) :: st) hp Q) : WP L xs d C pc ls (.int x :: .ref (rT n) :: st) hp Q := by
  obtain ⟨⟨-, -, -, -, -, -, a1⟩, hz⟩ := hR.N hn
  refine wp_aald hd (t := 10) (n := 9) ⟨by simp only [rT]; omega, by simp only [rT]; omega, a1⟩ rfl hx hk (by decide) ?_
  rw [hR.K hn hk]; exact kk
theorem wr_aF {n c f : Nat} {x : Int32} (hd : decode C.2.1 pc = .ok (.aaload, 1)) (hR : Rep hp M) (hx : x = nI f) (hn : n < 2) (hc : c < 4) (hf : f < 12) (kk : WP L xs d C (pc + 1) ls (.ref (xi 2 n c f) :: st) hp Q) : WP L xs d C pc ls (.int x :: .ref (rF n c) :: st) hp Q := by
  obtain ⟨⟨-, -, -, -, -, a1, -⟩, hz⟩ := hR.Cl hn hc
  refine wp_aald hd (t := 8) (n := 12) ⟨by simp only [rF]; omega, by simp only [rF]; omega, a1⟩ rfl hx hf (by decide) ?_
  rw [(hR.H hn hc hf).1.1]; exact kk
/-! tables: how many rows -/
theorem Rep.oT {hp : AH} {M : MS} (h : Rep hp M) {y n a : Nat} (ht : vt y n a) : okc hp (xt y n a) 4 3 := by
  have hl := xt_le ht
  have hz := (h.N ht.1).2
  exact ⟨hl.1, by omega, (h.T ht).1⟩
theorem wr_rows {y n a idx : Nat} (hd : decode C.2.1 pc = .ok (.getfield idx, 3)) (hR : Rep hp M) (hf : fG C.1.cls idx 4 2) (ht : vt y n a) (kk : WP L xs d C (pc + 3) ls (.int (nI (gT M y n a).length) :: st) hp Q) : WP L xs d C pc ls (.ref (xt y n a) :: st) hp Q := by
  refine wp_get hd (hR.oT ht) hf (by decide) ?_
  rw [(hR.T ht).2.2.1]; exact kk
theorem wr_width {y n a idx : Nat} (hd : decode C.2.1 pc = .ok (.getfield idx, 3)) (hR : Rep hp M) (hf : fG C.1.cls idx 4 0) (ht : vt y n a) (kk : WP L xs d C (pc + 3) ls (.int (nI (tw y)) :: st) hp Q) : WP L xs d C pc ls (.ref (xt y n a) :: st) hp Q := by
  refine wp_get hd (hR.oT ht) hf (by decide) ?_
  rw [(hR.T ht).2.1]; exact kk
theorem wr_cells {y n a idx : Nat} (hd : decode C.2.1 pc = .ok (.getfield idx, 3)) (hR : Rep hp M) (hf : fG C.1.cls idx 4 1) (ht : vt y n a) (kk : WP L xs d C (pc + 3) ls (.ref (aix hp (xt y n a)) :: st) hp Q) : WP L xs d C pc ls (.ref (xt y n a) :: st) hp Q := by
  refine wp_get hd (hR.oT ht) hf (by decide) ?_
  rw [(hR.T ht).2.2.2.1]; exact kk
end RR
