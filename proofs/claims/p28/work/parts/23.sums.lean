/-! ===== sums, and the room ===== -/
def sN : Nat → (Nat → Nat) → Nat
  | 0, _ => 0
  | k + 1, f => sN k f + f k
theorem sN_congr {k : Nat} {f g : Nat → Nat} (h : ∀ i, i < k → f i = g i) : sN k f = sN k g := by
  induction k with
  | zero => rfl
  | succ k ih => show sN k f + f k = sN k g + g k; rw [ih (fun i hi => h i (by omega)), h k (by omega)]
theorem sN_le {k : Nat} {f g : Nat → Nat} (h : ∀ i, i < k → f i ≤ g i) : sN k f ≤ sN k g := by
  induction k with
  | zero => exact Nat.le_refl _
  | succ k ih => have h1 := ih (fun i hi => h i (by omega)); have h2 := h k (by omega); show sN k f + f k ≤ sN k g + g k; omega
theorem sN_get {k i : Nat} {f : Nat → Nat} (h : i < k) : f i ≤ sN k f := by
  induction k with
  | zero => exact absurd h (Nat.not_lt_zero i)
  | succ k ih =>
    show f i ≤ sN k f + f k
    rcases Nat.lt_or_ge i k with q | q
    · have := ih q; omega
    · have e : i = k := by omega
      subst e; omega
theorem sN_bd {k b : Nat} {f : Nat → Nat} (h : ∀ i, i < k → f i ≤ b) : sN k f ≤ k * b := by
  induction k with
  | zero => exact Nat.zero_le _
  | succ k ih => have h1 := ih (fun i hi => h i (by omega)); have h2 := h k (by omega); show sN k f + f k ≤ _; rw [Nat.succ_mul]; omega
theorem sN_upd {k i : Nat} {f g : Nat → Nat} (hi : i < k) (h : ∀ j, j < k → j ≠ i → g j = f j) : sN k g + f i = sN k f + g i := by
  induction k with
  | zero => exact absurd hi (Nat.not_lt_zero i)
  | succ k ih =>
    show sN k g + g k + f i = sN k f + f k + g i
    rcases Nat.lt_or_ge i k with q | q
    · have h1 := ih q (fun j hj hne => h j (by omega) hne)
      have h2 := h k (by omega) (by omega)
      omega
    · have e : i = k := by omega
      subst e
      have h1 : sN i g = sN i f := sN_congr (fun j hj => h j (by omega) (by omega))
      omega
theorem sN_zero {k : Nat} {f : Nat → Nat} (h : ∀ i, i < k → f i = 0) : sN k f = 0 := by
  induction k with
  | zero => rfl
  | succ k ih => show sN k f + f k = 0; rw [ih (fun i hi => h i (by omega)), h k (by omega)]
/-- the rooms that a table can have -/
def ch (c : Nat) : Prop := ∃ j, c + 2 = 10 * 2 ^ j
theorem ch_next {c : Nat} (h : ch c) : ch (2 * (c + 1)) := by
  obtain ⟨j, hj⟩ := h
  exact ⟨j + 1, by rw [Nat.pow_succ]; omega⟩
theorem ch_lt {c c' : Nat} (h : ch c) (h' : ch c') (hlt : c < c') : 2 * c ≤ c' := by
  obtain ⟨j, hj⟩ := h
  obtain ⟨i, hi⟩ := h'
  rcases Nat.lt_or_ge j i with q | q
  · have h1 : 2 ^ (j + 1) ≤ 2 ^ i := Nat.pow_le_pow_right (by decide) q
    rw [Nat.pow_succ] at h1
    omega
  · have h1 : 2 ^ i ≤ 2 ^ j := Nat.pow_le_pow_right (by decide) q
    omega
def cB (y : Nat) : Nat := match y with
  | 0 => 40
  | 1 => 2600
  | _ => 22700
/-- all the rooms of the tables; all their slots, twice -/
def SC (M : MS) : Nat := sN 2 (fun n => sN 4 (fun a => gP M 0 n a) + sN 12 (fun a => gP M 1 n a) + sN 9 (fun a => gP M 2 n a))
def SQ (M : MS) : Nat := sN 2 (fun n => sN 4 (fun a => 4 * gP M 0 n a) + sN 12 (fun a => 8 * gP M 1 n a) + sN 9 (fun a => 16 * gP M 2 n a))
theorem SC_upd {M M' : MS} {y n a : Nat} (ht : vt y n a) (h : ∀ y' n' a', ¬ (y' = y ∧ n' = n ∧ a' = a) → gP M' y' n' a' = gP M y' n' a') : SC M' + gP M y n a = SC M + gP M' y n a ∧ SQ M' + 2 * tw y * gP M y n a = SQ M + 2 * tw y * gP M' y n a := by
  obtain ⟨hn, hy⟩ := ht
  have e1 := fun (g : Nat → MS → Nat) (h9 : ∀ n', n' < 2 → n' ≠ n → g n' M' = g n' M) => sN_upd (k := 2) (i := n) (f := fun n' => g n' M) (g := fun n' => g n' M') hn h9
  have e0 : ∀ n', n' ≠ n → ∀ y a, gP M' y n' a = gP M y n' a := fun n' hne y' a' => h y' n' a' (fun q => hne q.2.1)
  have eC := e1 (fun n M => sN 4 (fun a => gP M 0 n a) + sN 12 (fun a => gP M 1 n a) + sN 9 (fun a => gP M 2 n a)) (fun n' _ hne => by simp only [e0 n' hne])
  have eQ := e1 (fun n M => sN 4 (fun a => 4 * gP M 0 n a) + sN 12 (fun a => 8 * gP M 1 n a) + sN 9 (fun a => 16 * gP M 2 n a)) (fun n' _ hne => by simp only [e0 n' hne])
  have c0 : ¬ y = 0 → sN 4 (fun a => gP M' 0 n a) = sN 4 (fun a => gP M 0 n a) ∧ sN 4 (fun a => 4 * gP M' 0 n a) = sN 4 (fun a => 4 * gP M 0 n a) := fun hne => ⟨sN_congr (fun i _ => h 0 n i (fun q => hne q.1.symm)), sN_congr (fun i _ => by rw [h 0 n i (fun q => hne q.1.symm)])⟩
  have c1 : ¬ y = 1 → sN 12 (fun a => gP M' 1 n a) = sN 12 (fun a => gP M 1 n a) ∧ sN 12 (fun a => 8 * gP M' 1 n a) = sN 12 (fun a => 8 * gP M 1 n a) := fun hne => ⟨sN_congr (fun i _ => h 1 n i (fun q => hne q.1.symm)), sN_congr (fun i _ => by rw [h 1 n i (fun q => hne q.1.symm)])⟩
  have c2 : ¬ y = 2 → sN 9 (fun a => gP M' 2 n a) = sN 9 (fun a => gP M 2 n a) ∧ sN 9 (fun a => 16 * gP M' 2 n a) = sN 9 (fun a => 16 * gP M 2 n a) := fun hne => ⟨sN_congr (fun i _ => h 2 n i (fun q => hne q.1.symm)), sN_congr (fun i _ => by rw [h 2 n i (fun q => hne q.1.symm)])⟩
  simp only [SC, SQ]
  match y, hy with
  | 0, ha =>
    have ha : a < 4 := ha
    have u := sN_upd (k := 4) (i := a) (f := fun a => gP M 0 n a) (g := fun a => gP M' 0 n a) ha (fun j _ hne => h 0 n j (fun q => hne q.2.2))
    have u2 := sN_upd (k := 4) (i := a) (f := fun a => 4 * gP M 0 n a) (g := fun a => 4 * gP M' 0 n a) ha (fun j _ hne => by show 4 * _ = 4 * _; rw [h 0 n j (fun q => hne q.2.2)])
    have k1 := c1 (by decide)
    have k2 := c2 (by decide)
    simp only [tw] at *
    constructor <;> omega
  | 1, ha =>
    have ha : a < 12 := ha
    have u := sN_upd (k := 12) (i := a) (f := fun a => gP M 1 n a) (g := fun a => gP M' 1 n a) ha (fun j _ hne => h 1 n j (fun q => hne q.2.2))
    have u2 := sN_upd (k := 12) (i := a) (f := fun a => 8 * gP M 1 n a) (g := fun a => 8 * gP M' 1 n a) ha (fun j _ hne => by show 8 * _ = 8 * _; rw [h 1 n j (fun q => hne q.2.2)])
    have k1 := c0 (by decide)
    have k2 := c2 (by decide)
    simp only [tw] at *
    constructor <;> omega
  | 2, ha =>
    have ha : a < 9 := ha
    have u := sN_upd (k := 9) (i := a) (f := fun a => gP M 2 n a) (g := fun a => gP M' 2 n a) ha (fun j _ hne => h 2 n j (fun q => hne q.2.2))
    have u2 := sN_upd (k := 9) (i := a) (f := fun a => 16 * gP M 2 n a) (g := fun a => 16 * gP M' 2 n a) ha (fun j _ hne => by show 16 * _ = 16 * _; rw [h 2 n j (fun q => hne q.2.2)])
    have k1 := c0 (by decide)
    have k2 := c1 (by decide)
    simp only [tw] at *
    constructor <;> omega
  | k + 3, ha => exact ha.elim
/-- what has been made is within what the tables' rooms account for -/
def RI (zB tB : Nat) (M : MS) : Prop := mz M ≤ zB + SC M ∧ mt M ≤ tB + SQ M ∧ ∀ y n a, vt y n a → ch (gP M y n a) ∧ gP M y n a ≤ cB y
theorem RI.bound {zB tB : Nat} {M : MS} (h : RI zB tB M) : mz M ≤ zB + 471520 ∧ mt M ≤ tB + 7038080 := by
  obtain ⟨h1, h2, h3⟩ := h
  have b : SC M ≤ 2 * 235760 := sN_bd (fun n hn => by
    have b0 : sN 4 (fun a => gP M 0 n a) ≤ 4 * 40 := sN_bd (fun a ha => (h3 0 n a ⟨hn, ha⟩).2)
    have b1 : sN 12 (fun a => gP M 1 n a) ≤ 12 * 2600 := sN_bd (fun a ha => (h3 1 n a ⟨hn, ha⟩).2)
    have b2 : sN 9 (fun a => gP M 2 n a) ≤ 9 * 22700 := sN_bd (fun a ha => (h3 2 n a ⟨hn, ha⟩).2)
    show sN 4 _ + sN 12 _ + sN 9 _ ≤ _
    omega)
  have b' : SQ M ≤ 2 * 3519040 := sN_bd (fun n hn => by
    have b0 : sN 4 (fun a => 4 * gP M 0 n a) ≤ 4 * 160 := sN_bd (fun a ha => by have := (h3 0 n a ⟨hn, ha⟩).2; simp only [cB] at this; omega)
    have b1 : sN 12 (fun a => 8 * gP M 1 n a) ≤ 12 * 20800 := sN_bd (fun a ha => by have := (h3 1 n a ⟨hn, ha⟩).2; simp only [cB] at this; omega)
    have b2 : sN 9 (fun a => 16 * gP M 2 n a) ≤ 9 * 363200 := sN_bd (fun a ha => by have := (h3 2 n a ⟨hn, ha⟩).2; simp only [cB] at this; omega)
    show sN 4 _ + sN 12 _ + sN 9 _ ≤ _
    omega)
  omega
theorem RI.of {zB tB : Nat} {M M' : MS} (h : RI zB tB M) (h1 : mz M' = mz M) (h2 : mt M' = mt M) (h3 : ∀ y n a, gP M' y n a = gP M y n a) : RI zB tB M' := by
  have eC : SC M' = SC M := by simp only [SC, h3]
  have eQ : SQ M' = SQ M := by simp only [SQ, h3]
  obtain ⟨k1, k2, k3⟩ := h
  refine ⟨by rw [h1, eC]; exact k1, by rw [h2, eQ]; exact k2, fun y n a ht => ?_⟩
  rw [h3]
  exact k3 y n a ht
/-- one table's room has grown -/
theorem RI.gr {zB tB : Nat} {M : MS} (h : RI zB tB M) {y n a : Nat} (ht : vt y n a) {r : List Row} {c z t : Nat} (hg : Gr (tw y) (gP M y n a) (mz M) (mt M) c z t) (hc : gP M y n a < c → c ≤ cB y) : RI zB tB (sW M z t y n a r c) := by
  obtain ⟨k1, k2, k3⟩ := h
  have hu := SC_upd (M := M) (M' := sW M z t y n a r c) ht (fun y' n' a' hne => gP_sWn hne)
  rw [gP_sW] at hu
  have h9 := (k3 y n a ht)
  have hgrow : gP M y n a ≤ c := by rcases hg with ⟨e, -, -⟩ | ⟨e, -, -⟩ <;> omega
  have hw : 2 * tw y * c = tw y * c + tw y * c := by rw [Nat.mul_comm 2, Nat.mul_assoc, Nat.two_mul, Nat.mul_add]
  have hw0 : 2 * tw y * gP M y n a = tw y * (2 * gP M y n a) := by rw [Nat.mul_comm 2, Nat.mul_assoc]
  refine ⟨?_, ?_, fun y' n' a' ht' => ?_⟩
  · show z ≤ _
    rcases hg with ⟨e, ez, -⟩ | ⟨e, ez, -⟩ <;> omega
  · show t ≤ _
    rcases hg with ⟨e, -, et⟩ | ⟨e, -, et⟩
    · subst e; omega
    · have h1 : tw y * (2 * gP M y n a) ≤ tw y * c := Nat.mul_le_mul_left _ (by omega)
      omega
  · by_cases hq : y' = y ∧ n' = n ∧ a' = a
    · obtain ⟨rfl, rfl, rfl⟩ := hq
      rw [gP_sW]
      rcases hg with ⟨e, -, -⟩ | ⟨e, -, -⟩
      · rw [e]; exact h9
      · exact ⟨by rw [e]; exact ch_next h9.1, hc (by omega)⟩
    · rw [gP_sWn hq]; exact k3 y' n' a' ht'
theorem RI.add {zB tB : Nat} {hp : AH} {M : MS} (h : RI zB tB M) (hR : Rep hp M) {y n a : Nat} (ht : vt y n a) {r : List Row} (hl : 2 * ((gT M y n a).length + 1) ≤ cB y) : RI zB tB (sW M (aZ M y n a) (aT M y n a) y n a r (aP M y n a)) := by
  refine h.gr ht (Gr.add hR ht) (fun hlt => ?_)
  unfold aP at hlt ⊢
  by_cases hq : (gT M y n a).length < gP M y n a
  · rw [if_pos hq] at hlt; omega
  · rw [if_neg hq]; exact hl
/-- rows as another table has them -/
theorem RI.copy {zB tB : Nat} {hp : AH} {M : MS} (h : RI zB tB M) (hR : Rep hp M) {y n a n' a' : Nat} (ht : vt y n a) (ht' : vt y n' a') {r : List Row} : RI zB tB (sW M (cZ M y n a n' a') (cQ M y n a n' a') y n a r (cP M y n a n' a')) := by
  obtain ⟨k1, k2, k3⟩ := h
  unfold cZ cQ cP
  by_cases hq : (gT M y n' a').length ≤ gP M y n a
  · rw [if_pos hq, if_pos hq, if_pos hq]
    exact RI.gr ⟨k1, k2, k3⟩ ht (Or.inl ⟨rfl, rfl, rfl⟩) (fun hlt => absurd hlt (Nat.lt_irrefl _))
  · rw [if_neg hq, if_neg hq, if_neg hq]
    have hlt : gP M y n a < gP M y n' a' := by have := (hR.T ht').2.2.2.2.2.2.2.1; omega
    have h2 := ch_lt (k3 y n a ht).1 (k3 y n' a' ht').1 hlt
    have hu := SC_upd (M := M) (M' := sW M (mz M + 1) (mt M + tw y * gP M y n' a') y n a r (gP M y n' a')) ht (fun y' n' a' hne => gP_sWn hne)
    rw [gP_sW] at hu
    have hw : 2 * tw y * gP M y n' a' = tw y * gP M y n' a' + tw y * gP M y n' a' := by rw [Nat.mul_comm 2, Nat.mul_assoc, Nat.two_mul, Nat.mul_add]
    have hw0 : 2 * tw y * gP M y n a = tw y * (2 * gP M y n a) := by rw [Nat.mul_comm 2, Nat.mul_assoc]
    have h3 : tw y * (2 * gP M y n a) ≤ tw y * gP M y n' a' := Nat.mul_le_mul_left _ h2
    refine ⟨?_, ?_, fun y2 n2 a2 ht2 => ?_⟩
    · show mz M + 1 ≤ _
      omega
    · show mt M + _ ≤ _
      omega
    · by_cases hq : y2 = y ∧ n2 = n ∧ a2 = a
      · obtain ⟨rfl, rfl, rfl⟩ := hq
        rw [gP_sW]
        exact k3 _ _ _ ht'
      · rw [gP_sWn hq]; exact k3 y2 n2 a2 ht2
