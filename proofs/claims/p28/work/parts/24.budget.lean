/-! ===== what is on its way, counted ===== -/
def vN (x : Int32) : Nat := x.toInt.toNat
theorem vN_nI {k : Nat} (h : k < 2 ^ 31) : vN (nI k) = k := by
  unfold vN nI
  rw [Int32.toInt_ofNat_of_lt (by omega)]
  rfl
def cOk (x : Int32) : Prop := x = nI (vN x) ∧ vN x ≤ 9999
theorem cOk_nI {k : Nat} (h : k ≤ 9999) : cOk (nI k) := by unfold cOk; rw [vN_nI (by omega)]; exact ⟨rfl, h⟩
def bz (x : Int32) : Nat := if x = 0 then 0 else 1
theorem bz_le (x : Int32) : bz x ≤ 1 := by unfold bz; split <;> omega
def kdTh (q : Row) : Bool := !(q 1 == 2) && !(q 1 == 6)
def kdR (q : Row) : Bool := q 1 == 0 || q 1 == 1
def kdC (c : Nat) (q : Row) : Bool := q 1 == 6 && q 0 == nI c
def kdA (c : Nat) (q : Row) : Bool := q 1 == 2 && q 0 == nI c
theorem kdR_th {q : Row} (h : kdR q = true) : kdTh q = true := by
  unfold kdR at h; unfold kdTh
  simp only [Bool.or_eq_true, beq_iff_eq] at h
  rcases h with h | h <;> rw [h] <;> decide
theorem kdTh_C {q : Row} (h : kdTh q = true) (c : Nat) : kdC c q = false ∧ kdA c q = false := by
  unfold kdTh at h; unfold kdC kdA
  simp only [Bool.and_eq_true, Bool.not_eq_true', beq_eq_false_iff_ne, ne_eq] at h
  rw [beq_eq_false_iff_ne.mpr h.1, beq_eq_false_iff_ne.mpr h.2]
  exact ⟨rfl, rfl⟩
theorem kdC_th {q : Row} {c : Nat} (h : kdC c q = true) : kdTh q = false ∧ kdR q = false ∧ (∀ c', kdA c' q = false) ∧ q 0 = nI c := by
  unfold kdC at h
  simp only [Bool.and_eq_true, beq_iff_eq] at h
  unfold kdTh kdR
  refine ⟨by rw [h.1]; decide, by rw [h.1]; decide, fun c' => by unfold kdA; rw [h.1]; rfl, h.2⟩
theorem kdA_th {q : Row} {c : Nat} (h : kdA c q = true) : kdTh q = false ∧ kdR q = false ∧ (∀ c', kdC c' q = false) ∧ q 0 = nI c := by
  unfold kdA at h
  simp only [Bool.and_eq_true, beq_iff_eq] at h
  unfold kdTh kdR
  refine ⟨by rw [h.1]; decide, by rw [h.1]; decide, fun c' => by unfold kdC; rw [h.1]; rfl, h.2⟩
def sl (S : Nat → List Row) (clk r k : Nat) : List Row := if k = clk % 9 then (S k).drop r else S k
/-- the budgets: threads; calls of this clock; acks of this clock; versions; each slot; conflicts -/
def BB (S : Nat → List Row) (rq fl ff : Nat) (V : Nat → Nat) (G : Nat → Int32) (clk K : Nat) (D : Nat → Nat) (r j s : Nat) (e : Nat → Nat) : Prop :=
  (sN 9 (fun k => (sl S clk r k).countP kdTh) + rq + s ≤ fl + 24 * K + j ∧ K ≤ 48 ∧ fl ≤ 96 ∧ ff ≤ 12) ∧
  (∀ c, c < 4 → (S ((clk + D c) % 9)).countP (kdC c) + rq + ((S (clk % 9)).drop r).countP kdR + e c ≤ 1248 + ff + j) ∧
  (∀ c, c < 4 → (S ((clk + D c) % 9)).countP (kdA c) + ((S (clk % 9)).drop r).countP (kdC c) ≤ 1260) ∧
  (∀ f, f < 12 → V f + rq + ((S (clk % 9)).drop r).countP kdR ≤ 1248 * (clk + 1) + j) ∧
  (∀ k c, k < 9 → c < 4 → (S k).countP (kdC c) ≤ 1260 ∧ (S k).countP (kdA c) ≤ 1260) ∧
  (∀ c, c < 4 → G c = nI (vN (G c)) ∧ vN (G c) + ((S (clk % 9)).length - r) ≤ 12000 * (clk + 1))
section BUDGET
variable {S : Nat → List Row} {rq fl ff : Nat} {V : Nat → Nat} {G : Nat → Int32} {clk K : Nat} {D : Nat → Nat} {r j s : Nat} {e : Nat → Nat}
/-- other numbers -/
theorem BB.num (h : BB S rq fl ff V G clk K D r j s e) {rq' fl' ff' j' s' : Nat} {V' e' : Nat → Nat} (h1 : rq' + s' + fl + j ≤ rq + s + fl' + j') (hf : fl' ≤ 96 ∧ ff' ≤ 12) (h2 : ∀ c, c < 4 → rq' + e' c + ff + j ≤ rq + e c + ff' + j') (h4 : ∀ f, f < 12 → V' f + rq' + j ≤ V f + rq + j') : BB S rq' fl' ff' V' G clk K D r j' s' e' := by
  obtain ⟨⟨a1, a2, -, -⟩, b, c, d, x, y⟩ := h
  refine ⟨⟨by omega, a2, hf.1, hf.2⟩, fun c' hc => ?_, c, fun f hf => ?_, x, y⟩
  · have := b c' hc; have := h2 c' hc; omega
  · have := d f hf; have := h4 f hf; omega
def ap (S : Nat → List Row) (k : Nat) (q : Row) : Nat → List Row := fun k' => if k' = k then S k ++ [q] else S k'
theorem ap_ne {k k' : Nat} {q : Row} (h : k' ≠ k) : ap S k q k' = S k' := if_neg h
theorem ap_eq {k : Nat} {q : Row} : ap S k q k = S k ++ [q] := if_pos rfl
theorem ap_cf {k k' : Nat} {q : Row} {p : Row → Bool} (h : p q = false) : (ap S k q k').countP p = (S k').countP p := by
  by_cases hk : k' = k
  · subst hk; rw [ap_eq, List.countP_append, List.countP_singleton, if_neg (by rw [h]; decide), Nat.add_zero]
  · rw [ap_ne hk]
theorem ap_ct {k : Nat} {q : Row} {p : Row → Bool} (h : p q = true) : (ap S k q k).countP p = (S k).countP p + 1 := by
  rw [ap_eq, List.countP_append, List.countP_singleton, if_pos h]
theorem ap_le {k k' : Nat} {q : Row} {p : Row → Bool} : (ap S k q k').countP p ≤ (S k').countP p + 1 := by
  rcases h : p q with - | -
  · rw [ap_cf h]; omega
  · by_cases hk : k' = k
    · subst hk; rw [ap_ct h]; exact Nat.le_refl _
    · rw [ap_ne hk]; omega
theorem sl_ap {k k' : Nat} {q : Row} (hk : k ≠ clk % 9) : sl (ap S k q) clk r k' = ap (sl S clk r) k q k' := by
  by_cases h : k' = k
  · subst h; rw [ap_eq]; unfold sl; rw [if_neg hk, if_neg hk, ap_eq]
  · rw [ap_ne h]; unfold sl; rw [ap_ne h]
/-- a thing of a thread is sent -/
theorem BB.ap_th (h : BB S rq fl ff V G clk K D r j (s + 1) e) {k : Nat} {q : Row} (hk : k < 9) (hc : k ≠ clk % 9) (hq : kdTh q = true) : BB (ap S k q) rq fl ff V G clk K D r j s e := by
  obtain ⟨⟨a1, a2, a3, a4⟩, b, c, d, x, y⟩ := h
  have hcur : ap S k q (clk % 9) = S (clk % 9) := ap_ne (fun q => hc q.symm)
  have hu := sN_upd (k := 9) (i := k) (f := fun k => (sl S clk r k).countP kdTh) (g := fun k' => (sl (ap S k q) clk r k').countP kdTh) hk (fun i _ hne => by show (sl (ap S k q) clk r i).countP kdTh = _; rw [sl_ap hc, ap_ne hne])
  have hu2 : (sl (ap S k q) clk r k).countP kdTh = (sl S clk r k).countP kdTh + 1 := by rw [sl_ap hc, ap_ct hq]
  refine ⟨⟨by omega, a2, a3, a4⟩, fun c' hc' => ?_, fun c' hc' => ?_, fun f hf => ?_, fun k' c' hk' hc' => ?_, fun c' hc' => ?_⟩
  · rw [hcur, ap_cf (kdTh_C hq c').1]; exact b c' hc'
  · rw [hcur, ap_cf (kdTh_C hq c').2]; exact c c' hc'
  · rw [hcur]; exact d f hf
  · rw [ap_cf (kdTh_C hq c').1, ap_cf (kdTh_C hq c').2]; exact x k' c' hk' hc'
  · rw [hcur]; exact y c' hc'
/-- a CALL is sent -/
theorem BB.ap_C (h : BB S rq fl ff V G clk K D r j s e) (hj : j ≤ rq) {c0 : Nat} {q : Row} (hc0 : c0 < 4) (hD : 1 ≤ D c0 ∧ D c0 ≤ 8) (hq : kdC c0 q = true) {e' : Nat → Nat} (he : ∀ c, c < 4 → e' c + (if c = c0 then 1 else 0) ≤ e c) : BB (ap S ((clk + D c0) % 9) q) rq fl ff V G clk K D r j s e' := by
  obtain ⟨⟨a1, a2, a3, a4⟩, b, c, d, x, y⟩ := h
  have hc : (clk + D c0) % 9 ≠ clk % 9 := by omega
  obtain ⟨q1, q2, q3, q4⟩ := kdC_th hq
  have hcur : ap S ((clk + D c0) % 9) q (clk % 9) = S (clk % 9) := ap_ne (fun q => hc q.symm)
  have hne : ∀ c', c' < 4 → c' ≠ c0 → kdC c' q = false := by
    intro c' hc' hne
    rcases h9 : kdC c' q with - | -
    · rfl
    · have h8 := (kdC_th h9).2.2.2
      rw [q4] at h8
      exact absurd ((nI_eq (by omega) (by omega)).mp h8.symm) hne
  refine ⟨⟨?_, a2, a3, a4⟩, fun c' hc' => ?_, fun c' hc' => ?_, fun f hf => ?_, fun k' c' hk' hc' => ?_, fun c' hc' => ?_⟩
  · rw [sN_congr (g := fun k => (sl S clk r k).countP kdTh) (fun i _ => by show (sl (ap S _ q) clk r i).countP kdTh = _; rw [sl_ap hc, ap_cf q1])]; exact a1
  · rw [hcur]
    have hb := b c' hc'
    have hh := he c' hc'
    by_cases hcc : c' = c0
    · subst hcc
      rw [if_pos rfl] at hh
      rw [ap_ct hq]; omega
    · rw [if_neg hcc] at hh
      rw [ap_cf (hne c' hc' hcc)]; omega
  · rw [hcur, ap_cf (q3 c')]; exact c c' hc'
  · rw [hcur]; exact d f hf
  · rw [ap_cf (q3 c')]
    have hx := x k' c' hk' hc'
    refine ⟨?_, hx.2⟩
    by_cases hcc : c' = c0
    · subst hcc
      by_cases hkk : k' = (clk + D c') % 9
      · subst hkk
        have hb := b c' hc'
        have hh := he c' hc'
        rw [if_pos rfl] at hh
        rw [ap_ct hq]; omega
      · rw [ap_ne hkk]; exact hx.1
    · rw [ap_cf (hne c' hc' hcc)]; exact hx.1
  · rw [hcur]; exact y c' hc'
theorem drop_row {l : List Row} {r : Nat} {q0 : Row} (h : l[r]? = some q0) : l.drop r = q0 :: l.drop (r + 1) := by
  obtain ⟨h1, h2⟩ := List.getElem?_eq_some_iff.mp h
  rw [List.drop_eq_getElem_cons h1, h2]
/-- the next thing of those that come -/
theorem BB.next (h : BB S rq fl ff V G clk K D r j s e) {q0 : Row} (h0 : (S (clk % 9))[r]? = some q0) {s' : Nat} (hs : s' ≤ s + if kdTh q0 then 1 else 0) : BB S rq fl ff V G clk K D (r + 1) j s' e := by
  obtain ⟨⟨a1, a2, a3, a4⟩, b, c, d, x, y⟩ := h
  have hd := drop_row h0
  have h9 : clk % 9 < 9 := Nat.mod_lt _ (by decide)
  have hu := sN_upd (k := 9) (i := clk % 9) (f := fun k => (sl S clk r k).countP kdTh) (g := fun k' => (sl S clk (r + 1) k').countP kdTh) h9 (fun i _ hne => by show (sl S clk (r + 1) i).countP kdTh = (sl S clk r i).countP kdTh; unfold sl; rw [if_neg hne, if_neg hne])
  have e1 : (sl S clk r (clk % 9)).countP kdTh = (sl S clk (r + 1) (clk % 9)).countP kdTh + if kdTh q0 then 1 else 0 := by
    unfold sl; rw [if_pos rfl, if_pos rfl, hd, List.countP_cons]
  refine ⟨⟨by omega, a2, a3, a4⟩, fun c' hc' => ?_, fun c' hc' => ?_, fun f hf => ?_, x, fun c' hc' => ⟨(y c' hc').1, by have := (y c' hc').2; omega⟩⟩
  · have hb := b c' hc'
    rw [hd, List.countP_cons] at hb
    omega
  · have hb := c c' hc'
    rw [hd, List.countP_cons] at hb
    omega
  · have hb := d f hf
    rw [hd, List.countP_cons] at hb
    omega
/-- a request comes -/
theorem BB.req (h : BB S rq fl ff V G clk K D r j s e) {q0 : Row} (h0 : (S (clk % 9))[r]? = some q0) (hq : kdR q0 = true) : BB S (rq + 1) fl ff V G clk K D (r + 1) j s e := by
  have hn := h.next h0 (s' := s + 1) (by rw [if_pos (kdR_th hq)]; exact Nat.le_refl _)
  obtain ⟨⟨a1, a2, a3, a4⟩, b, c, d, x, y⟩ := h
  obtain ⟨⟨m1, -, -, -⟩, -, m3, -, -, m6⟩ := hn
  have hd := drop_row h0
  refine ⟨⟨by omega, a2, a3, a4⟩, fun c' hc' => ?_, m3, fun f hf => ?_, x, m6⟩
  · have hb := b c' hc'
    rw [hd, List.countP_cons, if_pos hq] at hb
    omega
  · have hb := d f hf
    rw [hd, List.countP_cons, if_pos hq] at hb
    omega
/-- a CALL comes, and an ACK is sent -/
theorem BB.ap_A (h : BB S rq fl ff V G clk K D r j s e) {q0 q : Row} {c0 : Nat} (h0 : (S (clk % 9))[r]? = some q0) (hq0 : kdC c0 q0 = true) (hq : kdA c0 q = true) (hc0 : c0 < 4) (hD : 1 ≤ D c0 ∧ D c0 ≤ 8) : BB (ap S ((clk + D c0) % 9) q) rq fl ff V G clk K D (r + 1) j s e := by
  have hn := h.next h0 (s' := s) (Nat.le_add_right _ _)
  obtain ⟨-, -, c, -, -, -⟩ := h
  obtain ⟨⟨a1, a2, a3, a4⟩, b, c1, d, x, y⟩ := hn
  have hd := drop_row h0
  have hc : (clk + D c0) % 9 ≠ clk % 9 := by omega
  obtain ⟨q1, q2, q3, q4⟩ := kdA_th hq
  have hcur : ap S ((clk + D c0) % 9) q (clk % 9) = S (clk % 9) := ap_ne (fun q => hc q.symm)
  have hne : ∀ c', c' < 4 → c' ≠ c0 → kdA c' q = false := by
    intro c' hc' hne
    rcases h9 : kdA c' q with - | -
    · rfl
    · have h8 := (kdA_th h9).2.2.2
      rw [q4] at h8
      exact absurd ((nI_eq (by omega) (by omega)).mp h8.symm) hne
  refine ⟨⟨?_, a2, a3, a4⟩, fun c' hc' => ?_, fun c' hc' => ?_, fun f hf => ?_, fun k' c' hk' hc' => ?_, fun c' hc' => ?_⟩
  · rw [sN_congr (g := fun k => (sl S clk (r + 1) k).countP kdTh) (fun i _ => by show (sl (ap S _ q) clk (r + 1) i).countP kdTh = _; rw [sl_ap hc, ap_cf q1])]; exact a1
  · rw [hcur, ap_cf (q3 c')]; exact b c' hc'
  · rw [hcur]
    have hb := c c' hc'
    rw [hd, List.countP_cons] at hb
    by_cases hcc : c' = c0
    · subst hcc
      rw [if_pos hq0] at hb
      rw [ap_ct hq]; omega
    · rw [ap_cf (hne c' hc' hcc)]; omega
  · rw [hcur]; exact d f hf
  · rw [ap_cf (q3 c')]
    have hx := x k' c' hk' hc'
    refine ⟨hx.1, ?_⟩
    by_cases hcc : c' = c0
    · subst hcc
      by_cases hkk : k' = (clk + D c') % 9
      · subst hkk
        have hb := c c' hc'
        rw [hd, List.countP_cons, if_pos hq0] at hb
        rw [ap_ct hq]; omega
      · rw [ap_ne hkk]; exact hx.2
    · rw [ap_cf (hne c' hc' hcc)]; exact hx.2
  · rw [hcur]; exact y c' hc'
/-- a CLASH comes: one conflict more -/
theorem BB.conf (h : BB S rq fl ff V G clk K D r j s e) {q0 : Row} {c0 : Nat} (h0 : (S (clk % 9))[r]? = some q0) (hclk : clk < 1000) {s' : Nat} (hs : s' ≤ s + if kdTh q0 then 1 else 0) {G' : Nat → Int32} (hG : ∀ c, c < 4 → G' c = if c = c0 then G c0 + 1 else G c) : BB S rq fl ff V G' clk K D (r + 1) j s' e ∧ ∀ c, c < 4 → vN (G c) ≤ vN (G' c) := by
  have hn := h.next h0 hs
  obtain ⟨a, b, c, d, x, y0⟩ := h
  obtain ⟨m1, m2, m3, m4, m5, m6⟩ := hn
  have hlen := (List.getElem?_eq_some_iff.mp h0).1
  have key : ∀ c, c < 4 → G' c = nI (vN (G' c)) ∧ vN (G' c) = vN (G c) + (if c = c0 then 1 else 0) := by
    intro c hc
    have y := y0 c hc
    rw [hG c hc]
    by_cases hcc : c = c0
    · subst hcc
      rw [if_pos rfl, if_pos rfl]
      have e1 : G c + 1 = nI (vN (G c) + 1) := by
        have := nI_add (vN (G c)) 1
        rw [← y.1] at this
        exact this
      rw [e1, vN_nI (by omega)]
      exact ⟨rfl, rfl⟩
    · rw [if_neg hcc, if_neg hcc]; exact ⟨y.1, rfl⟩
  refine ⟨⟨m1, m2, m3, m4, m5, fun c hc => ⟨(key c hc).1, ?_⟩⟩, fun c hc => by rw [(key c hc).2]; omega⟩
  have y := y0 c hc
  rw [(key c hc).2]
  split <;> omega
theorem countP_cover {l : List Row} (h : ∀ q, q ∈ l → kdTh q = true ∨ ∃ c, c < 4 ∧ (kdC c q = true ∨ kdA c q = true)) : l.length ≤ l.countP kdTh + sN 4 (fun c => l.countP (kdC c) + l.countP (kdA c)) := by
  induction l with
  | nil => exact Nat.zero_le _
  | cons q l ih =>
    have ih := ih (fun q hq => h q (List.mem_cons_of_mem _ hq))
    rw [List.length_cons, List.countP_cons]
    have hm : sN 4 (fun c => l.countP (kdC c) + l.countP (kdA c)) ≤ sN 4 (fun c => (q :: l).countP (kdC c) + (q :: l).countP (kdA c)) := sN_le (fun c _ => by rw [List.countP_cons, List.countP_cons]; omega)
    rcases h q List.mem_cons_self with h1 | ⟨c, hc, h1⟩
    · rw [if_pos h1]; omega
    · have hs : sN 4 (fun c => l.countP (kdC c) + l.countP (kdA c)) + 1 ≤ sN 4 (fun c => (q :: l).countP (kdC c) + (q :: l).countP (kdA c)) := by
        have hu := sN_upd (k := 4) (i := c) (f := fun c => l.countP (kdC c) + l.countP (kdA c)) (g := fun c' => if c' = c then l.countP (kdC c) + l.countP (kdA c) + 1 else l.countP (kdC c') + l.countP (kdA c')) hc (fun i _ hne => if_neg hne)
        have hl : sN 4 (fun c' => if c' = c then l.countP (kdC c) + l.countP (kdA c) + 1 else l.countP (kdC c') + l.countP (kdA c')) ≤ sN 4 (fun c => (q :: l).countP (kdC c) + (q :: l).countP (kdA c)) := sN_le (fun c' _ => by
          show (if c' = c then _ else _) ≤ _
          rw [List.countP_cons, List.countP_cons]
          by_cases hcc : c' = c
          · subst hcc; rw [if_pos rfl]
            rcases h1 with h1 | h1 <;> rw [if_pos h1] <;> omega
          · rw [if_neg hcc]; omega)
        simp only [if_pos] at hu
        omega
      omega
/-- no slot has more than this -/
theorem BB.len (h : BB S rq fl ff V G clk K D r j s e) (hj : j ≤ rq) {k : Nat} (hk : k < 9) (hc : k ≠ clk % 9) (ha : ∀ q, q ∈ S k → kdTh q = true ∨ ∃ c, c < 4 ∧ (kdC c q = true ∨ kdA c q = true)) : (S k).length ≤ 11328 := by
  obtain ⟨⟨a1, a2, a3, a4⟩, b, c, d, x, y⟩ := h
  have h1 := countP_cover ha
  have h2 : (sl S clk r k).countP kdTh ≤ sN 9 (fun k => (sl S clk r k).countP kdTh) := sN_get (f := fun k => (sl S clk r k).countP kdTh) hk
  have h3 : sl S clk r k = S k := if_neg hc
  rw [h3] at h2
  have h4 : sN 4 (fun c => (S k).countP (kdC c) + (S k).countP (kdA c)) ≤ 4 * 2520 := sN_bd (fun c hc => by have := x k c hk hc; omega)
  omega
theorem BB.reqs (h : BB S rq fl ff V G clk K D r j s e) : rq + s ≤ 1248 + j := by
  obtain ⟨⟨a1, a2, a3, a4⟩, b, c, d, x, y⟩ := h
  omega
/-- the clock goes on -/
theorem BB.tick (h : BB S rq fl ff V G clk K D 0 0 0 (fun _ => 0)) (h0 : S (clk % 9) = []) (hz : ∀ c, c < 4 → ∀ q, q ∈ S ((clk + 1 + D c) % 9) → kdC c q = false ∧ kdA c q = false) (ha : ∀ q, q ∈ S ((clk + 1) % 9) → kdTh q = true ∨ ∃ c, c < 4 ∧ (kdC c q = true ∨ kdA c q = true)) : BB S rq fl ff V G (clk + 1) K D 0 0 0 (fun _ => 0) := by
  have hlen := h.len (Nat.zero_le _) (k := (clk + 1) % 9) (Nat.mod_lt _ (by decide)) (by omega) ha
  obtain ⟨⟨a1, a2, a3, a4⟩, b, c, d, x, y⟩ := h
  have hs : ∀ c k, sl S c 0 k = S k := fun c k => by unfold sl; rw [List.drop_zero]; split <;> rfl
  have hR : (S ((clk + 1) % 9)).countP kdR ≤ sN 9 (fun k => (sl S clk 0 k).countP kdTh) := by
    refine Nat.le_trans (List.countP_mono_left (fun q _ h => kdR_th h)) ?_
    have := sN_get (f := fun k => (sl S clk 0 k).countP kdTh) (i := (clk + 1) % 9) (k := 9) (Nat.mod_lt _ (by decide))
    simp only [hs] at this
    simp only [hs]
    exact this
  have hzC : ∀ c, c < 4 → (S ((clk + 1 + D c) % 9)).countP (kdC c) = 0 := fun c hc => List.countP_eq_zero.mpr (fun q hq => by rw [(hz c hc q hq).1]; decide)
  have hzA : ∀ c, c < 4 → (S ((clk + 1 + D c) % 9)).countP (kdA c) = 0 := fun c hc => List.countP_eq_zero.mpr (fun q hq => by rw [(hz c hc q hq).2]; decide)
  refine ⟨⟨by simp only [hs] at a1 ⊢; exact a1, a2, a3, a4⟩, fun c' hc' => ?_, fun c' hc' => ?_, fun f hf => ?_, x, fun c' hc' => ⟨(y c' hc').1, ?_⟩⟩
  · rw [hzC c' hc', List.drop_zero]; show _ + 0 ≤ _; omega
  · rw [hzA c' hc', List.drop_zero]; have := (x ((clk + 1) % 9) c' (Nat.mod_lt _ (by decide)) hc').1; omega
  · rw [List.drop_zero]; have := d f hf; omega
  · have := (y c' hc').2; omega
/-- what has come is gone -/
theorem BB.gone (h : BB S rq fl ff V G clk K D (S (clk % 9)).length 0 0 (fun _ => 0)) {S' : Nat → List Row} (h1 : S' (clk % 9) = []) (h2 : ∀ k, k < 9 → k ≠ clk % 9 → S' k = S k) (hD : ∀ c, c < 4 → 1 ≤ D c ∧ D c ≤ 8) : BB S' rq fl ff V G clk K D 0 0 0 (fun _ => 0) := by
  obtain ⟨⟨a1, a2, a3, a4⟩, b, c, d, x, y⟩ := h
  rw [List.drop_length] at b c d
  have hD2 : ∀ c, c < 4 → S' ((clk + D c) % 9) = S ((clk + D c) % 9) := fun c hc => h2 _ (Nat.mod_lt _ (by decide)) (by have := hD c hc; omega)
  refine ⟨⟨?_, a2, a3, a4⟩, fun c' hc' => ?_, fun c' hc' => ?_, fun f hf => ?_, fun k c' hk hc' => ?_, fun c' hc' => ⟨(y c' hc').1, ?_⟩⟩
  · rw [sN_congr (g := fun k => (sl S clk (S (clk % 9)).length k).countP kdTh) (fun i hi => by
      show (sl S' clk 0 i).countP kdTh = _
      unfold sl
      by_cases hh : i = clk % 9
      · subst hh; rw [if_pos rfl, if_pos rfl, h1, List.drop_length]; rfl
      · rw [if_neg hh, if_neg hh, h2 i hi hh])]
    exact a1
  · rw [hD2 c' hc', h1]; exact b c' hc'
  · rw [hD2 c' hc', h1]; exact c c' hc'
  · rw [h1]; exact d f hf
  · by_cases hh : k = clk % 9
    · subst hh; rw [h1]; exact ⟨Nat.zero_le _, Nat.zero_le _⟩
    · rw [h2 k hk hh]; exact x k c' hk hc'
  · rw [h1]; have := (y c' hc').2; simp only [List.length_nil]; omega
end BUDGET
