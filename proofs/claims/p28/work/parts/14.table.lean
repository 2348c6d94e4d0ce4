/-! ===== Table: its methods ===== -/
abbrev gC (M : MS) (y n a r c : Nat) : Int32 := ((gT M y n a).getD r (fun _ => 0)) c
theorem tw_pos (y : Nat) : 1 ≤ tw y ∧ tw y ≤ 8 := by
  match y with
  | 0 => decide
  | 1 => decide
  | n + 2 => exact ⟨by show 1 ≤ 8; decide, by show 8 ≤ 8; decide⟩
theorem TabAt.apart {hp : AH} {i w : Nat} {r : List Row} {cap : Nat} (h : TabAt hp i w r cap) (hi : i + 1 ≤ 277) : aix hp i ≠ i := by
  rcases h.2.2.2.2.1 with e | e <;> omega
theorem TabAt.okA {hp : AH} {i w : Nat} {r : List Row} {cap : Nat} (h : TabAt hp i w r cap) : okc hp (aix hp i) 6 (w * cap) := by
  obtain ⟨a1, a2, a3, a4, a5, a6, a7, -⟩ := h
  exact ⟨by omega, a6, a7⟩
theorem cell_lt {r c w cap len : Nat} (hr : r < len) (hc : c < w) (hl : len ≤ cap) : r * w + c < w * cap := by
  have h1 : (r + 1) * w ≤ cap * w := Nat.mul_le_mul_right w (by omega)
  rw [Nat.succ_mul] at h1
  rw [Nat.mul_comm w cap]
  omega
theorem cap_lt {y cap : Nat} (h : cap ≤ 140000) : tw y * cap < 2 ^ 31 := by
  have h1 := (tw_pos y).2
  have h2 : tw y * cap ≤ 8 * 140000 := Nat.mul_le_mul h1 h
  omega
/-- the rows' number is written, a row more -/
theorem Rep.addPlain {hp : AH} {M : MS} (h : Rep hp M) {y n a : Nat} (ht : vt y n a) (hl : (gT M y n a).length < gP M y n a) : ∃ q : Row, Rep (hset hp (xt y n a) 2 (.int (nI ((gT M y n a).length + 1)))) (sW M (mz M) (mt M) y n a (gT M y n a ++ [q]) (gP M y n a)) := by
  have hT := h.T ht
  have hne := hT.apart (xt_le ht).2
  have hz := h.2.1
  have htt := h.2.2.1
  obtain ⟨a1, a2, a3, a4, a5, a6, a7, a8, a9, a10, a11⟩ := id hT
  refine ⟨fun c => toI (hv hp (aix hp (xt y n a)) ((gT M y n a).length * tw y + c)), ?_⟩
  have e : aix (hset hp (xt y n a) 2 (.int (nI ((gT M y n a).length + 1)))) (xt y n a) = aix hp (xt y n a) := aix_ne (fun q => by have := q.2; omega)
  have hh := Rep.tab (hp' := hset hp (xt y n a) 2 (.int (nI ((gT M y n a).length + 1)))) h ht (r := gT M y n a ++ [fun c => toI (hv hp (aix hp (xt y n a)) ((gT M y n a).length * tw y + c))]) (cap := gP M y n a) (Nat.le_refl _) (fun i _ h2 _ => ⟨rfl, fun k => hv_ne (fun q => h2 q.1)⟩) ?_ (Or.inl e)
  · rw [← hz, ← htt]; exact hh
  · unfold TabAt
    rw [e]
    refine ⟨a1, ?_, ?_, ?_, a5, a6, a7, by rw [List.length_append]; simp; omega, a9, fun j hj => ?_, fun k q hq c hc => ?_⟩
    · rw [hv_ne (fun q => by have := q.2; omega)]; exact a2
    · rw [hv_set, if_pos ⟨rfl, rfl⟩, List.length_append]; rfl
    · rw [hv_ne (fun q => by have := q.2; omega)]; exact a4
    · rw [hv_ne (fun q => hne q.1)]; exact a10 j hj
    · rw [hv_ne (fun q => hne q.1)]
      by_cases hk : k < (gT M y n a).length
      · rw [List.getElem?_append_left hk] at hq
        exact a11 k q hq c hc
      · rw [List.getElem?_append_right (by omega)] at hq
        have h1 : k - (gT M y n a).length < 1 := (List.getElem?_eq_some_iff.mp hq).1
        have h2 : k = (gT M y n a).length := by omega
        subst h2
        rw [Nat.sub_self] at hq
        cases hq
        obtain ⟨x, hx⟩ := a10 ((gT M y n a).length * tw y + c) (cell_lt (Nat.lt_succ_self _) hc hl)
        simp only [hx, toI]
/-- a new array comes in the place of the old one, with what was copied -/
theorem Rep.fresh {hp : AH} {M : MS} (h : Rep hp M) {y n a c2 : Nat} (ht : vt y n a) (hc2 : (gT M y n a).length ≤ c2) (hc3 : c2 ≤ 140000) :
    Rep (hset (hcpy (hnew hp 6 (tw y * c2) (fun _ => .int 0)) (aix hp (xt y n a)) (hsz hp + 1) 0 0 ((gT M y n a).length * tw y)) (xt y n a) 1 (.ref (hsz hp + 1))) (sW M (mz M + 1) (mt M + tw y * c2) y n a (gT M y n a) c2) := by
  have hT := h.T ht
  have hne := hT.apart (xt_le ht).2
  have hz := h.2.1
  have htt := h.2.2.1
  have hl := xt_le ht
  have h277 := h.1
  obtain ⟨a1, a2, a3, a4, a5, a6, a7, a8, a9, a10, a11⟩ := id hT
  generalize hH : hset (hcpy (hnew hp 6 (tw y * c2) (fun _ => .int 0)) (aix hp (xt y n a)) (hsz hp + 1) 0 0 ((gT M y n a).length * tw y)) (xt y n a) 1 (.ref (hsz hp + 1)) = h4
  have e0 : hsz h4 = hsz hp + 1 := by rw [← hH]; rfl
  have e1 : htot h4 = htot hp + tw y * c2 := by rw [← hH]; rfl
  have ekN : ∀ i, i ≠ hsz hp + 1 → hk h4 i = hk hp i := fun i hi => by
    rw [← hH]
    show (if i = hp.1 + 1 then (6, tw y * c2) else hp.2.2.1 i) = _
    rw [if_neg hi]
  have ekN2 : hk h4 (hsz hp + 1) = (6, tw y * c2) := by
    rw [← hH]
    show (if hp.1 + 1 = hp.1 + 1 then (6, tw y * c2) else hp.2.2.1 (hp.1 + 1)) = _
    rw [if_pos rfl]
  have ev : ∀ i k, i ≠ hsz hp + 1 → ¬ (i = xt y n a ∧ k = 1) → hv h4 i k = hv hp i k := fun i k h1 h2 => by
    rw [← hH]
    show (if i = xt y n a ∧ k = 1 then _ else if i = hsz hp + 1 then _ else if i = hp.1 + 1 then _ else hp.2.2.2 i k) = _
    rw [if_neg h2, if_neg h1, if_neg h1]
  have evx : hv h4 (xt y n a) 1 = .ref (hsz hp + 1) := by
    rw [← hH]
    exact if_pos ⟨rfl, rfl⟩
  have evN : ∀ j, hv h4 (hsz hp + 1) j = if j < (gT M y n a).length * tw y then .int (toI (hv hp (aix hp (xt y n a)) j)) else .int 0 := fun j => by
    rw [← hH]
    show (if hsz hp + 1 = xt y n a ∧ j = 1 then _ else if hsz hp + 1 = hsz hp + 1 then (if 0 ≤ j ∧ j < 0 + (gT M y n a).length * tw y then Value.int (toI (if aix hp (xt y n a) = hp.1 + 1 then _ else hp.2.2.2 (aix hp (xt y n a)) (0 + (j - 0)))) else (if hsz hp + 1 = hp.1 + 1 then Value.int 0 else _)) else _) = _
    rw [if_neg (fun q => by have := q.1; omega), if_pos rfl, if_pos rfl]
    have hn9 : ¬ aix hp (xt y n a) = hp.1 + 1 := by have : aix hp (xt y n a) ≤ hp.1 := a6; omega
    simp only [if_neg hn9]
    by_cases hj : j < (gT M y n a).length * tw y
    · rw [if_pos ⟨Nat.zero_le _, by omega⟩, if_pos hj, Nat.zero_add, Nat.sub_zero]
    · rw [if_neg (fun q => hj (by omega)), if_neg hj]
  have e : aix h4 (xt y n a) = hsz hp + 1 := by unfold aix; rw [evx]
  have hxn : xt y n a ≠ hsz hp + 1 := by omega
  have hh := Rep.tab (hp' := h4) h ht (r := gT M y n a) (cap := c2) (by omega) (fun i h1 h2 _ => ⟨ekN i (by omega), fun k => ev i k (by omega) (fun q => h2 q.1)⟩) ?_ (Or.inr (by omega))
  · rw [e0, e1, hz, htt] at hh; exact hh
  · unfold TabAt
    rw [e]
    refine ⟨by rw [ekN _ hxn]; exact a1, by rw [ev _ _ hxn (fun q => by have := q.2; omega)]; exact a2, by rw [ev _ _ hxn (fun q => by have := q.2; omega)]; exact a3, evx, Or.inr (by omega), by omega, ekN2, hc2, hc3, fun j hj => ?_, fun k q hq c hc => ?_⟩
    · rw [evN]
      by_cases hj2 : j < (gT M y n a).length * tw y
      · rw [if_pos hj2]; exact ⟨_, rfl⟩
      · rw [if_neg hj2]; exact ⟨_, rfl⟩
    · have hk : k < (gT M y n a).length := (List.getElem?_eq_some_iff.mp hq).1
      have h1 : (k + 1) * tw y ≤ (gT M y n a).length * tw y := Nat.mul_le_mul_right _ (by omega)
      rw [Nat.succ_mul] at h1
      rw [evN, if_pos (by omega), a11 k q hq c hc]; rfl
/-- a number in a row is written -/
theorem Rep.cell {hp : AH} {M : MS} (h : Rep hp M) {y n a r c : Nat} (ht : vt y n a) (hr : r < (gT M y n a).length) (hc : c < tw y) (x : Int32) :
    Rep (hset hp (aix hp (xt y n a)) (r * tw y + c) (.int x)) (sW M (mz M) (mt M) y n a ((gT M y n a).set r (upd ((gT M y n a).getD r (fun _ => 0)) c x)) (gP M y n a)) := by
  have hT := h.T ht
  have hne := hT.apart (xt_le ht).2
  have hz := h.2.1
  have htt := h.2.2.1
  obtain ⟨a1, a2, a3, a4, a5, a6, a7, a8, a9, a10, a11⟩ := id hT
  have e : aix (hset hp (aix hp (xt y n a)) (r * tw y + c) (.int x)) (xt y n a) = aix hp (xt y n a) := aix_ne (fun q => hne q.1.symm)
  have hh := Rep.tab (hp' := hset hp (aix hp (xt y n a)) (r * tw y + c) (.int x)) h ht (r := (gT M y n a).set r (upd ((gT M y n a).getD r (fun _ => 0)) c x)) (cap := gP M y n a) (Nat.le_refl _) (fun i _ _ h3 => ⟨rfl, fun k => hv_ne (fun q => h3 q.1)⟩) ?_ (Or.inl e)
  · rw [← hz, ← htt]; exact hh
  · unfold TabAt
    rw [e]
    refine ⟨a1, ?_, ?_, ?_, a5, a6, a7, by rw [List.length_set]; exact a8, a9, fun j hj => ?_, fun k q hq c' hc' => ?_⟩
    · rw [hv_ne (fun q => hne q.1.symm)]; exact a2
    · rw [hv_ne (fun q => hne q.1.symm), List.length_set]; exact a3
    · rw [hv_ne (fun q => hne q.1.symm)]; exact a4
    · rw [hv_set]
      by_cases hq : aix hp (xt y n a) = aix hp (xt y n a) ∧ j = r * tw y + c
      · rw [if_pos hq]; exact ⟨_, rfl⟩
      · rw [if_neg hq]; exact a10 j hj
    · rw [hv_set]
      by_cases hk : k = r
      · subst hk
        rw [List.getElem?_set_self hr] at hq
        cases hq
        by_cases hcc : c' = c
        · subst hcc
          rw [if_pos ⟨rfl, rfl⟩]; simp [upd]
        · rw [if_neg (fun q => hcc (by omega))]
          simp only [upd, if_neg hcc]
          refine a11 k _ ?_ c' hc'
          rw [List.getD_eq_getElem?_getD, List.getElem?_eq_getElem hr]; rfl
      · rw [List.getElem?_set_ne (fun q => hk q.symm)] at hq
        rw [if_neg]
        · exact a11 k q hq c' hc'
        · rintro ⟨-, q2⟩
          rcases Nat.lt_or_gt_of_ne hk with h1 | h1
          · have h2 : (k + 1) * tw y ≤ r * tw y := Nat.mul_le_mul_right _ h1
            rw [Nat.succ_mul] at h2
            omega
          · have h2 : (r + 1) * tw y ≤ k * tw y := Nat.mul_le_mul_right _ h1
            rw [Nat.succ_mul] at h2
            omega
/-- the first rows go -/
theorem Rep.drop {hp : AH} {M : MS} (h : Rep hp M) {y n a m : Nat} (ht : vt y n a) (hm : m ≤ (gT M y n a).length) :
    Rep (hset (hcpy hp (aix hp (xt y n a)) (aix hp (xt y n a)) (m * tw y) 0 (((gT M y n a).length - m) * tw y)) (xt y n a) 2 (.int (nI ((gT M y n a).length - m)))) (sW M (mz M) (mt M) y n a ((gT M y n a).drop m) (gP M y n a)) := by
  have hT := h.T ht
  have hne := hT.apart (xt_le ht).2
  have hz := h.2.1
  have htt := h.2.2.1
  obtain ⟨a1, a2, a3, a4, a5, a6, a7, a8, a9, a10, a11⟩ := id hT
  generalize hH : hset (hcpy hp (aix hp (xt y n a)) (aix hp (xt y n a)) (m * tw y) 0 (((gT M y n a).length - m) * tw y)) (xt y n a) 2 (.int (nI ((gT M y n a).length - m))) = h4
  have e0 : hsz h4 = hsz hp := by rw [← hH]; rfl
  have e1 : htot h4 = htot hp := by rw [← hH]; rfl
  have ek : ∀ i, hk h4 i = hk hp i := fun i => by rw [← hH]; rfl
  have ev : ∀ i k, i ≠ aix hp (xt y n a) → ¬ (i = xt y n a ∧ k = 2) → hv h4 i k = hv hp i k := fun i k h1 h2 => by
    rw [← hH]
    show (if i = xt y n a ∧ k = 2 then _ else if i = aix hp (xt y n a) then _ else hp.2.2.2 i k) = _
    rw [if_neg h2, if_neg h1]
  have evx : hv h4 (xt y n a) 2 = .int (nI ((gT M y n a).length - m)) := by
    rw [← hH]
    exact if_pos ⟨rfl, rfl⟩
  have evA : ∀ j, hv h4 (aix hp (xt y n a)) j = if j < ((gT M y n a).length - m) * tw y then .int (toI (hv hp (aix hp (xt y n a)) (m * tw y + j))) else hv hp (aix hp (xt y n a)) j := fun j => by
    rw [← hH]
    show (if aix hp (xt y n a) = xt y n a ∧ j = 2 then _ else if aix hp (xt y n a) = aix hp (xt y n a) then (if 0 ≤ j ∧ j < 0 + ((gT M y n a).length - m) * tw y then Value.int (toI (hp.2.2.2 (aix hp (xt y n a)) (m * tw y + (j - 0)))) else hp.2.2.2 (aix hp (xt y n a)) j) else _) = _
    rw [if_neg (fun q => hne q.1), if_pos rfl]
    by_cases hj : j < ((gT M y n a).length - m) * tw y
    · rw [if_pos ⟨Nat.zero_le _, by omega⟩, if_pos hj, Nat.sub_zero]
    · rw [if_neg (fun q => hj (by omega)), if_neg hj]
  have e : aix h4 (xt y n a) = aix hp (xt y n a) := by
    unfold aix
    rw [ev _ _ (fun q => hne q.symm) (fun q => by have := q.2; omega)]
  have hh := Rep.tab (hp' := h4) h ht (r := (gT M y n a).drop m) (cap := gP M y n a) (by omega) (fun i _ h2 h3 => ⟨ek i, fun k => ev i k h3 (fun q => h2 q.1)⟩) ?_ (Or.inl e)
  · rw [e0, e1, hz, htt] at hh; exact hh
  · unfold TabAt
    rw [e]
    refine ⟨by rw [ek]; exact a1, by rw [ev _ _ (fun q => hne q.symm) (fun q => by have := q.2; omega)]; exact a2, by rw [evx, List.length_drop], by rw [ev _ _ (fun q => hne q.symm) (fun q => by have := q.2; omega)]; exact a4, a5, by rw [e0]; exact a6, by rw [ek]; exact a7, by rw [List.length_drop]; omega, a9, fun j hj => ?_, fun k q hq c hc => ?_⟩
    · rw [evA]
      by_cases hj2 : j < ((gT M y n a).length - m) * tw y
      · rw [if_pos hj2]; exact ⟨_, rfl⟩
      · rw [if_neg hj2]; exact a10 j hj
    · rw [List.getElem?_drop] at hq
      have hk : m + k < (gT M y n a).length := (List.getElem?_eq_some_iff.mp hq).1
      have h1 : (k + 1) * tw y ≤ ((gT M y n a).length - m) * tw y := Nat.mul_le_mul_right _ (by omega)
      rw [Nat.succ_mul] at h1
      have h3 : m * tw y + (k * tw y + c) = (m + k) * tw y + c := by rw [Nat.add_mul]; omega
      rw [evA, if_pos (by omega), h3, a11 (m + k) q hq c hc]; rfl
/-- a table's rows come from another one -/
theorem Rep.tcopy {hp : AH} {M : MS} (h : Rep hp M) {y n a n' a' : Nat} (ht : vt y n a) (ht' : vt y n' a') (hne0 : ¬ (n' = n ∧ a' = a)) (hl : (gT M y n' a').length ≤ gP M y n a) :
    Rep (hset (hcpy hp (aix hp (xt y n' a')) (aix hp (xt y n a)) 0 0 ((gT M y n' a').length * tw y)) (xt y n a) 2 (.int (nI (gT M y n' a').length))) (sW M (mz M) (mt M) y n a (gT M y n' a') (gP M y n a)) := by
  have hT := h.T ht
  have hT' := h.T ht'
  have hne := hT.apart (xt_le ht).2
  have hz := h.2.1
  have htt := h.2.2.1
  obtain ⟨a1, a2, a3, a4, a5, a6, a7, a8, a9, a10, a11⟩ := id hT
  obtain ⟨b1, b2, b3, b4, b5, b6, b7, b8, b9, b10, b11⟩ := id hT'
  have hAA : aix hp (xt y n' a') ≠ aix hp (xt y n a) := fun q => by
    obtain ⟨-, r1, r2⟩ := h.2.2.2.2.2.2.2.2.2.2.2.1 _ _ _ _ _ _ ht' ht q
    exact hne0 ⟨r1, r2⟩
  generalize hH : hset (hcpy hp (aix hp (xt y n' a')) (aix hp (xt y n a)) 0 0 ((gT M y n' a').length * tw y)) (xt y n a) 2 (.int (nI (gT M y n' a').length)) = h4
  have e0 : hsz h4 = hsz hp := by rw [← hH]; rfl
  have e1 : htot h4 = htot hp := by rw [← hH]; rfl
  have ek : ∀ i, hk h4 i = hk hp i := fun i => by rw [← hH]; rfl
  have ev : ∀ i k, i ≠ aix hp (xt y n a) → ¬ (i = xt y n a ∧ k = 2) → hv h4 i k = hv hp i k := fun i k h1 h2 => by
    rw [← hH]
    show (if i = xt y n a ∧ k = 2 then _ else if i = aix hp (xt y n a) then _ else hp.2.2.2 i k) = _
    rw [if_neg h2, if_neg h1]
  have evx : hv h4 (xt y n a) 2 = .int (nI (gT M y n' a').length) := by
    rw [← hH]
    exact if_pos ⟨rfl, rfl⟩
  have evA : ∀ j, hv h4 (aix hp (xt y n a)) j = if j < (gT M y n' a').length * tw y then .int (toI (hv hp (aix hp (xt y n' a')) j)) else hv hp (aix hp (xt y n a)) j := fun j => by
    rw [← hH]
    show (if aix hp (xt y n a) = xt y n a ∧ j = 2 then _ else if aix hp (xt y n a) = aix hp (xt y n a) then (if 0 ≤ j ∧ j < 0 + (gT M y n' a').length * tw y then Value.int (toI (hp.2.2.2 (aix hp (xt y n' a')) (0 + (j - 0)))) else hp.2.2.2 (aix hp (xt y n a)) j) else _) = _
    rw [if_neg (fun q => hne q.1), if_pos rfl]
    by_cases hj : j < (gT M y n' a').length * tw y
    · rw [if_pos ⟨Nat.zero_le _, by omega⟩, if_pos hj, Nat.sub_zero, Nat.zero_add]
    · rw [if_neg (fun q => hj (by omega)), if_neg hj]
  have e : aix h4 (xt y n a) = aix hp (xt y n a) := by
    unfold aix
    rw [ev _ _ (fun q => hne q.symm) (fun q => by have := q.2; omega)]
  have hh := Rep.tab (hp' := h4) h ht (r := gT M y n' a') (cap := gP M y n a) (by omega) (fun i _ h2 h3 => ⟨ek i, fun k => ev i k h3 (fun q => h2 q.1)⟩) ?_ (Or.inl e)
  · rw [e0, e1, hz, htt] at hh; exact hh
  · unfold TabAt
    rw [e]
    refine ⟨by rw [ek]; exact a1, by rw [ev _ _ (fun q => hne q.symm) (fun q => by have := q.2; omega)]; exact a2, evx, by rw [ev _ _ (fun q => hne q.symm) (fun q => by have := q.2; omega)]; exact a4, a5, by rw [e0]; exact a6, by rw [ek]; exact a7, hl, a9, fun j hj => ?_, fun k q hq c hc => ?_⟩
    · rw [evA]
      by_cases hj2 : j < (gT M y n' a').length * tw y
      · rw [if_pos hj2]; exact ⟨_, rfl⟩
      · rw [if_neg hj2]; exact a10 j hj
    · have hk : k < (gT M y n' a').length := (List.getElem?_eq_some_iff.mp hq).1
      have h1 : (k + 1) * tw y ≤ (gT M y n' a').length * tw y := Nat.mul_le_mul_right _ (by omega)
      rw [Nat.succ_mul] at h1
      rw [evA, if_pos (by omega), b11 k q hq c hc]; rfl
/-- a new array of zeros in the place of the old one -/
theorem Rep.zeros {hp : AH} {M : MS} (h : Rep hp M) {y n a c2 : Nat} (ht : vt y n a) (hc2 : (gT M y n a).length ≤ c2) (hc3 : c2 ≤ 140000) :
    Rep (hset (hnew hp 6 (tw y * c2) (fun _ => .int 0)) (xt y n a) 1 (.ref (hsz hp + 1))) (sW M (mz M + 1) (mt M + tw y * c2) y n a (List.replicate (gT M y n a).length (fun _ => 0)) c2) := by
  have hT := h.T ht
  have hne := hT.apart (xt_le ht).2
  have hz := h.2.1
  have htt := h.2.2.1
  have hl := xt_le ht
  have h277 := h.1
  obtain ⟨a1, a2, a3, a4, a5, a6, a7, a8, a9, a10, a11⟩ := id hT
  generalize hH : hset (hnew hp 6 (tw y * c2) (fun _ => .int 0)) (xt y n a) 1 (.ref (hsz hp + 1)) = h4
  have e0 : hsz h4 = hsz hp + 1 := by rw [← hH]; rfl
  have e1 : htot h4 = htot hp + tw y * c2 := by rw [← hH]; rfl
  have ekN : ∀ i, i ≠ hsz hp + 1 → hk h4 i = hk hp i := fun i hi => by
    rw [← hH]
    show (if i = hp.1 + 1 then (6, tw y * c2) else hp.2.2.1 i) = _
    rw [if_neg hi]
  have ekN2 : hk h4 (hsz hp + 1) = (6, tw y * c2) := by
    rw [← hH]
    show (if hp.1 + 1 = hp.1 + 1 then (6, tw y * c2) else hp.2.2.1 (hp.1 + 1)) = _
    rw [if_pos rfl]
  have ev : ∀ i k, i ≠ hsz hp + 1 → ¬ (i = xt y n a ∧ k = 1) → hv h4 i k = hv hp i k := fun i k h1 h2 => by
    rw [← hH]
    show (if i = xt y n a ∧ k = 1 then _ else if i = hp.1 + 1 then _ else hp.2.2.2 i k) = _
    rw [if_neg h2, if_neg h1]
  have evx : hv h4 (xt y n a) 1 = .ref (hsz hp + 1) := by
    rw [← hH]
    exact if_pos ⟨rfl, rfl⟩
  have evN : ∀ j, hv h4 (hsz hp + 1) j = .int 0 := fun j => by
    rw [← hH]
    show (if hsz hp + 1 = xt y n a ∧ j = 1 then _ else if hsz hp + 1 = hp.1 + 1 then Value.int 0 else _) = _
    rw [if_neg (fun q => by have := q.1; omega), if_pos rfl]
  have e : aix h4 (xt y n a) = hsz hp + 1 := by unfold aix; rw [evx]
  have hxn : xt y n a ≠ hsz hp + 1 := by omega
  have hh := Rep.tab (hp' := h4) h ht (r := List.replicate (gT M y n a).length (fun _ => 0)) (cap := c2) (by omega) (fun i h1 h2 _ => ⟨ekN i (by omega), fun k => ev i k (by omega) (fun q => h2 q.1)⟩) ?_ (Or.inr (by omega))
  · rw [e0, e1, hz, htt] at hh; exact hh
  · unfold TabAt
    rw [e]
    refine ⟨by rw [ekN _ hxn]; exact a1, by rw [ev _ _ hxn (fun q => by have := q.2; omega)]; exact a2, by rw [ev _ _ hxn (fun q => by have := q.2; omega), List.length_replicate]; exact a3, evx, Or.inr (by omega), by omega, ekN2, by rw [List.length_replicate]; exact hc2, hc3, fun j hj => ⟨0, evN j⟩, fun k q hq c hc => ?_⟩
    rw [evN]
    have h9 := List.getElem?_eq_some_iff.mp hq
    obtain ⟨h9, h10⟩ := h9
    rw [List.getElem_replicate] at h10
    rw [← h10]
