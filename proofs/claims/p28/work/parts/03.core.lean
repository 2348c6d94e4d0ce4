/-! ===== MY OWN LAYER: an abstract machine over the kit's rows. A heap of numbered cells (1, 2, ..), the k-th new cell of the run at the address base + k - 1; a reference is its number (0: the script) ===== -/
abbrev LSt : Type := List (Option Value)
/-- how many cells, how many slots in them, of each its kind (class, fields) or (6 + array type, length), what it holds -/
abbrev AH : Type := Nat × Nat × (Nat → Nat × Nat) × (Nat → Nat → Value)
abbrev hsz (hp : AH) : Nat := hp.1
abbrev htot (hp : AH) : Nat := hp.2.1
abbrev hk (hp : AH) (i : Nat) : Nat × Nat := hp.2.2.1 i
abbrev hv (hp : AH) (i k : Nat) : Value := hp.2.2.2 i k
def hset (hp : AH) (i k : Nat) (v : Value) : AH := (hp.1, hp.2.1, hp.2.2.1, fun j l => if j = i ∧ l = k then v else hp.2.2.2 j l)
def hnew (hp : AH) (t n : Nat) (z : Nat → Value) : AH := (hp.1 + 1, hp.2.1 + n, fun j => if j = hp.1 + 1 then (t, n) else hp.2.2.1 j, fun j k => if j = hp.1 + 1 then z k else hp.2.2.2 j k)
def toI : Value → Int32
  | .int x => x
  | _ => 0
def hcpy (hp : AH) (src dst sp dp n : Nat) : AH := (hp.1, hp.2.1, hp.2.2.1, fun j l => if j = dst then (if dp ≤ l ∧ l < dp + n then .int (toI (hp.2.2.2 src (sp + (l - dp)))) else hp.2.2.2 j l) else hp.2.2.2 j l)
/-- addresses -/
def ca (base b : Nat) : Nat → Nat
  | 0 => b
  | i + 1 => base + i
def cv (base b : Nat) : Value → Value
  | .ref i => .ref (ca base b i)
  | v => v
def toR (base b : Nat) : Value → Option Nat
  | .ref i => some (ca base b i)
  | _ => none
/-- what an array of references answers -/
def rfv : Value → Value
  | .ref i => .ref i
  | _ => .null
def ce (base b : Nat) (cT : Nat → ClassId) (kt : Nat × Nat) (f : Nat → Value) : va_E :=
  if kt.1 < 6 then .inr (kt.1, (List.range kt.2).map fun k => cv base b (f k))
  else if kt.1 = 6 then .inl (cT 0, (kt.2, .inl (fun k => toI (f k))))
  else .inl (cT (kt.1 - 6), (kt.2, .inr (.inr (.inr (.inr (fun k => toR base b (f k)))))))
def cw (base b : Nat) (cT : Nat → ClassId) (hp : AH) : va_W := (List.range (hsz hp)).map fun i => (base + i, ce base b cT (hk hp (i + 1)) (hv hp (i + 1)))
abbrev tysL (cT : Nat → ClassId) : List (ClassId × FieldType) := [(cT 0, .int), (cT 1, .object RX0), (cT 2, .object RX1), (cT 3, .object RX3), (cT 4, .object RX4)]
theorem cv_cat (base b : Nat) (v : Value) : (cv base b v).category = v.category := by cases v <;> rfl
theorem cw_get {base b : Nat} {cT : Nat → ClassId} {hp : AH} {i : Nat} (h : i < hsz hp) : (cw base b cT hp)[i]? = some (base + i, ce base b cT (hk hp (i + 1)) (hv hp (i + 1))) := by
  simp [cw, h]
theorem cw_len (base b : Nat) (cT : Nat → ClassId) (hp : AH) : (cw base b cT hp).length = hsz hp := by simp [cw]
theorem cw_D (base b : Nat) (cT : Nat → ClassId) (hp : AH) : va_D (fun q => base ≤ q) (cw base b cT hp) := by
  have key : ∀ (k : Nat) (q : Nat × va_E), (cw base b cT hp)[k]? = some q → q.1 = base + k := by
    intro k q h
    simp only [cw, List.getElem?_map, Option.map_eq_some_iff] at h
    obtain ⟨a, h1, rfl⟩ := h
    obtain ⟨h2, h3⟩ := List.getElem?_eq_some_iff.mp h1
    rw [List.getElem_range] at h3
    subst h3
    rfl
  refine ⟨fun i j p q h1 h2 h3 => ?_, fun k q h => ?_⟩
  · have a := key i p h1
    have b := key j q h2
    omega
  · have a := key k q h
    show base ≤ q.1
    omega
theorem cw_upd {base b : Nat} {cT : Nat → ClassId} {hp hp' : AH} {i : Nat} {e : va_E} (hs : hsz hp' = hsz hp) (hi : i < hsz hp) (he : ce base b cT (hk hp' (i + 1)) (hv hp' (i + 1)) = e) (ho : ∀ j, j ≠ i + 1 → hk hp' j = hk hp j ∧ hv hp' j = hv hp j) :
    (cw base b cT hp).set i (base + i, e) = cw base b cT hp' := by
  apply List.ext_getElem?
  intro k
  by_cases hk' : k < hsz hp
  · by_cases hki : k = i
    · subst hki
      rw [List.getElem?_set_self (by rw [cw_len]; exact hk'), cw_get (by rw [hs]; exact hk'), he]
    · rw [List.getElem?_set_ne (fun q => hki q.symm), cw_get hk', cw_get (by rw [hs]; exact hk'), (ho (k + 1) (by omega)).1, (ho (k + 1) (by omega)).2]
  · rw [List.getElem?_eq_none (by rw [List.length_set, cw_len]; omega), List.getElem?_eq_none (by rw [cw_len]; omega)]
theorem cw_new {base b : Nat} {cT : Nat → ClassId} {hp : AH} {t n : Nat} {z : Nat → Value} {e : va_E} (he : ce base b cT (t, n) z = e) : cw base b cT hp ++ [(base + hsz hp, e)] = cw base b cT (hnew hp t n z) := by
  apply List.ext_getElem?
  intro k
  rcases Nat.lt_trichotomy k (hsz hp) with h | h | h
  · rw [List.getElem?_append_left (by rw [cw_len]; exact h), cw_get h, cw_get (by show k < hp.1 + 1; have : k < hp.1 := h; omega)]
    have h1 : ¬ k + 1 = hp.1 + 1 := by have : k < hp.1 := h; omega
    show _ = some (base + k, ce base b cT (if k + 1 = hp.1 + 1 then (t, n) else hp.2.2.1 (k + 1)) (fun l => if k + 1 = hp.1 + 1 then z l else hp.2.2.2 (k + 1) l))
    simp only [if_neg h1]
  · subst h
    rw [List.getElem?_append_right (by rw [cw_len]; exact Nat.le_refl _), cw_len, Nat.sub_self, cw_get (by show hp.1 < hp.1 + 1; omega)]
    show some (base + hp.1, e) = some (base + hp.1, ce base b cT (if hp.1 + 1 = hp.1 + 1 then (t, n) else hp.2.2.1 (hp.1 + 1)) (fun l => if hp.1 + 1 = hp.1 + 1 then z l else hp.2.2.2 (hp.1 + 1) l))
    rw [← he]
    simp only [if_true]
  · rw [List.getElem?_eq_none (by rw [List.length_append, cw_len]; show hp.1 + 1 ≤ k; exact h), List.getElem?_eq_none (by rw [cw_len]; show hp.1 + 1 ≤ k; exact h)]
/-! locals: a value by its place, none where nothing is known -/
def lvl (base b : Nat) : Nat → LSt → List (Nat × Value)
  | _, [] => []
  | i, none :: t => lvl base b (i + 1) t
  | i, some v :: t => (i, cv base b v) :: lvl base b (i + 1) t
theorem lvl_mem {base b : Nat} : ∀ {ls : LSt} {i j : Nat} {w : Value}, (j, w) ∈ lvl base b i ls ↔ ∃ k v, ls[k]? = some (some v) ∧ j = i + k ∧ w = cv base b v
  | [], i, j, w => by simp [lvl]
  | o :: t, i, j, w => by
    have ih : ∀ {i}, (j, w) ∈ lvl base b i t ↔ ∃ k v, t[k]? = some (some v) ∧ j = i + k ∧ w = cv base b v := lvl_mem
    cases o with
    | none =>
      rw [lvl, ih]
      constructor
      · rintro ⟨k, v, h1, h2, h3⟩
        exact ⟨k + 1, v, by simpa using h1, by omega, h3⟩
      · rintro ⟨k, v, h1, h2, h3⟩
        cases k with
        | zero => simp at h1
        | succ k => exact ⟨k, v, by simpa using h1, by omega, h3⟩
    | some x =>
      rw [lvl, List.mem_cons, ih]
      constructor
      · rintro (h | ⟨k, v, h1, h2, h3⟩)
        · cases h
          exact ⟨0, x, rfl, rfl, rfl⟩
        · exact ⟨k + 1, v, by simpa using h1, by omega, h3⟩
      · rintro ⟨k, v, h1, h2, h3⟩
        cases k with
        | zero =>
          simp at h1
          subst h1
          left
          rw [h2, h3]; rfl
        | succ k => exact Or.inr ⟨k, v, by simpa using h1, by omega, h3⟩
def Lh (base b : Nat) (ls : LSt) (A : Array Slot) : Prop := lv_has A ls.length (lvl base b 0 ls)
theorem Lh.get {base b : Nat} {ls : LSt} {A : Array Slot} (h : Lh base b ls A) {i : Nat} {v : Value} (hi : ls[i]? = some (some v)) : A[i]? = some (.val (cv base b v)) :=
  h.2.2 (i, cv base b v) (lvl_mem.mpr ⟨i, v, hi, by omega, rfl⟩)
/-- storing a value of one word -/
def ls1 : LSt → Nat → Value → LSt
  | [], _, _ => []
  | _ :: t, 0, v => some v :: t
  | o :: t, 1, v => (match o with | some w => if w.category = 2 then none else some w | none => none) :: ls1 t 0 v
  | o :: t, i + 2, v => o :: ls1 t (i + 1) v
/-- storing a value of two words -/
def ls2t : LSt → LSt
  | [] => []
  | _ :: t => none :: t
def ls2 : LSt → Nat → Value → LSt
  | [], _, _ => []
  | _ :: t, 0, v => some v :: ls2t t
  | o :: t, 1, v => (match o with | some w => if w.category = 2 then none else some w | none => none) :: ls2 t 0 v
  | o :: t, i + 2, v => o :: ls2 t (i + 1) v
theorem ls1_len : ∀ (ls : LSt) (i : Nat) (v : Value), (ls1 ls i v).length = ls.length
  | [], _, _ => by simp [ls1]
  | _ :: t, 0, v => by simp [ls1]
  | o :: t, 1, v => by simp [ls1, ls1_len t 0 v]
  | o :: t, i + 2, v => by simp [ls1, ls1_len t (i + 1) v]
theorem ls2_len : ∀ (ls : LSt) (i : Nat) (v : Value), (ls2 ls i v).length = ls.length
  | [], _, _ => by simp [ls2]
  | _ :: t, 0, v => by cases t <;> simp [ls2, ls2t]
  | o :: t, 1, v => by simp [ls2, ls2_len t 0 v]
  | o :: t, i + 2, v => by simp [ls2, ls2_len t (i + 1) v]
theorem ls1_get : ∀ {ls : LSt} {i : Nat} {v : Value} {j : Nat} {w : Value}, (ls1 ls i v)[j]? = some (some w) → (j = i ∧ w = v) ∨ (j ≠ i ∧ ls[j]? = some (some w) ∧ ¬ (j + 1 = i ∧ w.category = 2))
  | [], _, _, j, w, h => by simp [ls1] at h
  | _ :: t, 0, v, 0, w, h => by simp [ls1] at h; exact Or.inl ⟨rfl, h.symm⟩
  | _ :: t, 0, v, j + 1, w, h => by simp [ls1] at h; exact Or.inr ⟨by omega, by simpa using h, by omega⟩
  | o :: t, 1, v, 0, w, h => by
    cases o with
    | none => simp [ls1] at h
    | some x =>
      simp only [ls1, List.getElem?_cons_zero, Option.some.injEq] at h
      by_cases hc : x.category = 2
      · rw [if_pos hc] at h; cases h
      · rw [if_neg hc] at h
        cases h
        exact Or.inr ⟨by omega, rfl, fun q => hc q.2⟩
  | o :: t, 1, v, j + 1, w, h => by
    have h1 : (ls1 t 0 v)[j]? = some (some w) := by simpa [ls1] using h
    rcases ls1_get h1 with ⟨a, b⟩ | ⟨a, b, c⟩
    · exact Or.inl ⟨by omega, b⟩
    · exact Or.inr ⟨by omega, by simpa using b, fun q => by omega⟩
  | o :: t, i + 2, v, 0, w, h => by
    simp [ls1] at h
    exact Or.inr ⟨by omega, by simp [h], fun q => by omega⟩
  | o :: t, i + 2, v, j + 1, w, h => by
    have h1 : (ls1 t (i + 1) v)[j]? = some (some w) := by simpa [ls1] using h
    rcases ls1_get h1 with ⟨a, b⟩ | ⟨a, b, c⟩
    · exact Or.inl ⟨by omega, b⟩
    · exact Or.inr ⟨by omega, by simpa using b, fun q => c ⟨by omega, q.2⟩⟩
theorem ls2_get : ∀ {ls : LSt} {i : Nat} {v : Value} {j : Nat} {w : Value}, (ls2 ls i v)[j]? = some (some w) → (j = i ∧ w = v) ∨ (j ≠ i ∧ j ≠ i + 1 ∧ ls[j]? = some (some w) ∧ ¬ (j + 1 = i ∧ w.category = 2))
  | [], _, _, j, w, h => by simp [ls2] at h
  | _ :: t, 0, v, 0, w, h => by simp [ls2] at h; exact Or.inl ⟨rfl, h.symm⟩
  | _ :: [], 0, v, j + 1, w, h => by simp [ls2, ls2t] at h
  | _ :: _ :: t, 0, v, 1, w, h => by simp [ls2, ls2t] at h
  | _ :: _ :: t, 0, v, j + 2, w, h => by simp [ls2, ls2t] at h; exact Or.inr ⟨by omega, by omega, by simpa using h, by omega⟩
  | o :: t, 1, v, 0, w, h => by
    cases o with
    | none => simp [ls2] at h
    | some x =>
      simp only [ls2, List.getElem?_cons_zero, Option.some.injEq] at h
      by_cases hc : x.category = 2
      · rw [if_pos hc] at h; cases h
      · rw [if_neg hc] at h
        cases h
        exact Or.inr ⟨by omega, by omega, rfl, fun q => hc q.2⟩
  | o :: t, 1, v, j + 1, w, h => by
    have h1 : (ls2 t 0 v)[j]? = some (some w) := by simpa [ls2] using h
    rcases ls2_get h1 with ⟨a, b⟩ | ⟨a, a2, b, c⟩
    · exact Or.inl ⟨by omega, b⟩
    · exact Or.inr ⟨by omega, by omega, by simpa using b, fun q => by omega⟩
  | o :: t, i + 2, v, 0, w, h => by
    simp [ls2] at h
    exact Or.inr ⟨by omega, by omega, by simp [h], fun q => by omega⟩
  | o :: t, i + 2, v, j + 1, w, h => by
    have h1 : (ls2 t (i + 1) v)[j]? = some (some w) := by simpa [ls2] using h
    rcases ls2_get h1 with ⟨a, b⟩ | ⟨a, a2, b, c⟩
    · exact Or.inl ⟨by omega, b⟩
    · exact Or.inr ⟨by omega, by omega, by simpa using b, fun q => c ⟨by omega, q.2⟩⟩
theorem Lh.st1 {base b : Nat} {ls : LSt} {A' : Array Slot} {i : Nat} {v : Value} (h : lv_has A' ls.length ((i, cv base b v) :: (lvl base b 0 ls).filter (fun q => !(q.1 == i) && !(q.1 + 1 == i && q.2.category == 2)))) : Lh base b (ls1 ls i v) A' := by
  refine ⟨by rw [ls1_len]; exact h.1, h.2.1, fun q hq => ?_⟩
  obtain ⟨j, w⟩ := q
  obtain ⟨k, x, h1, h2, h3⟩ := lvl_mem.mp hq
  rw [Nat.zero_add] at h2
  subst h2
  rcases ls1_get h1 with ⟨a, c⟩ | ⟨a, c, e⟩
  · subst a; subst c
    rw [h3]
    exact h.2.2 _ List.mem_cons_self
  · refine h.2.2 (j, w) (List.mem_cons_of_mem _ (List.mem_filter.mpr ⟨lvl_mem.mpr ⟨j, x, c, by omega, h3⟩, ?_⟩))
    have hcat : w.category = x.category := by rw [h3, cv_cat]
    simp only [Bool.and_eq_true, Bool.not_eq_true', beq_eq_false_iff_ne, ne_eq, Bool.and_eq_false_iff]
    refine ⟨a, ?_⟩
    by_cases z : j + 1 = i
    · exact Or.inr (fun y => e ⟨z, by rw [← hcat]; exact y⟩)
    · exact Or.inl z
theorem Lh.st2 {base b : Nat} {ls : LSt} {A' : Array Slot} {i : Nat} {v : Value} (h : lv_has A' ls.length ((i, cv base b v) :: (lvl base b 0 ls).filter (fun q => !(q.1 == i) && (!(q.1 == i + 1) && !(q.1 + 1 == i && q.2.category == 2))))) : Lh base b (ls2 ls i v) A' := by
  refine ⟨by rw [ls2_len]; exact h.1, h.2.1, fun q hq => ?_⟩
  obtain ⟨j, w⟩ := q
  obtain ⟨k, x, h1, h2, h3⟩ := lvl_mem.mp hq
  rw [Nat.zero_add] at h2
  subst h2
  rcases ls2_get h1 with ⟨a, c⟩ | ⟨a, a2, c, e⟩
  · subst a; subst c
    rw [h3]
    exact h.2.2 _ List.mem_cons_self
  · refine h.2.2 (j, w) (List.mem_cons_of_mem _ (List.mem_filter.mpr ⟨lvl_mem.mpr ⟨j, x, c, by omega, h3⟩, ?_⟩))
    have hcat : w.category = x.category := by rw [h3, cv_cat]
    simp only [Bool.and_eq_true, Bool.not_eq_true', beq_eq_false_iff_ne, ne_eq, Bool.and_eq_false_iff]
    refine ⟨a, a2, ?_⟩
    by_cases z : j + 1 = i
    · exact Or.inr (fun y => e ⟨z, by rw [← hcat]; exact y⟩)
    · exact Or.inl z
