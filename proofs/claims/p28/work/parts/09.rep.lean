/-! ===== the state: what the heap holds, in numbers. Two nets (0: net, 1: trial), at the places where the constructor puts them ===== -/
/-- where a row of numbers lies. 0: a Net; 1: a Client (a); 2: a Held (a, b); 3: order (a); 4: a Shelf (a); 5: until (a) -/
def xi (g n a b : Nat) : Nat := match g with
  | 0 => 2 + 138 * n
  | 1 => 6 + 138 * n + 17 * a
  | 2 => 11 + 138 * n + 17 * a + b
  | 3 => 8 + 138 * n + 17 * a
  | 4 => 74 + 138 * n + 4 * a
  | _ => 75 + 138 * n + 4 * a
/-- where a table lies. 0: kept (a); 1: requests (a); 2: a slot (a) -/
def xt (y n a : Nat) : Nat := match y with
  | 0 => 9 + 138 * n + 17 * a
  | 1 => 76 + 138 * n + 4 * a
  | _ => 122 + 138 * n + 2 * a
def tw (y : Nat) : Nat := match y with
  | 0 => 2
  | 1 => 4
  | _ => 8
def vs (g n a b k : Nat) : Prop := n < 2 ∧ match g with
  | 0 => a = 0 ∧ b = 0 ∧ k < 5
  | 1 => a < 4 ∧ b = 0 ∧ (k = 2 ∨ (4 ≤ k ∧ k < 12))
  | 2 => a < 4 ∧ b < 12 ∧ k < 8
  | 3 => a < 4 ∧ b = 0 ∧ k < 12
  | 4 => a < 12 ∧ b = 0 ∧ (k < 2 ∨ k = 4)
  | 5 => a < 12 ∧ b = 0 ∧ k < 4
  | _ => False
def vt (y n a : Nat) : Prop := n < 2 ∧ match y with
  | 0 => a < 4
  | 1 => a < 12
  | 2 => a < 9
  | _ => False
abbrev rC (n : Nat) : Nat := 3 + 138 * n
abbrev rS (n : Nat) : Nat := 4 + 138 * n
abbrev rT (n : Nat) : Nat := 5 + 138 * n
abbrev rF (n c : Nat) : Nat := 7 + 138 * n + 17 * c
abbrev Row : Type := Nat → Int32
/-- cells made, slots in them, the numbers, the tables (rows, room for rows), arrays of the caller's own -/
abbrev MS : Type := Nat × Nat × (Nat → Nat → Nat → Nat → Nat → Int32) × (Nat → Nat → Nat → List Row × Nat) × (Nat → Option (Nat × (Nat → Int32)))
abbrev mz (M : MS) : Nat := M.1
abbrev mt (M : MS) : Nat := M.2.1
abbrev gV (M : MS) (g n a b k : Nat) : Int32 := M.2.2.1 g n a b k
abbrev gT (M : MS) (y n a : Nat) : List Row := (M.2.2.2.1 y n a).1
abbrev gP (M : MS) (y n a : Nat) : Nat := (M.2.2.2.1 y n a).2
abbrev gX (M : MS) (i : Nat) : Option (Nat × (Nat → Int32)) := M.2.2.2.2 i
def sV (M : MS) (g n a b k : Nat) (v : Int32) : MS := (M.1, M.2.1, (fun g' n' a' b' k' => if g' = g ∧ n' = n ∧ a' = a ∧ b' = b ∧ k' = k then v else M.2.2.1 g' n' a' b' k'), M.2.2.2.1, M.2.2.2.2)
def sT (M : MS) (y n a : Nat) (r : List Row) : MS := (M.1, M.2.1, M.2.2.1, (fun y' n' a' => if y' = y ∧ n' = n ∧ a' = a then (r, (M.2.2.2.1 y n a).2) else M.2.2.2.1 y' n' a'), M.2.2.2.2)
/-- the class of a row of numbers, its fields -/
def ck (g : Nat) : Nat := match g with
  | 0 => 2
  | 1 => 0
  | 2 => 1
  | _ => 3
def nk (g : Nat) : Nat := match g with
  | 0 => 8
  | 1 => 12
  | 2 => 8
  | _ => 5
/-- a number that may stand there (a boolean is 0 or 1) -/
def okg (g k : Nat) (v : Int32) : Prop := g = 3 ∨ g = 5 ∨ okf (ck g) k (.int v)
def aix (hp : AH) (i : Nat) : Nat := match hv hp i 1 with
  | .ref a => a
  | _ => 0
def ShO (hp : AH) : Prop := hk hp 1 = (5, 2) ∧ hv hp 1 0 = .ref 2 ∧ hv hp 1 1 = .ref 140
def ShN (hp : AH) (n : Nat) : Prop := hk hp (xi 0 n 0 0) = (2, 8) ∧ hv hp (xi 0 n 0 0) 5 = .ref (rC n) ∧ hv hp (xi 0 n 0 0) 6 = .ref (rS n) ∧ hv hp (xi 0 n 0 0) 7 = .ref (rT n) ∧ hk hp (rC n) = (7, 4) ∧ hk hp (rS n) = (9, 12) ∧ hk hp (rT n) = (10, 9)
def ShC (hp : AH) (n c : Nat) : Prop := hv hp (rC n) c = .ref (xi 1 n c 0) ∧ hk hp (xi 1 n c 0) = (0, 12) ∧ hv hp (xi 1 n c 0) 0 = .ref (rF n c) ∧ hv hp (xi 1 n c 0) 1 = .ref (xi 3 n c 0) ∧ hv hp (xi 1 n c 0) 3 = .ref (xt 0 n c) ∧ hk hp (rF n c) = (8, 12) ∧ hk hp (xi 3 n c 0) = (6, 12)
def ShH (hp : AH) (n c f : Nat) : Prop := hv hp (rF n c) f = .ref (xi 2 n c f) ∧ hk hp (xi 2 n c f) = (1, 8)
def ShS (hp : AH) (n f : Nat) : Prop := hv hp (rS n) f = .ref (xi 4 n f 0) ∧ hk hp (xi 4 n f 0) = (3, 5) ∧ hv hp (xi 4 n f 0) 2 = .ref (xi 5 n f 0) ∧ hv hp (xi 4 n f 0) 3 = .ref (xt 1 n f) ∧ hk hp (xi 5 n f 0) = (6, 4)
/-- a table as the heap holds it: its array (where it was made, or later), all ints, the rows as listed -/
def TabAt (hp : AH) (i w : Nat) (r : List Row) (cap : Nat) : Prop := hk hp i = (4, 3) ∧ hv hp i 0 = .int (nI w) ∧ hv hp i 2 = .int (nI r.length) ∧ hv hp i 1 = .ref (aix hp i) ∧ (aix hp i = i + 1 ∨ 278 ≤ aix hp i) ∧ aix hp i ≤ hsz hp ∧ hk hp (aix hp i) = (6, w * cap) ∧ r.length ≤ cap ∧ cap ≤ 140000 ∧ (∀ j, j < w * cap → ∃ x, hv hp (aix hp i) j = .int x) ∧ ∀ (k : Nat) (q : Row), r[k]? = some q → ∀ c, c < w → hv hp (aix hp i) (k * w + c) = .int (q c)
def Rep (hp : AH) (M : MS) : Prop :=
  277 ≤ hsz hp ∧ hsz hp = mz M ∧ htot hp = mt M ∧ ShO hp ∧ (∀ n, n < 2 → ShN hp n) ∧ (∀ n c, n < 2 → c < 4 → ShC hp n c) ∧ (∀ n c f, n < 2 → c < 4 → f < 12 → ShH hp n c f) ∧ (∀ n f, n < 2 → f < 12 → ShS hp n f) ∧ (∀ n k, n < 2 → k < 9 → hv hp (rT n) k = .ref (xt 2 n k)) ∧
  (∀ g n a b k, vs g n a b k → hv hp (xi g n a b) k = .int (gV M g n a b k) ∧ okg g k (gV M g n a b k)) ∧
  (∀ y n a, vt y n a → TabAt hp (xt y n a) (tw y) (gT M y n a) (gP M y n a)) ∧
  (∀ y n a y' n' a', vt y n a → vt y' n' a' → aix hp (xt y n a) = aix hp (xt y' n' a') → y = y' ∧ n = n' ∧ a = a') ∧
  (∀ i l f, gX M i = some (l, f) → 278 ≤ i ∧ i ≤ hsz hp ∧ hk hp i = (6, l) ∧ (∀ k, k < l → hv hp i k = .int (f k)) ∧ ∀ y n a, vt y n a → aix hp (xt y n a) ≠ i)
theorem xi_le {g n a b k : Nat} (h : vs g n a b k) : 1 ≤ xi g n a b ∧ xi g n a b ≤ 277 := by
  obtain ⟨h1, h2⟩ := h
  match g, h2 with
  | 0, h2 => have h2 : a = 0 ∧ b = 0 ∧ k < 5 := h2; simp only [xi]; omega
  | 1, h2 => have h2 : a < 4 ∧ b = 0 ∧ (k = 2 ∨ (4 ≤ k ∧ k < 12)) := h2; simp only [xi]; omega
  | 2, h2 => have h2 : a < 4 ∧ b < 12 ∧ k < 8 := h2; simp only [xi]; omega
  | 3, h2 => have h2 : a < 4 ∧ b = 0 ∧ k < 12 := h2; simp only [xi]; omega
  | 4, h2 => have h2 : a < 12 ∧ b = 0 ∧ (k < 2 ∨ k = 4) := h2; simp only [xi]; omega
  | 5, h2 => have h2 : a < 12 ∧ b = 0 ∧ k < 4 := h2; simp only [xi]; omega
  | n + 6, h2 => exact h2.elim
theorem xt_le {y n a : Nat} (h : vt y n a) : 1 ≤ xt y n a ∧ xt y n a + 1 ≤ 277 := by
  obtain ⟨h1, h2⟩ := h
  match y, h2 with
  | 0, h2 => have h2 : a < 4 := h2; simp only [xt]; omega
  | 1, h2 => have h2 : a < 12 := h2; simp only [xt]; omega
  | 2, h2 => have h2 : a < 9 := h2; simp only [xt]; omega
  | n + 3, h2 => exact h2.elim
/-- the rows of numbers lie apart -/
theorem xi_inj {g n a b k g' n' a' b' k' : Nat} (h : vs g n a b k) (h' : vs g' n' a' b' k') (e : xi g n a b = xi g' n' a' b') : g = g' ∧ n = n' ∧ a = a' ∧ b = b' := by
  obtain ⟨h1, h2⟩ := h
  obtain ⟨h3, h4⟩ := h'
  match g, g', h2, h4 with
  | 0, 0, h2, h4 => have h2 : a = 0 ∧ b = 0 ∧ k < 5 := h2; have h4 : a' = 0 ∧ b' = 0 ∧ k' < 5 := h4; simp only [xi] at e; rcases (show n = 0 ∨ n = 1 by omega) with rfl | rfl <;> rcases (show n' = 0 ∨ n' = 1 by omega) with rfl | rfl <;> omega
  | 0, 1, h2, h4 => have h2 : a = 0 ∧ b = 0 ∧ k < 5 := h2; have h4 : a' < 4 ∧ b' = 0 ∧ (k' = 2 ∨ (4 ≤ k' ∧ k' < 12)) := h4; simp only [xi] at e; rcases (show n = 0 ∨ n = 1 by omega) with rfl | rfl <;> rcases (show n' = 0 ∨ n' = 1 by omega) with rfl | rfl <;> omega
  | 0, 2, h2, h4 => have h2 : a = 0 ∧ b = 0 ∧ k < 5 := h2; have h4 : a' < 4 ∧ b' < 12 ∧ k' < 8 := h4; simp only [xi] at e; rcases (show n = 0 ∨ n = 1 by omega) with rfl | rfl <;> rcases (show n' = 0 ∨ n' = 1 by omega) with rfl | rfl <;> omega
  | 0, 3, h2, h4 => have h2 : a = 0 ∧ b = 0 ∧ k < 5 := h2; have h4 : a' < 4 ∧ b' = 0 ∧ k' < 12 := h4; simp only [xi] at e; rcases (show n = 0 ∨ n = 1 by omega) with rfl | rfl <;> rcases (show n' = 0 ∨ n' = 1 by omega) with rfl | rfl <;> omega
  | 0, 4, h2, h4 => have h2 : a = 0 ∧ b = 0 ∧ k < 5 := h2; have h4 : a' < 12 ∧ b' = 0 ∧ (k' < 2 ∨ k' = 4) := h4; simp only [xi] at e; rcases (show n = 0 ∨ n = 1 by omega) with rfl | rfl <;> rcases (show n' = 0 ∨ n' = 1 by omega) with rfl | rfl <;> omega
  | 0, 5, h2, h4 => have h2 : a = 0 ∧ b = 0 ∧ k < 5 := h2; have h4 : a' < 12 ∧ b' = 0 ∧ k' < 4 := h4; simp only [xi] at e; rcases (show n = 0 ∨ n = 1 by omega) with rfl | rfl <;> rcases (show n' = 0 ∨ n' = 1 by omega) with rfl | rfl <;> omega
  | 1, 0, h2, h4 => have h2 : a < 4 ∧ b = 0 ∧ (k = 2 ∨ (4 ≤ k ∧ k < 12)) := h2; have h4 : a' = 0 ∧ b' = 0 ∧ k' < 5 := h4; simp only [xi] at e; rcases (show n = 0 ∨ n = 1 by omega) with rfl | rfl <;> rcases (show n' = 0 ∨ n' = 1 by omega) with rfl | rfl <;> omega
  | 1, 1, h2, h4 => have h2 : a < 4 ∧ b = 0 ∧ (k = 2 ∨ (4 ≤ k ∧ k < 12)) := h2; have h4 : a' < 4 ∧ b' = 0 ∧ (k' = 2 ∨ (4 ≤ k' ∧ k' < 12)) := h4; simp only [xi] at e; rcases (show n = 0 ∨ n = 1 by omega) with rfl | rfl <;> rcases (show n' = 0 ∨ n' = 1 by omega) with rfl | rfl <;> omega
  | 1, 2, h2, h4 => have h2 : a < 4 ∧ b = 0 ∧ (k = 2 ∨ (4 ≤ k ∧ k < 12)) := h2; have h4 : a' < 4 ∧ b' < 12 ∧ k' < 8 := h4; simp only [xi] at e; rcases (show n = 0 ∨ n = 1 by omega) with rfl | rfl <;> rcases (show n' = 0 ∨ n' = 1 by omega) with rfl | rfl <;> omega
  | 1, 3, h2, h4 => have h2 : a < 4 ∧ b = 0 ∧ (k = 2 ∨ (4 ≤ k ∧ k < 12)) := h2; have h4 : a' < 4 ∧ b' = 0 ∧ k' < 12 := h4; simp only [xi] at e; rcases (show n = 0 ∨ n = 1 by omega) with rfl | rfl <;> rcases (show n' = 0 ∨ n' = 1 by omega) with rfl | rfl <;> omega
  | 1, 4, h2, h4 => have h2 : a < 4 ∧ b = 0 ∧ (k = 2 ∨ (4 ≤ k ∧ k < 12)) := h2; have h4 : a' < 12 ∧ b' = 0 ∧ (k' < 2 ∨ k' = 4) := h4; simp only [xi] at e; rcases (show n = 0 ∨ n = 1 by omega) with rfl | rfl <;> rcases (show n' = 0 ∨ n' = 1 by omega) with rfl | rfl <;> omega
  | 1, 5, h2, h4 => have h2 : a < 4 ∧ b = 0 ∧ (k = 2 ∨ (4 ≤ k ∧ k < 12)) := h2; have h4 : a' < 12 ∧ b' = 0 ∧ k' < 4 := h4; simp only [xi] at e; rcases (show n = 0 ∨ n = 1 by omega) with rfl | rfl <;> rcases (show n' = 0 ∨ n' = 1 by omega) with rfl | rfl <;> omega
  | 2, 0, h2, h4 => have h2 : a < 4 ∧ b < 12 ∧ k < 8 := h2; have h4 : a' = 0 ∧ b' = 0 ∧ k' < 5 := h4; simp only [xi] at e; rcases (show n = 0 ∨ n = 1 by omega) with rfl | rfl <;> rcases (show n' = 0 ∨ n' = 1 by omega) with rfl | rfl <;> omega
  | 2, 1, h2, h4 => have h2 : a < 4 ∧ b < 12 ∧ k < 8 := h2; have h4 : a' < 4 ∧ b' = 0 ∧ (k' = 2 ∨ (4 ≤ k' ∧ k' < 12)) := h4; simp only [xi] at e; rcases (show n = 0 ∨ n = 1 by omega) with rfl | rfl <;> rcases (show n' = 0 ∨ n' = 1 by omega) with rfl | rfl <;> omega
  | 2, 2, h2, h4 => have h2 : a < 4 ∧ b < 12 ∧ k < 8 := h2; have h4 : a' < 4 ∧ b' < 12 ∧ k' < 8 := h4; simp only [xi] at e; rcases (show n = 0 ∨ n = 1 by omega) with rfl | rfl <;> rcases (show n' = 0 ∨ n' = 1 by omega) with rfl | rfl <;> omega
  | 2, 3, h2, h4 => have h2 : a < 4 ∧ b < 12 ∧ k < 8 := h2; have h4 : a' < 4 ∧ b' = 0 ∧ k' < 12 := h4; simp only [xi] at e; rcases (show n = 0 ∨ n = 1 by omega) with rfl | rfl <;> rcases (show n' = 0 ∨ n' = 1 by omega) with rfl | rfl <;> omega
  | 2, 4, h2, h4 => have h2 : a < 4 ∧ b < 12 ∧ k < 8 := h2; have h4 : a' < 12 ∧ b' = 0 ∧ (k' < 2 ∨ k' = 4) := h4; simp only [xi] at e; rcases (show n = 0 ∨ n = 1 by omega) with rfl | rfl <;> rcases (show n' = 0 ∨ n' = 1 by omega) with rfl | rfl <;> omega
  | 2, 5, h2, h4 => have h2 : a < 4 ∧ b < 12 ∧ k < 8 := h2; have h4 : a' < 12 ∧ b' = 0 ∧ k' < 4 := h4; simp only [xi] at e; rcases (show n = 0 ∨ n = 1 by omega) with rfl | rfl <;> rcases (show n' = 0 ∨ n' = 1 by omega) with rfl | rfl <;> omega
  | 3, 0, h2, h4 => have h2 : a < 4 ∧ b = 0 ∧ k < 12 := h2; have h4 : a' = 0 ∧ b' = 0 ∧ k' < 5 := h4; simp only [xi] at e; rcases (show n = 0 ∨ n = 1 by omega) with rfl | rfl <;> rcases (show n' = 0 ∨ n' = 1 by omega) with rfl | rfl <;> omega
  | 3, 1, h2, h4 => have h2 : a < 4 ∧ b = 0 ∧ k < 12 := h2; have h4 : a' < 4 ∧ b' = 0 ∧ (k' = 2 ∨ (4 ≤ k' ∧ k' < 12)) := h4; simp only [xi] at e; rcases (show n = 0 ∨ n = 1 by omega) with rfl | rfl <;> rcases (show n' = 0 ∨ n' = 1 by omega) with rfl | rfl <;> omega
  | 3, 2, h2, h4 => have h2 : a < 4 ∧ b = 0 ∧ k < 12 := h2; have h4 : a' < 4 ∧ b' < 12 ∧ k' < 8 := h4; simp only [xi] at e; rcases (show n = 0 ∨ n = 1 by omega) with rfl | rfl <;> rcases (show n' = 0 ∨ n' = 1 by omega) with rfl | rfl <;> omega
  | 3, 3, h2, h4 => have h2 : a < 4 ∧ b = 0 ∧ k < 12 := h2; have h4 : a' < 4 ∧ b' = 0 ∧ k' < 12 := h4; simp only [xi] at e; rcases (show n = 0 ∨ n = 1 by omega) with rfl | rfl <;> rcases (show n' = 0 ∨ n' = 1 by omega) with rfl | rfl <;> omega
  | 3, 4, h2, h4 => have h2 : a < 4 ∧ b = 0 ∧ k < 12 := h2; have h4 : a' < 12 ∧ b' = 0 ∧ (k' < 2 ∨ k' = 4) := h4; simp only [xi] at e; rcases (show n = 0 ∨ n = 1 by omega) with rfl | rfl <;> rcases (show n' = 0 ∨ n' = 1 by omega) with rfl | rfl <;> omega
  | 3, 5, h2, h4 => have h2 : a < 4 ∧ b = 0 ∧ k < 12 := h2; have h4 : a' < 12 ∧ b' = 0 ∧ k' < 4 := h4; simp only [xi] at e; rcases (show n = 0 ∨ n = 1 by omega) with rfl | rfl <;> rcases (show n' = 0 ∨ n' = 1 by omega) with rfl | rfl <;> omega
  | 4, 0, h2, h4 => have h2 : a < 12 ∧ b = 0 ∧ (k < 2 ∨ k = 4) := h2; have h4 : a' = 0 ∧ b' = 0 ∧ k' < 5 := h4; simp only [xi] at e; rcases (show n = 0 ∨ n = 1 by omega) with rfl | rfl <;> rcases (show n' = 0 ∨ n' = 1 by omega) with rfl | rfl <;> omega
  | 4, 1, h2, h4 => have h2 : a < 12 ∧ b = 0 ∧ (k < 2 ∨ k = 4) := h2; have h4 : a' < 4 ∧ b' = 0 ∧ (k' = 2 ∨ (4 ≤ k' ∧ k' < 12)) := h4; simp only [xi] at e; rcases (show n = 0 ∨ n = 1 by omega) with rfl | rfl <;> rcases (show n' = 0 ∨ n' = 1 by omega) with rfl | rfl <;> omega
  | 4, 2, h2, h4 => have h2 : a < 12 ∧ b = 0 ∧ (k < 2 ∨ k = 4) := h2; have h4 : a' < 4 ∧ b' < 12 ∧ k' < 8 := h4; simp only [xi] at e; rcases (show n = 0 ∨ n = 1 by omega) with rfl | rfl <;> rcases (show n' = 0 ∨ n' = 1 by omega) with rfl | rfl <;> omega
  | 4, 3, h2, h4 => have h2 : a < 12 ∧ b = 0 ∧ (k < 2 ∨ k = 4) := h2; have h4 : a' < 4 ∧ b' = 0 ∧ k' < 12 := h4; simp only [xi] at e; rcases (show n = 0 ∨ n = 1 by omega) with rfl | rfl <;> rcases (show n' = 0 ∨ n' = 1 by omega) with rfl | rfl <;> omega
  | 4, 4, h2, h4 => have h2 : a < 12 ∧ b = 0 ∧ (k < 2 ∨ k = 4) := h2; have h4 : a' < 12 ∧ b' = 0 ∧ (k' < 2 ∨ k' = 4) := h4; simp only [xi] at e; rcases (show n = 0 ∨ n = 1 by omega) with rfl | rfl <;> rcases (show n' = 0 ∨ n' = 1 by omega) with rfl | rfl <;> omega
  | 4, 5, h2, h4 => have h2 : a < 12 ∧ b = 0 ∧ (k < 2 ∨ k = 4) := h2; have h4 : a' < 12 ∧ b' = 0 ∧ k' < 4 := h4; simp only [xi] at e; rcases (show n = 0 ∨ n = 1 by omega) with rfl | rfl <;> rcases (show n' = 0 ∨ n' = 1 by omega) with rfl | rfl <;> omega
  | 5, 0, h2, h4 => have h2 : a < 12 ∧ b = 0 ∧ k < 4 := h2; have h4 : a' = 0 ∧ b' = 0 ∧ k' < 5 := h4; simp only [xi] at e; rcases (show n = 0 ∨ n = 1 by omega) with rfl | rfl <;> rcases (show n' = 0 ∨ n' = 1 by omega) with rfl | rfl <;> omega
  | 5, 1, h2, h4 => have h2 : a < 12 ∧ b = 0 ∧ k < 4 := h2; have h4 : a' < 4 ∧ b' = 0 ∧ (k' = 2 ∨ (4 ≤ k' ∧ k' < 12)) := h4; simp only [xi] at e; rcases (show n = 0 ∨ n = 1 by omega) with rfl | rfl <;> rcases (show n' = 0 ∨ n' = 1 by omega) with rfl | rfl <;> omega
  | 5, 2, h2, h4 => have h2 : a < 12 ∧ b = 0 ∧ k < 4 := h2; have h4 : a' < 4 ∧ b' < 12 ∧ k' < 8 := h4; simp only [xi] at e; rcases (show n = 0 ∨ n = 1 by omega) with rfl | rfl <;> rcases (show n' = 0 ∨ n' = 1 by omega) with rfl | rfl <;> omega
  | 5, 3, h2, h4 => have h2 : a < 12 ∧ b = 0 ∧ k < 4 := h2; have h4 : a' < 4 ∧ b' = 0 ∧ k' < 12 := h4; simp only [xi] at e; rcases (show n = 0 ∨ n = 1 by omega) with rfl | rfl <;> rcases (show n' = 0 ∨ n' = 1 by omega) with rfl | rfl <;> omega
  | 5, 4, h2, h4 => have h2 : a < 12 ∧ b = 0 ∧ k < 4 := h2; have h4 : a' < 12 ∧ b' = 0 ∧ (k' < 2 ∨ k' = 4) := h4; simp only [xi] at e; rcases (show n = 0 ∨ n = 1 by omega) with rfl | rfl <;> rcases (show n' = 0 ∨ n' = 1 by omega) with rfl | rfl <;> omega
  | 5, 5, h2, h4 => have h2 : a < 12 ∧ b = 0 ∧ k < 4 := h2; have h4 : a' < 12 ∧ b' = 0 ∧ k' < 4 := h4; simp only [xi] at e; rcases (show n = 0 ∨ n = 1 by omega) with rfl | rfl <;> rcases (show n' = 0 ∨ n' = 1 by omega) with rfl | rfl <;> omega
  | n + 6, _, h2, _ => exact h2.elim
  | _, n + 6, _, h4 => exact h4.elim
/-- a place of numbers is no place of a reference, no table, no table's array -/
theorem xi_apart {g n a b k : Nat} (h : vs g n a b k) :
    (xi g n a b ≠ 1) ∧ (∀ n', n' < 2 → xi g n a b ≠ rC n' ∧ xi g n a b ≠ rS n' ∧ xi g n a b ≠ rT n' ∧ ¬ (xi g n a b = xi 0 n' 0 0 ∧ 5 ≤ k)) ∧
    (∀ n' c, n' < 2 → c < 4 → xi g n a b ≠ rF n' c ∧ ¬ (xi g n a b = xi 1 n' c 0 ∧ (k = 0 ∨ k = 1 ∨ k = 3))) ∧
    (∀ n' f, n' < 2 → f < 12 → ¬ (xi g n a b = xi 4 n' f 0 ∧ (k = 2 ∨ k = 3))) ∧
    (∀ y n' a', vt y n' a' → xi g n a b ≠ xt y n' a' ∧ xi g n a b ≠ xt y n' a' + 1) := by
  obtain ⟨h1, h2⟩ := h
  have ht : ∀ y n' a', vt y n' a' → ∀ P : Nat → Prop, (n' < 2 → a' < 4 → P (9 + 138 * n' + 17 * a')) → (n' < 2 → a' < 12 → P (76 + 138 * n' + 4 * a')) → (n' < 2 → a' < 9 → P (122 + 138 * n' + 2 * a')) → P (xt y n' a') := by
    intro y n' a' hv P p0 p1 p2
    obtain ⟨v1, v2⟩ := hv
    match y, v2 with
    | 0, v2 => exact p0 v1 v2
    | 1, v2 => exact p1 v1 v2
    | 2, v2 => exact p2 v1 v2
    | n + 3, v2 => exact v2.elim
  match g, h2 with
  | 0, h2 => have h2 : a = 0 ∧ b = 0 ∧ k < 5 := h2; simp only [xi, rC, rS, rT, rF]; exact ⟨by omega, fun n' hn => by rcases (show n = 0 ∨ n = 1 by omega) with rfl | rfl <;> rcases (show n' = 0 ∨ n' = 1 by omega) with rfl | rfl <;> omega, fun n' c hn hc => by rcases (show n = 0 ∨ n = 1 by omega) with rfl | rfl <;> rcases (show n' = 0 ∨ n' = 1 by omega) with rfl | rfl <;> omega, fun n' f hn hf => by rcases (show n = 0 ∨ n = 1 by omega) with rfl | rfl <;> rcases (show n' = 0 ∨ n' = 1 by omega) with rfl | rfl <;> omega, fun y n' a' hv => ht y n' a' hv (fun q => 2 + 138 * n ≠ q ∧ 2 + 138 * n ≠ q + 1) (fun hn ha => by rcases (show n = 0 ∨ n = 1 by omega) with rfl | rfl <;> rcases (show n' = 0 ∨ n' = 1 by omega) with rfl | rfl <;> omega) (fun hn ha => by rcases (show n = 0 ∨ n = 1 by omega) with rfl | rfl <;> rcases (show n' = 0 ∨ n' = 1 by omega) with rfl | rfl <;> omega) (fun hn ha => by rcases (show n = 0 ∨ n = 1 by omega) with rfl | rfl <;> rcases (show n' = 0 ∨ n' = 1 by omega) with rfl | rfl <;> omega)⟩
  | 1, h2 => have h2 : a < 4 ∧ b = 0 ∧ (k = 2 ∨ (4 ≤ k ∧ k < 12)) := h2; simp only [xi, rC, rS, rT, rF]; exact ⟨by omega, fun n' hn => by rcases (show n = 0 ∨ n = 1 by omega) with rfl | rfl <;> rcases (show n' = 0 ∨ n' = 1 by omega) with rfl | rfl <;> omega, fun n' c hn hc => by rcases (show n = 0 ∨ n = 1 by omega) with rfl | rfl <;> rcases (show n' = 0 ∨ n' = 1 by omega) with rfl | rfl <;> omega, fun n' f hn hf => by rcases (show n = 0 ∨ n = 1 by omega) with rfl | rfl <;> rcases (show n' = 0 ∨ n' = 1 by omega) with rfl | rfl <;> omega, fun y n' a' hv => ht y n' a' hv (fun q => 6 + 138 * n + 17 * a ≠ q ∧ 6 + 138 * n + 17 * a ≠ q + 1) (fun hn ha => by rcases (show n = 0 ∨ n = 1 by omega) with rfl | rfl <;> rcases (show n' = 0 ∨ n' = 1 by omega) with rfl | rfl <;> omega) (fun hn ha => by rcases (show n = 0 ∨ n = 1 by omega) with rfl | rfl <;> rcases (show n' = 0 ∨ n' = 1 by omega) with rfl | rfl <;> omega) (fun hn ha => by rcases (show n = 0 ∨ n = 1 by omega) with rfl | rfl <;> rcases (show n' = 0 ∨ n' = 1 by omega) with rfl | rfl <;> omega)⟩
  | 2, h2 => have h2 : a < 4 ∧ b < 12 ∧ k < 8 := h2; simp only [xi, rC, rS, rT, rF]; exact ⟨by omega, fun n' hn => by rcases (show n = 0 ∨ n = 1 by omega) with rfl | rfl <;> rcases (show n' = 0 ∨ n' = 1 by omega) with rfl | rfl <;> omega, fun n' c hn hc => by rcases (show n = 0 ∨ n = 1 by omega) with rfl | rfl <;> rcases (show n' = 0 ∨ n' = 1 by omega) with rfl | rfl <;> omega, fun n' f hn hf => by rcases (show n = 0 ∨ n = 1 by omega) with rfl | rfl <;> rcases (show n' = 0 ∨ n' = 1 by omega) with rfl | rfl <;> omega, fun y n' a' hv => ht y n' a' hv (fun q => 11 + 138 * n + 17 * a + b ≠ q ∧ 11 + 138 * n + 17 * a + b ≠ q + 1) (fun hn ha => by rcases (show n = 0 ∨ n = 1 by omega) with rfl | rfl <;> rcases (show n' = 0 ∨ n' = 1 by omega) with rfl | rfl <;> omega) (fun hn ha => by rcases (show n = 0 ∨ n = 1 by omega) with rfl | rfl <;> rcases (show n' = 0 ∨ n' = 1 by omega) with rfl | rfl <;> omega) (fun hn ha => by rcases (show n = 0 ∨ n = 1 by omega) with rfl | rfl <;> rcases (show n' = 0 ∨ n' = 1 by omega) with rfl | rfl <;> omega)⟩
  | 3, h2 => have h2 : a < 4 ∧ b = 0 ∧ k < 12 := h2; simp only [xi, rC, rS, rT, rF]; exact ⟨by omega, fun n' hn => by rcases (show n = 0 ∨ n = 1 by omega) with rfl | rfl <;> rcases (show n' = 0 ∨ n' = 1 by omega) with rfl | rfl <;> omega, fun n' c hn hc => by rcases (show n = 0 ∨ n = 1 by omega) with rfl | rfl <;> rcases (show n' = 0 ∨ n' = 1 by omega) with rfl | rfl <;> omega, fun n' f hn hf => by rcases (show n = 0 ∨ n = 1 by omega) with rfl | rfl <;> rcases (show n' = 0 ∨ n' = 1 by omega) with rfl | rfl <;> omega, fun y n' a' hv => ht y n' a' hv (fun q => 8 + 138 * n + 17 * a ≠ q ∧ 8 + 138 * n + 17 * a ≠ q + 1) (fun hn ha => by rcases (show n = 0 ∨ n = 1 by omega) with rfl | rfl <;> rcases (show n' = 0 ∨ n' = 1 by omega) with rfl | rfl <;> omega) (fun hn ha => by rcases (show n = 0 ∨ n = 1 by omega) with rfl | rfl <;> rcases (show n' = 0 ∨ n' = 1 by omega) with rfl | rfl <;> omega) (fun hn ha => by rcases (show n = 0 ∨ n = 1 by omega) with rfl | rfl <;> rcases (show n' = 0 ∨ n' = 1 by omega) with rfl | rfl <;> omega)⟩
  | 4, h2 => have h2 : a < 12 ∧ b = 0 ∧ (k < 2 ∨ k = 4) := h2; simp only [xi, rC, rS, rT, rF]; exact ⟨by omega, fun n' hn => by rcases (show n = 0 ∨ n = 1 by omega) with rfl | rfl <;> rcases (show n' = 0 ∨ n' = 1 by omega) with rfl | rfl <;> omega, fun n' c hn hc => by rcases (show n = 0 ∨ n = 1 by omega) with rfl | rfl <;> rcases (show n' = 0 ∨ n' = 1 by omega) with rfl | rfl <;> omega, fun n' f hn hf => by rcases (show n = 0 ∨ n = 1 by omega) with rfl | rfl <;> rcases (show n' = 0 ∨ n' = 1 by omega) with rfl | rfl <;> omega, fun y n' a' hv => ht y n' a' hv (fun q => 74 + 138 * n + 4 * a ≠ q ∧ 74 + 138 * n + 4 * a ≠ q + 1) (fun hn ha => by rcases (show n = 0 ∨ n = 1 by omega) with rfl | rfl <;> rcases (show n' = 0 ∨ n' = 1 by omega) with rfl | rfl <;> omega) (fun hn ha => by rcases (show n = 0 ∨ n = 1 by omega) with rfl | rfl <;> rcases (show n' = 0 ∨ n' = 1 by omega) with rfl | rfl <;> omega) (fun hn ha => by rcases (show n = 0 ∨ n = 1 by omega) with rfl | rfl <;> rcases (show n' = 0 ∨ n' = 1 by omega) with rfl | rfl <;> omega)⟩
  | 5, h2 => have h2 : a < 12 ∧ b = 0 ∧ k < 4 := h2; simp only [xi, rC, rS, rT, rF]; exact ⟨by omega, fun n' hn => by rcases (show n = 0 ∨ n = 1 by omega) with rfl | rfl <;> rcases (show n' = 0 ∨ n' = 1 by omega) with rfl | rfl <;> omega, fun n' c hn hc => by rcases (show n = 0 ∨ n = 1 by omega) with rfl | rfl <;> rcases (show n' = 0 ∨ n' = 1 by omega) with rfl | rfl <;> omega, fun n' f hn hf => by rcases (show n = 0 ∨ n = 1 by omega) with rfl | rfl <;> rcases (show n' = 0 ∨ n' = 1 by omega) with rfl | rfl <;> omega, fun y n' a' hv => ht y n' a' hv (fun q => 75 + 138 * n + 4 * a ≠ q ∧ 75 + 138 * n + 4 * a ≠ q + 1) (fun hn ha => by rcases (show n = 0 ∨ n = 1 by omega) with rfl | rfl <;> rcases (show n' = 0 ∨ n' = 1 by omega) with rfl | rfl <;> omega) (fun hn ha => by rcases (show n = 0 ∨ n = 1 by omega) with rfl | rfl <;> rcases (show n' = 0 ∨ n' = 1 by omega) with rfl | rfl <;> omega) (fun hn ha => by rcases (show n = 0 ∨ n = 1 by omega) with rfl | rfl <;> rcases (show n' = 0 ∨ n' = 1 by omega) with rfl | rfl <;> omega)⟩
  | n + 6, h2 => exact h2.elim
theorem hv_set (hp : AH) (i k : Nat) (v : Value) (j l : Nat) : hv (hset hp i k v) j l = if j = i ∧ l = k then v else hv hp j l := rfl
theorem hv_ne {hp : AH} {i k : Nat} {v : Value} {j l : Nat} (h : ¬ (j = i ∧ l = k)) : hv (hset hp i k v) j l = hv hp j l := if_neg h
theorem aix_ne {hp : AH} {i k : Nat} {v : Value} {j : Nat} (h : ¬ (j = i ∧ 1 = k)) : aix (hset hp i k v) j = aix hp j := by
  unfold aix
  rw [hv_ne h]
theorem TabAt.set {hp : AH} {i k : Nat} {v : Value} {t w : Nat} {r : List Row} {cap : Nat} (h : TabAt hp t w r cap) (h1 : t ≠ i) (h2 : aix hp t ≠ i) : TabAt (hset hp i k v) t w r cap := by
  have e := aix_ne (hp := hp) (k := k) (v := v) (fun q : t = i ∧ 1 = k => h1 q.1)
  obtain ⟨a1, a2, a3, a4, a5, a6, a7, a8, a9, a10, a11⟩ := h
  unfold TabAt
  rw [e]
  refine ⟨a1, ?_, ?_, ?_, a5, a6, a7, a8, a9, fun j hj => ?_, fun k' q hq c hc => ?_⟩
  · rw [hv_ne (fun q => h1 q.1)]; exact a2
  · rw [hv_ne (fun q => h1 q.1)]; exact a3
  · rw [hv_ne (fun q => h1 q.1)]; exact a4
  · rw [hv_ne (fun q => h2 q.1)]; exact a10 j hj
  · rw [hv_ne (fun q => h2 q.1)]; exact a11 k' q hq c hc
/-- a number is written -/
theorem Rep.setV {hp : AH} {M : MS} (h : Rep hp M) {g n a b k : Nat} (hv0 : vs g n a b k) {v : Int32} (hok : okg g k v) : Rep (hset hp (xi g n a b) k (.int v)) (sV M g n a b k v) := by
  obtain ⟨r1, r2, r3, r4, r5, r6, r7, r8, r9, r10, r11, r12, r13⟩ := h
  obtain ⟨d1, d2, d3, d4, d5⟩ := xi_apart hv0
  have hl := xi_le hv0
  have hA : ∀ y n' a', vt y n' a' → aix hp (xt y n' a') ≠ xi g n a b := by
    intro y n' a' ht hq
    have h5 := (d5 y n' a' ht).2
    rcases (r11 y n' a' ht).2.2.2.2.1 with e | e
    · exact h5 (by rw [← hq, e])
    · omega
  have hAx : ∀ y n' a', vt y n' a' → aix (hset hp (xi g n a b) k (.int v)) (xt y n' a') = aix hp (xt y n' a') := fun y n' a' ht => aix_ne (fun q => (d5 y n' a' ht).1 q.1.symm)
  refine ⟨r1, r2, r3, ?_, ?_, ?_, ?_, ?_, ?_, ?_, ?_, ?_, ?_⟩
  · obtain ⟨a1, a2, a3⟩ := r4
    exact ⟨a1, by rw [hv_ne (fun q => d1 q.1.symm)]; exact a2, by rw [hv_ne (fun q => d1 q.1.symm)]; exact a3⟩
  · intro n' hn
    obtain ⟨a1, a2, a3, a4, a5⟩ := r5 n' hn
    have d := d2 n' hn
    exact ⟨a1, by rw [hv_ne (fun q => d.2.2.2 ⟨q.1.symm, by omega⟩)]; exact a2, by rw [hv_ne (fun q => d.2.2.2 ⟨q.1.symm, by omega⟩)]; exact a3, by rw [hv_ne (fun q => d.2.2.2 ⟨q.1.symm, by omega⟩)]; exact a4, a5⟩
  · intro n' c hn hc
    obtain ⟨a1, a2, a3, a4, a5, a6⟩ := r6 n' c hn hc
    have d := d3 n' c hn hc
    exact ⟨by rw [hv_ne (fun q => (d2 n' hn).1 q.1.symm)]; exact a1, a2, by rw [hv_ne (fun q => d.2 ⟨q.1.symm, by omega⟩)]; exact a3, by rw [hv_ne (fun q => d.2 ⟨q.1.symm, by omega⟩)]; exact a4, by rw [hv_ne (fun q => d.2 ⟨q.1.symm, by omega⟩)]; exact a5, a6⟩
  · intro n' c f hn hc hf
    obtain ⟨a1, a2⟩ := r7 n' c f hn hc hf
    exact ⟨by rw [hv_ne (fun q => (d3 n' c hn hc).1 q.1.symm)]; exact a1, a2⟩
  · intro n' f hn hf
    obtain ⟨a1, a2, a3, a4, a5⟩ := r8 n' f hn hf
    have d := d4 n' f hn hf
    exact ⟨by rw [hv_ne (fun q => (d2 n' hn).2.1 q.1.symm)]; exact a1, a2, by rw [hv_ne (fun q => d ⟨q.1.symm, by omega⟩)]; exact a3, by rw [hv_ne (fun q => d ⟨q.1.symm, by omega⟩)]; exact a4, a5⟩
  · intro n' k' hn hk'
    rw [hv_ne (fun q => (d2 n' hn).2.2.1 q.1.symm)]
    exact r9 n' k' hn hk'
  · intro g' n' a' b' k' hs
    rw [hv_set]
    show _ = Value.int (if g' = g ∧ n' = n ∧ a' = a ∧ b' = b ∧ k' = k then v else gV M g' n' a' b' k') ∧ okg g' k' (if g' = g ∧ n' = n ∧ a' = a ∧ b' = b ∧ k' = k then v else gV M g' n' a' b' k')
    by_cases hq : xi g' n' a' b' = xi g n a b ∧ k' = k
    · obtain ⟨e1, e2, e3, e4⟩ := xi_inj hs hv0 hq.1
      rw [if_pos hq, if_pos ⟨e1, e2, e3, e4, hq.2⟩]
      subst e1
      rw [hq.2]
      exact ⟨rfl, hok⟩
    · rw [if_neg hq, if_neg]
      · exact r10 g' n' a' b' k' hs
      rintro ⟨e1, e2, e3, e4, e5⟩
      subst e1; subst e2; subst e3; subst e4; subst e5
      exact hq ⟨rfl, rfl⟩
  · intro y n' a' ht
    exact (r11 y n' a' ht).set (fun q => (d5 y n' a' ht).1 q.symm) (hA y n' a' ht)
  · intro y n1 a1 y' n2 a2 t1 t2 e
    rw [hAx _ _ _ t1, hAx _ _ _ t2] at e
    exact r12 y n1 a1 y' n2 a2 t1 t2 e
  · intro i l f hx
    obtain ⟨x1, x2, x3, x4, x5⟩ := r13 i l f hx
    refine ⟨x1, x2, x3, fun k' hk' => ?_, fun y n' a' ht => by rw [hAx _ _ _ ht]; exact x5 y n' a' ht⟩
    rw [hv_ne (fun q => by have := q.1; omega)]
    exact x4 k' hk'
