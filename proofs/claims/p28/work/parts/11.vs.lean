/-! places of numbers, by their parts -/
theorem vs0 {n k : Nat} (hn : n < 2) (hk : k < 5) : vs 0 n 0 0 k := ⟨hn, rfl, rfl, hk⟩
theorem vs1 {n c k : Nat} (hn : n < 2) (hc : c < 4) (hk : k = 2 ∨ (4 ≤ k ∧ k < 12)) : vs 1 n c 0 k := ⟨hn, hc, rfl, hk⟩
theorem vs2 {n c f k : Nat} (hn : n < 2) (hc : c < 4) (hf : f < 12) (hk : k < 8) : vs 2 n c f k := ⟨hn, hc, hf, hk⟩
theorem vs3 {n c k : Nat} (hn : n < 2) (hc : c < 4) (hk : k < 12) : vs 3 n c 0 k := ⟨hn, hc, rfl, hk⟩
theorem vs4 {n f k : Nat} (hn : n < 2) (hf : f < 12) (hk : k < 2 ∨ k = 4) : vs 4 n f 0 k := ⟨hn, hf, rfl, hk⟩
theorem vs5 {n f k : Nat} (hn : n < 2) (hf : f < 12) (hk : k < 4) : vs 5 n f 0 k := ⟨hn, hf, rfl, hk⟩
theorem vt0 {n c : Nat} (hn : n < 2) (hc : c < 4) : vt 0 n c := ⟨hn, hc⟩
theorem vt1 {n f : Nat} (hn : n < 2) (hf : f < 12) : vt 1 n f := ⟨hn, hf⟩
theorem vt2 {n k : Nat} (hn : n < 2) (hk : k < 9) : vt 2 n k := ⟨hn, hk⟩
/-- reading what was written -/
theorem gV_sV (M : MS) (g n a b k : Nat) (v : Int32) (g' n' a' b' k' : Nat) : gV (sV M g n a b k v) g' n' a' b' k' = if g' = g ∧ n' = n ∧ a' = a ∧ b' = b ∧ k' = k then v else gV M g' n' a' b' k' := rfl
theorem sV_self (M : MS) (g n a b k : Nat) (v : Int32) : gV (sV M g n a b k v) g n a b k = v := if_pos ⟨rfl, rfl, rfl, rfl, rfl⟩
theorem sV_k {M : MS} {g n a b k : Nat} {v : Int32} {k' : Nat} (h : k' ≠ k) : gV (sV M g n a b k v) g n a b k' = gV M g n a b k' := if_neg (fun q => h q.2.2.2.2)
theorem gT_sV (M : MS) (g n a b k : Nat) (v : Int32) (y n' a' : Nat) : gT (sV M g n a b k v) y n' a' = gT M y n' a' := rfl
theorem gP_sV (M : MS) (g n a b k : Nat) (v : Int32) (y n' a' : Nat) : gP (sV M g n a b k v) y n' a' = gP M y n' a' := rfl
theorem gX_sV (M : MS) (g n a b k : Nat) (v : Int32) (i : Nat) : gX (sV M g n a b k v) i = gX M i := rfl
theorem mz_sV (M : MS) (g n a b k : Nat) (v : Int32) : mz (sV M g n a b k v) = mz M := rfl
theorem mt_sV (M : MS) (g n a b k : Nat) (v : Int32) : mt (sV M g n a b k v) = mt M := rfl
def bI (p : Prop) [Decidable p] : Int32 := if p then 1 else 0
theorem bI_t {p : Prop} [Decidable p] (h : p) : bI p = 1 := if_pos h
theorem bI_f {p : Prop} [Decidable p] (h : ¬ p) : bI p = 0 := if_neg h
theorem bI_01 (p : Prop) [Decidable p] : bI p = 0 ∨ bI p = 1 := by unfold bI; by_cases h : p <;> simp [h]
theorem bI_ne {p : Prop} [Decidable p] : ¬ bI p = 0 ↔ p := by unfold bI; by_cases h : p <;> simp [h]
theorem bI_eq {p : Prop} [Decidable p] : bI p = 0 ↔ ¬ p := by unfold bI; by_cases h : p <;> simp [h]
