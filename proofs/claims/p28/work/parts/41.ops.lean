/-! ===== what is set ===== -/
section OPS
variable {hp : AH} {M : MS} {zB tB n clk cc K : Nat} {D : Nat → Nat} {ev : Bool} {r j s : Nat} {e : Nat → Nat} {c f : Nat}
/-- term, lag, room -/
theorem ST.net0 {hp' : AH} {k : Nat} {v : Int32} (h : ST hp M zB tB n clk cc K D ev r j s e) (hk : k = 1 ∨ k = 2 ∨ (k = 3 ∧ ∃ r, r ≤ 6 ∧ v = nI r)) (hR : Rep hp' (sV M 0 n 0 0 k v)) : ST hp' (sV M 0 n 0 0 k v) zB tB n clk cc K D ev r j s e ∧ FR M (sV M 0 n 0 0 k v) n := by
  have hx : ∀ g n' a b k', ¬ (g = 0 ∧ k' = k) → gV (sV M 0 n 0 0 k v) g n' a b k' = gV M g n' a b k' := fun g n' a b k' q => sV_ne (fun p => q ⟨p.1, p.2.2.2.2⟩)
  obtain ⟨hR0, hI, ⟨⟨b1, b2, b3, b4, b5⟩, n2, n3, n4⟩, hB⟩ := h
  have hv : vrs (sV M 0 n 0 0 k v) n = vrs M n := funext (fun f => by show vN _ = vN _; rw [hx _ _ _ _ _ (by omega)])
  refine ⟨⟨hR, hI.of rfl rfl (fun _ _ _ => rfl), ⟨⟨b1, b2, by rw [hx _ _ _ _ _ (by omega)]; exact b3, by rw [hx _ _ _ _ _ (by omega)]; exact b4, ?_⟩, fun c hc => ?_, fun f hf => ?_, fun k hk q hq => ?_⟩, ?_⟩, ⟨G0.sv _ _ _ _ _ _ _, fun c _ => ⟨hx _ _ _ _ _ (by omega), hx _ _ _ _ _ (by omega), by rw [hx _ _ _ _ _ (by omega)]; exact Nat.le_refl _⟩, fun f _ => ⟨by rw [hv]; exact Nat.le_refl _, fun _ => hx _ _ _ _ _ (by omega)⟩⟩⟩
  · rcases hk with rfl | rfl | ⟨rfl, rr, h1, h2⟩
    · rw [hx _ _ _ _ _ (by omega)]; exact b5
    · rw [hx _ _ _ _ _ (by omega)]; exact b5
    · exact ⟨rr, h1, by rw [sV_self]; exact h2⟩
  · obtain ⟨⟨l, a1⟩, a2, a3, a4, a5, a6, a7⟩ := n2 c hc
    refine ⟨⟨l, a1.of (hx _ _ _ _ _ (by omega)) (fun _ => hx _ _ _ _ _ (by omega)) (fun _ => ⟨hx _ _ _ _ _ (by omega), hx _ _ _ _ _ (by omega)⟩)⟩, by rw [hx _ _ _ _ _ (by omega)]; exact a2, a3, ?_, a5, fun f hf => ?_, ?_⟩
    · rw [hx _ _ _ _ _ (by omega)]; intro q f hf; rw [hx _ _ _ _ _ (by omega), hx _ _ _ _ _ (by omega)]; exact a4 q f hf
    · unfold HJ; rw [hv, hx _ _ _ _ _ (by omega), hx _ _ _ _ _ (by omega)]; exact a6 f hf
    · rw [hx _ _ _ _ _ (by omega), hx _ _ _ _ _ (by omega)]; exact a7
  · unfold SJ; rw [hv, hx _ _ _ _ _ (by omega), hx _ _ _ _ _ (by omega)]; exact n3 f hf
  · rw [hv]; exact n4 k hk q hq
  · unfold BJ at hB ⊢
    rw [show RQ (sV M 0 n 0 0 k v) n = RQ M n from rfl, FL_eq (M := M) (M' := sV M 0 n 0 0 k v) (fun c' f' _ _ => ⟨hx _ _ _ _ _ (by omega), hx _ _ _ _ _ (by omega)⟩), FF_eq (M := M) (M' := sV M 0 n 0 0 k v) (fun f' _ => hx _ _ _ _ _ (by omega)), hv, show (fun c => gV (sV M 0 n 0 0 k v) 1 n c 0 9) = (fun c => gV M 1 n c 0 9) from funext (fun c => hx _ _ _ _ _ (by omega))]
    exact hB
end OPS
