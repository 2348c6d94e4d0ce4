/-! ===== what is set, II: a file is written, a line is cut ===== -/
section OPS2
variable {hp : AH} {M : MS} {zB tB n clk cc K : Nat} {D : Nat → Nat} {ev : Bool} {r j s : Nat} {e : Nat → Nat} {c f : Nat}
theorem put_get (M : MS) (n c f : Nat) (x t : Int32) (g n' a b k : Nat) (hg : ¬ (g = 2 ∧ n' = n ∧ a = c ∧ b = f)) : gV (mPut M n c f x t) g n' a b k = gV M g n' a b k := by
  unfold mPut
  split
  · rw [sV_ne (by omega), sV_ne (by omega), sV_ne (by omega)]
  · rw [sV_ne (by omega)]
theorem put_own (M : MS) (n c f : Nat) (x t : Int32) : gV (mPut M n c f x t) 2 n c f 1 = x ∧ ¬ gV (mPut M n c f x t) 2 n c f 4 = 0 ∧ ∀ k, k ≠ 1 → k ≠ 4 → k ≠ 5 → gV (mPut M n c f x t) 2 n c f k = gV M 2 n c f k := by
  unfold mPut
  split
  · refine ⟨by rw [sV_ne (by omega), sV_ne (by omega), sV_self], by rw [sV_ne (by omega), sV_self]; decide, fun k h1 h2 h3 => by rw [sV_ne (by omega), sV_ne (by omega), sV_ne (by omega)]⟩
  · next h => exact ⟨sV_self _ _ _ _ _ _ _, by rw [sV_ne (by omega)]; exact h, fun k h1 h2 h3 => sV_ne (by omega)⟩
theorem put_T (M : MS) (n c f : Nat) (x t : Int32) : mz (mPut M n c f x t) = mz M ∧ mt (mPut M n c f x t) = mt M ∧ (∀ y n' a, gT (mPut M n c f x t) y n' a = gT M y n' a ∧ gP (mPut M n c f x t) y n' a = gP M y n' a) ∧ ∀ i, gX (mPut M n c f x t) i = gX M i := by
  unfold mPut
  split <;> exact ⟨rfl, rfl, fun _ _ _ => ⟨rfl, rfl⟩, fun _ => rfl⟩
/-- a file is written -/
theorem ST.put {hp' : AH} {x t : Int32} (h : ST hp M zB tB n clk cc K D ev r j s e) (hc : c < cc) (hf : f < 12) (hx : cOk x) (hh : ¬ gV M 2 n c f 0 = 0) (hR : Rep hp' (mPut M n c f x t)) : ST hp' (mPut M n c f x t) zB tB n clk cc K D ev r j s e ∧ MR M (mPut M n c f x t) n clk := by
  have hC := h.cj hc
  obtain ⟨l, i1, i2, i3, i4, i5⟩ := hC.1
  obtain ⟨o1, o2, o3⟩ := put_own M n c f x t
  obtain ⟨t1, t2, t3, t4⟩ := put_T M n c f x t
  have hg := put_get M n c f x t
  have hO : OC M (mPut M n c f x t) n c := ⟨fun g n' a b k q => hg g n' a b k (fun p => q ⟨p.2.1, p.2.2.1, by omega⟩), fun y n' a _ => t3 y n' a, t4⟩
  have hk : ∀ k, gV (mPut M n c f x t) 1 n c 0 k = gV M 1 n c 0 k := fun k => hg _ _ _ _ _ (by omega)
  have h67 : ∀ c' f', gV (mPut M n c f x t) 2 n c' f' 6 = gV M 2 n c' f' 6 ∧ gV (mPut M n c f x t) 2 n c' f' 7 = gV M 2 n c' f' 7 := fun c' f' => by
    by_cases e9 : c' = c ∧ f' = f
    · obtain ⟨rfl, rfl⟩ := e9; exact ⟨o3 6 (by decide) (by decide) (by decide), o3 7 (by decide) (by decide) (by decide)⟩
    · exact ⟨hg _ _ _ _ _ (by omega), hg _ _ _ _ _ (by omega)⟩
  have hI : CI (mPut M n c f x t) n c l := by
    refine ⟨i1.oth (hk 2) (fun k => hg _ _ _ _ _ (by omega)), i2, i3, fun g hgl => ?_, fun g hgl hd => ?_⟩
    · by_cases e9 : g = f
      · subst e9; rw [o3 0 (by decide) (by decide) (by decide)]; exact i4 g hgl
      · rw [hg _ _ _ _ _ (by omega)]; exact i4 g hgl
    · by_cases e9 : g = f
      · subst e9; exact (i4 g hgl).mp hh
      · rw [hg _ _ _ _ _ (by omega)] at hd; exact i5 g hgl hd
  refine ⟨⟨hR, h.2.1.of t1 t2 (fun y n' a => (t3 y n' a).2), h.2.2.1.client hO (hC.of hO ⟨l, hI⟩ (hk 4) (fun q f' hf' => ?_) (by rw [(t3 0 n c).1]; exact hC.2.2.2.2.1) (fun f' hf' => ?_) (fun q => by rw [hk 6, hk 11]; exact hC.2.2.2.2.2.2 q)), hO.bj h.2.2.2 (hk 9) (by rw [FL_eq (M := M) (M' := mPut M n c f x t) (fun c' f' _ _ => h67 c' f')]; exact Nat.le_refl _)⟩, MR_oc hO (hk 7) (hk 8) (by rw [hk 9]; exact Nat.le_refl _)⟩
  · rw [hk 6] at q
    rw [(h67 c f').1, (h67 c f').2]; exact hC.2.2.2.1 q f' hf'
  · obtain ⟨a1, a2, a3⟩ := hC.2.2.2.2.2.1 f' hf'
    by_cases e9 : f' = f
    · subst e9
      rw [o1, o3 2 (by decide) (by decide) (by decide)]
      exact ⟨hx, a2, a3⟩
    · rw [hg _ _ _ _ _ (by omega), hg _ _ _ _ _ (by omega)]; exact ⟨a1, a2, a3⟩
end OPS2
