/-! ===== what is set, III: a line is cut ===== -/
section OPS3
variable {hp : AH} {M : MS} {zB tB n clk cc K : Nat} {D : Nat → Nat} {ev : Bool} {r j s : Nat} {e : Nat → Nat} {c f : Nat}
/-- the line is cut -/
theorem ST.cut {hp' : AH} (h : ST hp M zB tB n clk cc K D ev r j s e) (hc : c < cc) (hK : K < 48) (hR : Rep hp' (wV M (cutE M n c 12))) : ST hp' (wV M (cutE M n c 12)) zB tB n clk cc (K + 1) D true r j s e ∧ MR M (wV M (cutE M n c 12)) n clk ∧ gV (wV M (cutE M n c 12)) 1 n c 0 6 = 1 := by
  have hC := h.cj hc
  obtain ⟨l, hI⟩ := hC.1
  have hx : ∀ g n' a b k', ¬ (n' = n ∧ a = c ∧ ((g = 1 ∧ b = 0 ∧ k' = 6) ∨ (g = 2 ∧ (k' = 6 ∨ k' = 7)))) → gV (wV M (cutE M n c 12)) g n' a b k' = gV M g n' a b k' := fun g n' a b k' q => by
    rw [gV_wV]; unfold cutE; rw [if_neg (by omega), if_neg (by omega)]
  have h6 : gV (wV M (cutE M n c 12)) 1 n c 0 6 = 1 := by rw [gV_wV]; unfold cutE; rw [if_pos ⟨rfl, rfl, rfl, rfl, rfl⟩]
  have hf0 : ∀ f', f' < 12 → gV (wV M (cutE M n c 12)) 2 n c f' 6 = 0 ∧ gV (wV M (cutE M n c 12)) 2 n c f' 7 = 0 := fun f' hf' => by
    rw [gV_wV, gV_wV]; unfold cutE
    rw [if_neg (by omega), if_pos ⟨rfl, rfl, rfl, hf', Or.inl rfl⟩, if_neg (by omega), if_pos ⟨rfl, rfl, rfl, hf', Or.inr rfl⟩]
    exact ⟨rfl, rfl⟩
  have hO : OC M (wV M (cutE M n c 12)) n c := ⟨fun g n' a b k q => hx g n' a b k (by omega), fun _ _ _ _ => ⟨rfl, rfl⟩, fun _ => rfl⟩
  have hN : NJ M n clk cc D true := by
    obtain ⟨n1, n2, n3, n4⟩ := h.2.2.1
    exact ⟨n1, fun c hc => ⟨(n2 c hc).1, (n2 c hc).2.1, (n2 c hc).2.2.1, (n2 c hc).2.2.2.1, (n2 c hc).2.2.2.2.1, (n2 c hc).2.2.2.2.2.1, fun q => absurd q (by decide)⟩, n3, fun k hk q hq => ⟨(n4 k hk q hq).1, (n4 k hk q hq).2.1, (n4 k hk q hq).2.2.1, (n4 k hk q hq).2.2.2.1, fun q => absurd q (by decide)⟩⟩
  have hC' := hN.2.1 c (h.lt hc)
  have hFL : FL M n ≤ FL (wV M (cutE M n c 12)) n + 24 := by
    have hu := sN_upd (k := 4) (i := c) (f := fun c => sN 12 (fun f => bz (gV M 2 n c f 6) + bz (gV M 2 n c f 7))) (g := fun c' => sN 12 (fun f => bz (gV (wV M (cutE M n c 12)) 2 n c' f 6) + bz (gV (wV M (cutE M n c 12)) 2 n c' f 7))) (h.lt hc) (fun c' _ hne => sN_congr (fun f' _ => by rw [hx _ _ _ _ _ (fun q => hne q.2.1), hx _ _ _ _ _ (fun q => hne q.2.1)]))
    have hb : sN 12 (fun f => bz (gV M 2 n c f 6) + bz (gV M 2 n c f 7)) ≤ 12 * 2 := sN_bd (fun f _ => by have h1 := bz_le (gV M 2 n c f 6); have h2 := bz_le (gV M 2 n c f 7); omega)
    show sN 4 _ ≤ sN 4 _ + 24
    omega
  refine ⟨⟨hR, h.2.1.of rfl rfl (fun _ _ _ => rfl), hN.client hO (hC'.of hO ⟨l, hI.of (hx _ _ _ _ _ (by omega)) (fun _ => hx _ _ _ _ _ (by omega)) (fun _ => ⟨hx _ _ _ _ _ (by omega), hx _ _ _ _ _ (by omega)⟩)⟩ (hx _ _ _ _ _ (by omega)) (fun _ => hf0) hC.2.2.2.2.1 (fun f' hf' => ?_) (fun q => absurd q (by decide))), ?_⟩, MR_oc hO (hx _ _ _ _ _ (by omega)) (hx _ _ _ _ _ (by omega)) (by rw [hx _ _ _ _ _ (by omega)]; exact Nat.le_refl _), h6⟩
  · rw [hx _ _ _ _ _ (by omega), hx _ _ _ _ _ (by omega)]; exact hC.2.2.2.2.2.1 f' hf'
  · obtain ⟨⟨a1, a2, a3, a4⟩, b, c1, d, x, y⟩ := h.2.2.2
    unfold BJ
    rw [show RQ (wV M (cutE M n c 12)) n = RQ M n from rfl, hO.ff, show vrs (wV M (cutE M n c 12)) n = vrs M n from funext hO.vrs, show (fun c' => gV (wV M (cutE M n c 12)) 1 n c' 0 9) = (fun c' => gV M 1 n c' 0 9) from funext (fun c' => hx _ _ _ _ _ (by omega))]
    refine ⟨⟨?_, by omega, FL_le _ _, a4⟩, b, c1, d, x, y⟩
    show sN 9 (fun k => (sl (fun k => gT M 2 n k) clk r k).countP kdTh) + RQ M n + s ≤ _
    omega
end OPS3
