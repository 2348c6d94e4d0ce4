/-! ===== steps of a net ===== -/
theorem FL_le (M : MS) (n : Nat) : FL M n ≤ 96 := Nat.le_trans (sN_bd (k := 4) (b := 24) (fun c _ => Nat.le_trans (sN_bd (k := 12) (b := 2) (fun f _ => by have h1 := bz_le (gV M 2 n c f 6); have h2 := bz_le (gV M 2 n c f 7); show _ + _ ≤ 2; omega)) (by decide))) (by decide)
theorem FF_le (M : MS) (n : Nat) : FF M n ≤ 12 := Nat.le_trans (sN_bd (k := 12) (b := 1) (fun f _ => bz_le _)) (by decide)
theorem FL_upd {M M' : MS} {n c f : Nat} (hc : c < 4) (hf : f < 12) (h : ∀ c' f', c' < 4 → f' < 12 → ¬ (c' = c ∧ f' = f) → gV M' 2 n c' f' 6 = gV M 2 n c' f' 6 ∧ gV M' 2 n c' f' 7 = gV M 2 n c' f' 7) : FL M' n + (bz (gV M 2 n c f 6) + bz (gV M 2 n c f 7)) = FL M n + (bz (gV M' 2 n c f 6) + bz (gV M' 2 n c f 7)) := by
  have h1 := sN_upd (k := 4) (i := c) (f := fun c => sN 12 (fun f => bz (gV M 2 n c f 6) + bz (gV M 2 n c f 7))) (g := fun c => sN 12 (fun f => bz (gV M' 2 n c f 6) + bz (gV M' 2 n c f 7))) hc (fun c' hc' hne => sN_congr (fun f' hf' => by rw [(h c' f' hc' hf' (fun q => hne q.1)).1, (h c' f' hc' hf' (fun q => hne q.1)).2]))
  have h2 := sN_upd (k := 12) (i := f) (f := fun f => bz (gV M 2 n c f 6) + bz (gV M 2 n c f 7)) (g := fun f => bz (gV M' 2 n c f 6) + bz (gV M' 2 n c f 7)) hf (fun f' hf' hne => by show bz _ + bz _ = _; rw [(h c f' hc hf' (fun q => hne q.2)).1, (h c f' hc hf' (fun q => hne q.2)).2])
  show sN 4 _ + _ = sN 4 _ + _
  omega
theorem FF_upd {M M' : MS} {n f : Nat} (hf : f < 12) (h : ∀ f', f' < 12 → ¬ f' = f → gV M' 4 n f' 0 4 = gV M 4 n f' 0 4) : FF M' n + bz (gV M 4 n f 0 4) = FF M n + bz (gV M' 4 n f 0 4) :=
  sN_upd (k := 12) (i := f) (f := fun f => bz (gV M 4 n f 0 4)) (g := fun f => bz (gV M' 4 n f 0 4)) hf (fun f' hf' hne => by show bz _ = bz _; rw [h f' hf' hne])
theorem FL_eq {M M' : MS} {n : Nat} (h : ∀ c f, c < 4 → f < 12 → gV M' 2 n c f 6 = gV M 2 n c f 6 ∧ gV M' 2 n c f 7 = gV M 2 n c f 7) : FL M' n = FL M n := sN_congr (fun c hc => sN_congr (fun f hf => by rw [(h c f hc hf).1, (h c f hc hf).2]))
theorem FF_eq {M M' : MS} {n : Nat} (h : ∀ f, f < 12 → gV M' 4 n f 0 4 = gV M 4 n f 0 4) : FF M' n = FF M n := sN_congr (fun f hf => by rw [h f hf])
theorem RQ_eq {M M' : MS} {n : Nat} (h : ∀ f, f < 12 → gT M' 1 n f = gT M 1 n f) : RQ M' n = RQ M n := sN_congr (fun f hf => by rw [h f hf])
theorem BJ.num {M M' : MS} {n clk K r j s : Nat} {D : Nat → Nat} {e : Nat → Nat} (h : BJ M n clk K D r j s e) {j' s' : Nat} {e' : Nat → Nat} (hT : ∀ k, gT M' 2 n k = gT M 2 n k) (hG : ∀ c, gV M' 1 n c 0 9 = gV M 1 n c 0 9) (h1 : RQ M' n + s' + FL M n + j ≤ RQ M n + s + FL M' n + j') (h2 : ∀ c, c < 4 → RQ M' n + e' c + FF M n + j ≤ RQ M n + e c + FF M' n + j') (h4 : ∀ f, f < 12 → vrs M' n f + RQ M' n + j ≤ vrs M n f + RQ M n + j') : BJ M' n clk K D r j' s' e' := by
  unfold BJ at h ⊢
  rw [show (fun k => gT M' 2 n k) = (fun k => gT M 2 n k) from funext hT, show (fun c => gV M' 1 n c 0 9) = (fun c => gV M 1 n c 0 9) from funext hG]
  exact BB.num h h1 ⟨FL_le _ _, FF_le _ _⟩ h2 h4
/-- nothing outside a client -/
def OC (M M' : MS) (n c : Nat) : Prop := (∀ g n' a b k, ¬ (n' = n ∧ a = c ∧ (g = 1 ∨ g = 2 ∨ g = 3)) → gV M' g n' a b k = gV M g n' a b k) ∧ (∀ y n' a, ¬ (y = 0 ∧ n' = n ∧ a = c) → gT M' y n' a = gT M y n' a ∧ gP M' y n' a = gP M y n' a) ∧ ∀ i, gX M' i = gX M i
theorem OC.g0 {M M' : MS} {n c : Nat} (h : OC M M' n c) : G0 M M' n := ⟨fun g n' a b k q => h.1 g n' a b k (fun p => q p.1), fun y n' a q => h.2.1 y n' a (fun p => q p.2.1), h.2.2⟩
theorem OC.fv {M M' : MS} {n c : Nat} (h : OC M M' n c) : FV M M' n := fun f _ => by
  have e0 := h.1 4 n f 0 0 (by omega)
  have e1 := h.1 4 n f 0 1 (by omega)
  unfold vrs
  rw [e1]
  exact ⟨Nat.le_refl _, fun _ => e0⟩
theorem OC.vrs {M M' : MS} {n c : Nat} (h : OC M M' n c) (f : Nat) : vrs M' n f = vrs M n f := by
  have e1 := h.1 4 n f 0 1 (by omega)
  show vN _ = vN _
  rw [e1]
theorem OC.fc {M M' : MS} {n c : Nat} (h : OC M M' n c) (h7 : gV M' 1 n c 0 7 = gV M 1 n c 0 7) (h8 : gV M' 1 n c 0 8 = gV M 1 n c 0 8) (h9 : vN (gV M 1 n c 0 9) ≤ vN (gV M' 1 n c 0 9)) : FC M M' n := fun c' _ => by
  by_cases hcc : c' = c
  · subst hcc; exact ⟨h7, h8, h9⟩
  · rw [h.1 1 n c' 0 7 (fun q => hcc q.2.1), h.1 1 n c' 0 8 (fun q => hcc q.2.1), h.1 1 n c' 0 9 (fun q => hcc q.2.1)]
    exact ⟨rfl, rfl, Nat.le_refl _⟩
theorem NJ.client {M M' : MS} {n clk cc c : Nat} {D : Nat → Nat} {ev : Bool} (h : NJ M n clk cc D ev) (hO : OC M M' n c) (hC : CJ M' n D ev c) : NJ M' n clk cc D ev := by
  obtain ⟨⟨b1, b2, b3, b4, b5⟩, h2, h3, h4⟩ := h
  have hv : vrs M' n = vrs M n := funext hO.vrs
  refine ⟨⟨b1, b2, by rw [hO.1 0 n 0 0 0 (by omega)]; exact b3, by rw [hO.1 0 n 0 0 4 (by omega)]; exact b4, by rw [hO.1 0 n 0 0 3 (by omega)]; exact b5⟩, fun c' hc' => ?_, fun f hf => ?_, fun k hk q hq => ?_⟩
  · by_cases hcc : c' = c
    · subst hcc; exact hC
    · obtain ⟨⟨l, a1⟩, a2, a3, a4, a5, a6, a7⟩ := h2 c' hc'
      have hx : ∀ g b k, gV M' g n c' b k = gV M g n c' b k := fun g b k => hO.1 g n c' b k (fun q => hcc q.2.1)
      refine ⟨⟨l, a1.of (hx _ _ _) (fun k => hx _ _ _) (fun f => ⟨hx _ _ _, hx _ _ _⟩)⟩, by rw [hx]; exact a2, a3, ?_, by rw [(hO.2.1 0 n c' (fun q => hcc q.2.2)).1]; exact a5, fun f hf => ?_, ?_⟩
      · rw [hx]; intro q f hf; rw [hx, hx]; exact a4 q f hf
      · obtain ⟨x1, x2, x3⟩ := a6 f hf
        unfold HJ
        rw [hv, hx, hx]
        exact ⟨x1, x2, x3⟩
      · rw [hx, hx]; exact a7
  · obtain ⟨x1, x2, x3⟩ := h3 f hf
    refine ⟨by rw [hO.1 4 n f 0 0 (by omega)]; exact x1, by rw [hO.1 4 n f 0 1 (by omega), hv]; exact x2, by rw [(hO.2.1 1 n f (by omega)).1]; exact x3⟩
  · rw [(hO.2.1 2 n k (by omega)).1] at hq
    rw [hv]
    exact h4 k hk q hq
theorem OC.rq {M M' : MS} {n c : Nat} (h : OC M M' n c) : RQ M' n = RQ M n := RQ_eq (fun f _ => (h.2.1 1 n f (by omega)).1)
theorem OC.ff {M M' : MS} {n c : Nat} (h : OC M M' n c) : FF M' n = FF M n := FF_eq (fun f _ => h.1 4 n f 0 4 (by omega))
theorem OC.bj {M M' : MS} {n c clk K r j s : Nat} {D : Nat → Nat} {e : Nat → Nat} (hO : OC M M' n c) (h : BJ M n clk K D r j s e) (h9 : gV M' 1 n c 0 9 = gV M 1 n c 0 9) {s' : Nat} (h1 : s' + FL M n ≤ s + FL M' n) : BJ M' n clk K D r j s' e :=
  h.num (fun k => (hO.2.1 2 n k (by omega)).1) (fun c' => by
    by_cases hcc : c' = c
    · subst hcc; exact h9
    · exact hO.1 1 n c' 0 9 (fun q => hcc q.2.1)) (by rw [hO.rq]; omega) (fun c' _ => by rw [hO.rq, hO.ff]; omega) (fun f _ => by rw [hO.rq, hO.vrs]; omega)
theorem OC.sv (M : MS) (n c f k : Nat) (v : Int32) : OC M (sV M 2 n c f k v) n c := ⟨fun g n' a b k' q => sV_ne (fun h => q ⟨h.2.1, h.2.2.1, by omega⟩), fun _ _ _ _ => ⟨rfl, rfl⟩, fun _ => rfl⟩
theorem OC.sv1 (M : MS) (n c k : Nat) (v : Int32) : OC M (sV M 1 n c 0 k v) n c := ⟨fun g n' a b k' q => sV_ne (fun h => q ⟨h.2.1, h.2.2.1, by omega⟩), fun _ _ _ _ => ⟨rfl, rfl⟩, fun _ => rfl⟩
theorem OC.trans {M M' M'' : MS} {n c : Nat} (h : OC M M' n c) (h' : OC M' M'' n c) : OC M M'' n c := ⟨fun g n' a b k q => (h'.1 g n' a b k q).trans (h.1 g n' a b k q), fun y n' a q => ⟨(h'.2.1 y n' a q).1.trans (h.2.1 y n' a q).1, (h'.2.1 y n' a q).2.trans (h.2.1 y n' a q).2⟩, fun i => (h'.2.2 i).trans (h.2.2 i)⟩
theorem Oth.oc {M M' : MS} {n c : Nat} (h : Oth M M' n c) : OC M M' n c := ⟨fun g n' a b k q => h.1 g n' a b k (fun p => q ⟨p.1, p.2.1, by omega⟩), fun y n' a _ => by unfold gT gP; rw [h.2.2.2]; exact ⟨rfl, rfl⟩, fun i => by unfold gX; rw [h.2.2.2]⟩
/-- all that holds -/
def ST (hp : AH) (M : MS) (zB tB n clk cc K : Nat) (D : Nat → Nat) (ev : Bool) (r j s : Nat) (e : Nat → Nat) : Prop := Rep hp M ∧ RI zB tB M ∧ NJ M n clk cc D ev ∧ BJ M n clk K D r j s e
section STEPS
variable {L : Nat} {xs : Nat → Int32} {d : Nat} {hp : AH} {M : MS} {zB tB n clk cc K : Nat} {D : Nat → Nat} {ev : Bool} {r j s : Nat} {e : Nat → Nat} {c f : Nat}
/-- the thing that is sent -/
theorem TJ.mk' (h : NJ M n clk cc D ev) (hc : c < cc) (hf : f < 12) {q : Row} {kd : Nat} (hk : kd ≤ 6) {x w : Int32} (hx : cOk x) (hw : w = nI (vN w) ∧ vN w ≤ vrs M n f) (q0 : q 0 = nI c) (q1 : q 1 = nI kd) (q2 : q 2 = nI f) (q3 : q 3 = nI (clk + D c)) (q4 : q 4 = x) (q5 : q 5 = w) (q7 : q 7 = 1 → ¬ gV M 1 n c 0 6 = 0) : TJ (vrs M n) clk cc D ev ((clk + D c) % 9) q := by
  obtain ⟨⟨b1, b2, b3, b4, b5⟩, h2, h3, h4⟩ := h
  refine ⟨⟨c, clk + D c, hc, q0, q3, rfl, Nat.le_add_right _ _, Nat.le_refl _⟩, ⟨f, hf, q2, by rw [q5]; exact hw.1, by rw [q5]; exact hw.2⟩, ⟨kd, hk, q1⟩, by rw [q4]; exact hx, fun hev hq => q7 hq ((h2 c (by omega)).2.2.2.2.2.2 hev).1⟩
theorem s_sendAny (h : ST hp M zB tB n clk cc K D ev r j s e) (hn : n < 2) (hj : j ≤ RQ M n) (hc : c < cc) (hf : f < 12) {kd : Nat} (hk : kd ≤ 6) {x w : Int32} (u : Int32) (hx : cOk x) (hw : w = nI (vN w) ∧ vN w ≤ vrs M n f) : WM L xs (d + 2) mX2_send [.ref (xi 0 n 0 0), .int (nI kd), .int (nI c), .int (nI f), .int x, .int w, .int u] hp (fun v hp' => v = none ∧ ∃ q : Row, q 0 = nI c ∧ q 1 = nI kd ∧ Rep hp' (snd M n ((clk + D c) % 9) q) ∧ RI zB tB (snd M n ((clk + D c) % 9) q) ∧ NJ (snd M n ((clk + D c) % 9) q) n clk cc D ev) := by
  obtain ⟨hR, hI, hN, hB⟩ := h
  obtain ⟨b1, b2, b3, b4, b5⟩ := hN.1
  have hC := hN.2.1 c (by omega)
  have hlen := hN.len hB hj (k := (clk + D c) % 9) (Nat.mod_lt _ (by decide)) (by have := hC.2.2.1; omega)
  refine WM.mono (s_send hR hn (by omega) b3 hC.2.1 (by have := hC.2.2.1; omega) (by omega) (nI kd) (nI f) x w u) (fun v hp' hq => ?_)
  obtain ⟨hv, q, q0, q1, q2, q3, q4, q5, q6, q7, hR'⟩ := hq
  exact ⟨hv, q, q0, q1, hR', hI.add hR (vt2 hn (Nat.mod_lt _ (by decide))) (by show _ ≤ 22700; omega), NJ_snd hN (TJ.mk' hN hc hf hk hx hw q0 q1 q2 q3 q4 q5 q7)⟩
/-- a thing of a thread -/
theorem s_sendT (h : ST hp M zB tB n clk cc K D ev r j (s + 1) e) (hn : n < 2) (hj : j ≤ RQ M n) (hc : c < cc) (hf : f < 12) {kd : Nat} (hk : kd ≤ 6) (hk2 : kd ≠ 2 ∧ kd ≠ 6) {x w : Int32} (u : Int32) (hx : cOk x) (hw : w = nI (vN w) ∧ vN w ≤ vrs M n f) : WM L xs (d + 2) mX2_send [.ref (xi 0 n 0 0), .int (nI kd), .int (nI c), .int (nI f), .int x, .int w, .int u] hp (fun v hp' => v = none ∧ ∃ k q, k ≠ clk % 9 ∧ ST hp' (snd M n k q) zB tB n clk cc K D ev r j s e) := by
  refine WM.mono (s_sendAny h hn hj hc hf hk u hx hw) (fun v hp' hq => ?_)
  obtain ⟨hv, q, q0, q1, q2, q3, q4⟩ := hq
  have hC := h.2.2.1.2.1 c (by have := h.2.2.1.1.2.1; omega)
  have hne : (clk + D c) % 9 ≠ clk % 9 := by have := hC.2.2.1; omega
  refine ⟨hv, _, q, hne, q2, q3, q4, BJ_snd (BB.ap_th h.2.2.2 (Nat.mod_lt _ (by decide)) hne ?_)⟩
  unfold kdTh
  rw [q1, beq_eq_false_iff_ne.mpr, beq_eq_false_iff_ne.mpr]
  · rfl
  · intro e9; exact hk2.2 ((nI_eq (by omega) (by decide)).mp (show nI kd = nI 6 from e9))
  · intro e9; exact hk2.1 ((nI_eq (by omega) (by decide)).mp (show nI kd = nI 2 from e9))
/-- a CALL -/
theorem s_sendC (h : ST hp M zB tB n clk cc K D ev r j s e) (hn : n < 2) (hj : j ≤ RQ M n) (hc : c < cc) (hf : f < 12) (u : Int32) {e' : Nat → Nat} (he : ∀ c', c' < 4 → e' c' + (if c' = c then 1 else 0) ≤ e c') : WM L xs (d + 2) mX2_send [.ref (xi 0 n 0 0), .int (nI 6), .int (nI c), .int (nI f), .int 0, .int 0, .int u] hp (fun v hp' => v = none ∧ ∃ k q, k ≠ clk % 9 ∧ ST hp' (snd M n k q) zB tB n clk cc K D ev r j s e') := by
  refine WM.mono (s_sendAny h hn hj hc hf (by decide) u (cOk_nI (k := 0) (by decide)) ⟨by decide, Nat.zero_le _⟩) (fun v hp' hq => ?_)
  obtain ⟨hv, q, q0, q1, q2, q3, q4⟩ := hq
  have hc4 : c < 4 := by have := h.2.2.1.1.2.1; omega
  have hC := h.2.2.1.2.1 c hc4
  have hne : (clk + D c) % 9 ≠ clk % 9 := by have := hC.2.2.1; omega
  refine ⟨hv, _, q, hne, q2, q3, q4, BJ_snd (BB.ap_C h.2.2.2 hj hc4 ⟨hC.2.2.1.1, by have := hC.2.2.1.2; omega⟩ ?_ he)⟩
  unfold kdC
  rw [q1, q0, beq_self_eq_true]
  rfl
/-- an ACK, for a CALL that has come -/
theorem s_sendA (h : ST hp M zB tB n clk cc K D ev r j s e) (hn : n < 2) (hj : j ≤ RQ M n) (hc : c < cc) (hf : f < 12) (u : Int32) {q0 : Row} (h0 : (gT M 2 n (clk % 9))[r]? = some q0) (hq0 : kdC c q0 = true) : WM L xs (d + 2) mX2_send [.ref (xi 0 n 0 0), .int (nI 2), .int (nI c), .int (nI f), .int 0, .int 0, .int u] hp (fun v hp' => v = none ∧ ∃ k q, k ≠ clk % 9 ∧ ST hp' (snd M n k q) zB tB n clk cc K D ev (r + 1) j s e) := by
  refine WM.mono (s_sendAny h hn hj hc hf (by decide) u (cOk_nI (k := 0) (by decide)) ⟨by decide, Nat.zero_le _⟩) (fun v hp' hq => ?_)
  obtain ⟨hv, q, q0, q1, q2, q3, q4⟩ := hq
  have hc4 : c < 4 := by have := h.2.2.1.1.2.1; omega
  have hC := h.2.2.1.2.1 c hc4
  have hne : (clk + D c) % 9 ≠ clk % 9 := by have := hC.2.2.1; omega
  refine ⟨hv, _, q, hne, q2, q3, q4, BJ_snd (BB.ap_A h.2.2.2 h0 hq0 ?_ hc4 ⟨hC.2.2.1.1, by have := hC.2.2.1.2; omega⟩)⟩
  unfold kdA
  rw [q1, q0, beq_self_eq_true]
  rfl

end STEPS
