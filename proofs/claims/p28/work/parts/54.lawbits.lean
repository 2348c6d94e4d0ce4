/-! ===== the law: its own arrays, its small methods ===== -/
/-- an array more -/
def nX (M : MS) (n : Nat) : MS := (M.1 + 1, M.2.1 + n, M.2.2.1, M.2.2.2.1, fun i => if i = M.1 + 1 then some (n, fun _ => 0) else M.2.2.2.2 i)
/-- a number is put into one -/
def sX (M : MS) (i k : Nat) (y : Int32) : MS := (M.1, M.2.1, M.2.2.1, M.2.2.2.1, fun j => if j = i then (M.2.2.2.2 j).map (fun q => (q.1, fun l => if l = k then y else q.2 l)) else M.2.2.2.2 j)
theorem gX_nX (M : MS) (n i : Nat) : gX (nX M n) i = if i = mz M + 1 then some (n, fun _ => 0) else gX M i := rfl
theorem gX_sX (M : MS) (i k : Nat) (y : Int32) (j : Nat) : gX (sX M i k y) j = if j = i then (gX M j).map (fun q => (q.1, fun l => if l = k then y else q.2 l)) else gX M j := rfl
theorem Rep.xlt {hp : AH} {M : MS} (h : Rep hp M) {i l : Nat} {f : Nat → Int32} (hx : gX M i = some (l, f)) : 278 ≤ i ∧ i ≤ mz M := by
  obtain ⟨r1, r2, r3, r4, r5, r6, r7, r8, r9, r10, r11, r12, r13⟩ := h
  have := r13 i l f hx
  exact ⟨this.1, by rw [← r2]; exact this.2.1⟩
theorem Rep.newX {hp : AH} {M : MS} (h : Rep hp M) (n : Nat) : Rep (hnew hp 6 n (fun _ => .int 0)) (nX M n) := by
  obtain ⟨r1, r2, r3, ⟨t1, t2, t3⟩, r5, r6, r7, r8, r9, r10, r11, r12, r13⟩ := h
  have hkk : ∀ j, j ≤ hsz hp → hk (hnew hp 6 n (fun _ => .int 0)) j = hk hp j := fun j hj => by rw [hk_new, if_neg (by omega)]
  have hvv : ∀ j k, j ≤ hsz hp → hv (hnew hp 6 n (fun _ => .int 0)) j k = hv hp j k := fun j k hj => by rw [hv_nu, if_neg (by omega)]
  have hxi : ∀ {g n a b k : Nat}, vs g n a b k → xi g n a b ≤ hsz hp := fun hs => by have := (xi_le hs).2; omega
  have hax : ∀ y n' a, vt y n' a → aix (hnew hp 6 n (fun _ => .int 0)) (xt y n' a) = aix hp (xt y n' a) := fun y n' a ht => by
    unfold aix; rw [hvv _ _ (by have := (xt_le ht).2; omega)]
  refine ⟨by rw [hsz_new]; omega, by show hsz hp + 1 = mz M + 1; omega, by show htot hp + n = mt M + n; omega, ⟨by rw [hkk _ (by omega)]; exact t1, by rw [hvv _ _ (by omega)]; exact t2, by rw [hvv _ _ (by omega)]; exact t3⟩, fun n' hn => ?_, fun n' c hn hc => ?_, fun n' c f hn hc hf => ?_, fun n' f hn hf => ?_, fun n' k hn hk => ?_, fun g n' a b k hs => ?_, fun y n' a ht => ?_, fun y n1 a1 y' n2 a2 ht ht' e => ?_, fun i l f hx => ?_⟩
  · obtain ⟨a1, a2, a3, a4, a5, a6, a7⟩ := r5 n' hn
    have b0 := hxi (vs0 hn (k := 0) (by decide))
    have b1 : rC n' ≤ hsz hp ∧ rS n' ≤ hsz hp ∧ rT n' ≤ hsz hp := by simp only [rC, rS, rT]; omega
    exact ⟨by rw [hkk _ b0]; exact a1, by rw [hvv _ _ b0]; exact a2, by rw [hvv _ _ b0]; exact a3, by rw [hvv _ _ b0]; exact a4, by rw [hkk _ b1.1]; exact a5, by rw [hkk _ b1.2.1]; exact a6, by rw [hkk _ b1.2.2]; exact a7⟩
  · obtain ⟨a1, a2, a3, a4, a5, a6, a7⟩ := r6 n' c hn hc
    have b0 := hxi (vs1 hn hc (k := 2) (by decide))
    have b3 := hxi (vs3 hn hc (k := 2) (by decide))
    have b1 : rC n' ≤ hsz hp ∧ rF n' c ≤ hsz hp := by simp only [rC, rF]; omega
    exact ⟨by rw [hvv _ _ b1.1]; exact a1, by rw [hkk _ b0]; exact a2, by rw [hvv _ _ b0]; exact a3, by rw [hvv _ _ b0]; exact a4, by rw [hvv _ _ b0]; exact a5, by rw [hkk _ b1.2]; exact a6, by rw [hkk _ b3]; exact a7⟩
  · obtain ⟨a1, a2⟩ := r7 n' c f hn hc hf
    have b0 := hxi (vs2 hn hc hf (k := 2) (by decide))
    have b1 : rF n' c ≤ hsz hp := by simp only [rF]; omega
    exact ⟨by rw [hvv _ _ b1]; exact a1, by rw [hkk _ b0]; exact a2⟩
  · obtain ⟨a1, a2, a3, a4, a5⟩ := r8 n' f hn hf
    have b0 := hxi (vs4 hn hf (k := 0) (by decide))
    have b3 := hxi (vs5 hn hf (k := 2) (by decide))
    have b1 : rS n' ≤ hsz hp := by simp only [rS]; omega
    exact ⟨by rw [hvv _ _ b1]; exact a1, by rw [hkk _ b0]; exact a2, by rw [hvv _ _ b0]; exact a3, by rw [hvv _ _ b0]; exact a4, by rw [hkk _ b3]; exact a5⟩
  · rw [hvv _ _ (by simp only [rT]; omega)]; exact r9 n' k hn hk
  · rw [hvv _ _ (hxi hs)]; exact r10 g n' a b k hs
  · have ha := (r11 y n' a ht).2.2.2.2.2.1
    have b0 : xt y n' a ≤ hsz hp := by have := (xt_le ht).2; omega
    exact (r11 y n' a ht).frame (by rw [hsz_new]; omega) (hkk _ b0) (fun k => hvv _ k b0) (hkk _ ha) (fun k => hvv _ k ha)
  · rw [hax _ _ _ ht, hax _ _ _ ht'] at e
    exact r12 y n1 a1 y' n2 a2 ht ht' e
  · rw [gX_nX] at hx
    by_cases hi : i = mz M + 1
    · rw [if_pos hi] at hx
      cases hx
      have hi' : i = hsz hp + 1 := by rw [hi, r2]
      refine ⟨by omega, by rw [hsz_new]; omega, by rw [hk_new, if_pos hi'], fun k _ => by rw [hv_nu, if_pos hi'], fun y n' a ht => ?_⟩
      rw [hax _ _ _ ht]
      have := (r11 y n' a ht).2.2.2.2.2.1
      omega
    · rw [if_neg hi] at hx
      obtain ⟨x1, x2, x3, x4, x5⟩ := r13 i l f hx
      exact ⟨x1, by rw [hsz_new]; omega, by rw [hkk _ x2]; exact x3, fun k hk => by rw [hvv _ _ x2]; exact x4 k hk, fun y n' a ht => by rw [hax _ _ _ ht]; exact x5 y n' a ht⟩
theorem Rep.setX {hp : AH} {M : MS} (h : Rep hp M) {i l : Nat} {F : Nat → Int32} (hx : gX M i = some (l, F)) (k : Nat) (v : Int32) : Rep (hset hp i k (.int v)) (sX M i k v) := by
  obtain ⟨r1, r2, r3, ⟨t1, t2, t3⟩, r5, r6, r7, r8, r9, r10, r11, r12, r13⟩ := h
  obtain ⟨x1, x2, x3, x4, x5⟩ := r13 i l F hx
  have hvv : ∀ j k', j ≠ i → hv (hset hp i k (.int v)) j k' = hv hp j k' := fun j k' hj => by rw [hv_set, if_neg (fun q => hj q.1)]
  have hxi : ∀ {g n a b k : Nat}, vs g n a b k → xi g n a b ≠ i := fun hs => by have := (xi_le hs).2; omega
  have hax : ∀ y n' a, vt y n' a → aix (hset hp i k (.int v)) (xt y n' a) = aix hp (xt y n' a) := fun y n' a ht => by
    unfold aix; rw [hvv _ _ (by have := (xt_le ht).2; omega)]
  refine ⟨r1, r2, r3, ⟨t1, by rw [hvv _ _ (by omega)]; exact t2, by rw [hvv _ _ (by omega)]; exact t3⟩, fun n' hn => ?_, fun n' c hn hc => ?_, fun n' c f hn hc hf => ?_, fun n' f hn hf => ?_, fun n' k' hn hk => ?_, fun g n' a b k' hs => ?_, fun y n' a ht => ?_, fun y n1 a1 y' n2 a2 ht ht' e => ?_, fun i' l' f hx' => ?_⟩
  · obtain ⟨a1, a2, a3, a4, a5, a6, a7⟩ := r5 n' hn
    have b0 := hxi (vs0 hn (k := 0) (by decide))
    exact ⟨a1, by rw [hvv _ _ b0]; exact a2, by rw [hvv _ _ b0]; exact a3, by rw [hvv _ _ b0]; exact a4, a5, a6, a7⟩
  · obtain ⟨a1, a2, a3, a4, a5, a6, a7⟩ := r6 n' c hn hc
    have b0 := hxi (vs1 hn hc (k := 2) (by decide))
    have b1 : rC n' ≠ i := by simp only [rC]; omega
    exact ⟨by rw [hvv _ _ b1]; exact a1, a2, by rw [hvv _ _ b0]; exact a3, by rw [hvv _ _ b0]; exact a4, by rw [hvv _ _ b0]; exact a5, a6, a7⟩
  · obtain ⟨a1, a2⟩ := r7 n' c f hn hc hf
    have b1 : rF n' c ≠ i := by simp only [rF]; omega
    exact ⟨by rw [hvv _ _ b1]; exact a1, a2⟩
  · obtain ⟨a1, a2, a3, a4, a5⟩ := r8 n' f hn hf
    have b0 := hxi (vs4 hn hf (k := 0) (by decide))
    have b1 : rS n' ≠ i := by simp only [rS]; omega
    exact ⟨by rw [hvv _ _ b1]; exact a1, a2, by rw [hvv _ _ b0]; exact a3, by rw [hvv _ _ b0]; exact a4, a5⟩
  · rw [hvv _ _ (by simp only [rT]; omega)]; exact r9 n' k' hn hk
  · rw [hvv _ _ (hxi hs)]; exact r10 g n' a b k' hs
  · exact (r11 y n' a ht).set (by have := (xt_le ht).2; omega) (x5 y n' a ht)
  · rw [hax _ _ _ ht, hax _ _ _ ht'] at e
    exact r12 y n1 a1 y' n2 a2 ht ht' e
  · rw [gX_sX] at hx'
    by_cases hi : i' = i
    · rw [if_pos hi, hi, hx] at hx'
      cases hx'
      subst hi
      refine ⟨x1, x2, x3, fun k' hk => ?_, fun y n' a ht => by rw [hax _ _ _ ht]; exact x5 y n' a ht⟩
      rw [hv_set]
      show _ = Value.int (if k' = k then v else F k')
      by_cases hkk : k' = k
      · rw [if_pos ⟨rfl, hkk⟩, if_pos hkk]
      · rw [if_neg (fun q => hkk q.2), if_neg hkk]; exact x4 k' hk
    · rw [if_neg hi] at hx'
      obtain ⟨y1, y2, y3, y4, y5⟩ := r13 i' l' f hx'
      exact ⟨y1, y2, y3, fun k' hk => by rw [hvv _ _ hi]; exact y4 k' hk, fun y n' a ht => by rw [hax _ _ _ ht]; exact y5 y n' a ht⟩
theorem Rep.oX {hp : AH} {M : MS} (h : Rep hp M) {i l : Nat} {F : Nat → Int32} (hx : gX M i = some (l, F)) : okc hp i 6 l ∧ ∀ k, k < l → hv hp i k = .int (F k) := by
  obtain ⟨r1, r2, r3, r4, r5, r6, r7, r8, r9, r10, r11, r12, r13⟩ := h
  obtain ⟨x1, x2, x3, x4, x5⟩ := r13 i l F hx
  exact ⟨⟨by omega, x2, x3⟩, x4⟩
theorem S0.newX {hp : AH} {M : MS} {zB tB clk cc K : Nat} {D : Nat → Nat} {ev : Bool} (h : S0 hp M zB tB clk cc K D ev) (n : Nat) : S0 (hnew hp 6 n (fun _ => .int 0)) (nX M n) (zB + 1) (tB + n) clk cc K D ev :=
  ⟨⟨h.1.1.newX n, ⟨by have := h.1.2.1.1; show mz M + 1 ≤ zB + 1 + SC M; omega, by have := h.1.2.1.2.1; show mt M + n ≤ tB + n + SQ M; omega, h.1.2.1.2.2⟩, h.1.2.2.1, h.1.2.2.2⟩, h.2⟩
theorem S0.setX {hp : AH} {M : MS} {zB tB clk cc K : Nat} {D : Nat → Nat} {ev : Bool} (h : S0 hp M zB tB clk cc K D ev) {i l : Nat} {F : Nat → Int32} (hx : gX M i = some (l, F)) (k : Nat) (v : Int32) : S0 (hset hp i k (.int v)) (sX M i k v) zB tB clk cc K D ev :=
  ⟨⟨h.1.1.setX hx k v, h.1.2.1, h.1.2.2.1, h.1.2.2.2⟩, h.2⟩
section LAWBITS
variable {L : Nat} {xs : Nat → Int32} {d : Nat} {C : MD} {pc : Nat} {ls : LSt} {st : List Value} {hp : AH} {Q : Option Value → AH → Prop} {M : MS}
theorem wx_ld {i l k : Nat} {F : Nat → Int32} {x : Int32} (hd : decode C.2.1 pc = .ok (.iaload, 1)) (hR : Rep hp M) (hx : gX M i = some (l, F)) (he : x = nI k) (hk : k < l) (hl : l < 2 ^ 31) (kk : WP L xs d C (pc + 1) ls (.int (F k) :: st) hp Q) : WP L xs d C pc ls (.int x :: .ref i :: st) hp Q := by
  refine wp_iald hd (hR.oX hx).1 he hk hl ?_
  rw [(hR.oX hx).2 k hk]
  exact kk
theorem wx_st {i l k : Nat} {F : Nat → Int32} {x y : Int32} (hd : decode C.2.1 pc = .ok (.iastore, 1)) (hR : Rep hp M) (hx : gX M i = some (l, F)) (he : x = nI k) (hk : k < l) (hl : l < 2 ^ 31) (kk : WP L xs d C (pc + 1) ls st (hset hp i k (.int y)) Q) : WP L xs d C pc ls (.int y :: .int x :: .ref i :: st) hp Q :=
  wp_iast hd (hR.oX hx).1 he hk hl kk
/-- below -/
def bel (v : Int32) (n : Nat) : Nat := v.toBitVec.toNat % 2 ^ 31 % n
theorem bel_lt (v : Int32) {n : Nat} (h : 0 < n) : bel v n < n := Nat.mod_lt _ h
theorem s_below (v : Int32) {n : Nat} (h : 0 < n) (hn : n < 2 ^ 31) : WM L xs d mL_below [.int v, .int (nI n)] hp (fun r hp' => hp' = hp ∧ r = some (.int (nI (bel v n)))) := by
  refine WM.of [some (.int v), some (.int (nI n))] (by decide) rfl (Nat.le_of_ble_eq_true rfl) ?_
  refine wp_iload_n (i := 0) dL_below_0 rfl rfl ?_
  refine wp_ldc dL_below_1 k_L_7 ?_
  refine wp_iand dL_below_3 ?_
  rw [pk_and v (m := 2147483647) 31 (by decide)]
  refine wp_iload_n (i := 1) dL_below_4 rfl rfl ?_
  refine wp_irem dL_below_5 (nI_ne0 h hn) ?_
  rw [pk_rem (Nat.mod_lt _ (by decide)) h hn]
  refine wp_ret (v := some (.int _)) dL_below_6 rfl ?_
  exact ⟨trivial, rfl, rfl⟩
/-- a number of the script -/
def cel (L : Nat) (xs : Nat → Int32) (k : Nat) : Int32 := if k < L then xs k else 790386105 * (nI k + 3)
theorem s_cell {k : Nat} (hk : k < 100) (hL : L ≤ 260) : WM L xs d mL_cell [.ref 0, .int (nI k)] hp (fun r hp' => hp' = hp ∧ r = some (.int (cel L xs k))) := by
  refine WM.of [some (.ref 0), some (.int (nI k))] (by decide) rfl (Nat.le_of_ble_eq_true rfl) ?_
  refine wp_iload_n (i := 1) dL_cell_0 rfl rfl ?_
  refine wp_aload_n (i := 0) dL_cell_1 rfl rfl ?_
  refine wp_slen dL_cell_2 ?_
  refine wp_icmp_ge (tgt := 12) dL_cell_3 (by decide) (fun c => ?_) (fun c => ?_)
  · refine wp_ldc dL_cell_12 k_L_8 ?_
    refine wp_iload_n (i := 1) dL_cell_14 rfl rfl ?_
    refine wp_iconst (v := 3) dL_cell_15 rfl ?_
    refine wp_iadd dL_cell_16 ?_
    refine wp_imul dL_cell_17 ?_
    refine wp_ret (v := some (.int _)) dL_cell_18 rfl ?_
    refine ⟨trivial, rfl, ?_⟩
    unfold cel
    rw [if_neg (fun q => c (nI_lt q (by omega)))]
  · have hkl : k < L := (nI_ltI (by omega) (by omega)).mp c
    refine wp_aload_n (i := 0) dL_cell_6 rfl rfl ?_
    refine wp_iload_n (i := 1) dL_cell_7 rfl rfl ?_
    refine wp_sld (k := k) dL_cell_8 rfl hkl (by omega) ?_
    refine wp_goto (tgt := 18) dL_cell_9 (by decide) ?_
    refine wp_ret (v := some (.int _)) dL_cell_18 rfl ?_
    refine ⟨trivial, rfl, ?_⟩
    unfold cel
    rw [if_pos hkl]
end LAWBITS
/-! bits of a set -/
theorem or_and1 (p q : Int32) : (p ||| q) &&& 1 = (p &&& 1) ||| (q &&& 1) := by
  apply Int32.toBitVec_inj.mp
  simp only [Int32.toBitVec_and, Int32.toBitVec_or]
  ext i
  simp [Bool.and_or_distrib_right]
theorem bs_pt : ∀ f, f < 12 → ∀ g, g < 12 → (((1 : Int32) <<< (nI f &&& 31)) >>> (nI g &&& 31)) &&& 1 = if g = f then 1 else 0 := by decide +kernel
theorem bs_step (S : Int32) {f g : Nat} (hf : f < 12) (hg : g < 12) : (((S ||| (1 <<< (nI f &&& 31))) >>> (nI g &&& 31)) &&& 1 = 0) ↔ ((S >>> (nI g &&& 31)) &&& 1 = 0 ∧ g ≠ f) := by
  rw [Int32.shiftRight_or, or_and1, bs_pt f hf g hg]
  obtain ⟨j, hj, e⟩ := pk_andE (S >>> (nI g &&& 31)) (m := 1) 1 rfl
  rw [e]
  rcases (show j = 0 ∨ j = 1 by omega) with rfl | rfl
  · by_cases h : g = f
    · rw [if_pos h]; exact ⟨fun q => absurd q (by decide), fun q => absurd h q.2⟩
    · rw [if_neg h]; exact ⟨fun _ => ⟨rfl, h⟩, fun _ => rfl⟩
  · by_cases h : g = f
    · rw [if_pos h]; exact ⟨fun q => absurd q (by decide), fun q => absurd h q.2⟩
    · rw [if_neg h]; exact ⟨fun q => absurd q (by decide), fun q => absurd q.1 (by decide)⟩
/-! what a file tells -/
theorem hT0_lt {M : MS} {n c f : Nat} {x b : Int32} (h : cOk (gV M 2 n c f 1)) : hTell M n c f 0 x b < 0 ↔ gV M 2 n c f 0 = 0 := by
  show (if gV M 2 n c f 0 = 0 then -1 else gV M 2 n c f 1) < 0 ↔ _
  by_cases q : gV M 2 n c f 0 = 0
  · rw [if_pos q]; exact ⟨fun _ => q, fun _ => by decide⟩
  · rw [if_neg q, h.1]; exact ⟨fun z => absurd z (nI_pos (by have := h.2; omega)), fun z => absurd z q⟩
theorem hT1_lt {M : MS} {n c f : Nat} {x b : Int32} (h : gV M 2 n c f 2 = nI (vN (gV M 2 n c f 2))) (h2 : vN (gV M 2 n c f 2) < 2 ^ 31) : hTell M n c f 1 x b < 0 ↔ gV M 2 n c f 0 = 0 := by
  show (if gV M 2 n c f 0 = 0 then -1 else gV M 2 n c f 2) < 0 ↔ _
  by_cases q : gV M 2 n c f 0 = 0
  · rw [if_pos q]; exact ⟨fun _ => q, fun _ => by decide⟩
  · rw [if_neg q, h]; exact ⟨fun z => absurd z (nI_pos h2), fun z => absurd z q⟩
theorem hT1_le {M : MS} {n c f v : Nat} {x b : Int32} (h : gV M 2 n c f 2 = nI (vN (gV M 2 n c f 2))) (h2 : vN (gV M 2 n c f 2) ≤ v) (hv : v < 2 ^ 31) : ¬ nI v < hTell M n c f 1 x b := by
  show ¬ nI v < (if gV M 2 n c f 0 = 0 then -1 else gV M 2 n c f 2)
  by_cases q : gV M 2 n c f 0 = 0
  · rw [if_pos q]
    intro z
    exact absurd (Int32.lt_trans z (show (-1 : Int32) < 0 by decide)) (nI_pos hv)
  · rw [if_neg q, h]; exact nI_nlt h2 hv
theorem hT2_1 {M : MS} {n c f : Nat} {x b : Int32} : hTell M n c f 2 x b = 1 ↔ ¬ gV M 2 n c f 4 = 0 := by
  show (if gV M 2 n c f 4 = 0 then (0 : Int32) else 1) = 1 ↔ _
  by_cases q : gV M 2 n c f 4 = 0
  · rw [if_pos q]; exact ⟨fun z => absurd z (by decide), fun z => absurd q z⟩
  · rw [if_neg q]; exact ⟨fun _ => q, fun _ => rfl⟩
theorem hT2_0 {M : MS} {n c f : Nat} {x b : Int32} : hTell M n c f 2 x b = 0 ↔ gV M 2 n c f 4 = 0 := by
  show (if gV M 2 n c f 4 = 0 then (0 : Int32) else 1) = 0 ↔ _
  by_cases q : gV M 2 n c f 4 = 0
  · rw [if_pos q]; exact ⟨fun _ => q, fun _ => rfl⟩
  · rw [if_neg q]; exact ⟨fun z => absurd z (by decide), fun z => absurd z q⟩
theorem hT3_lt {M : MS} {n c f clk : Nat} {b : Int32} (hb : clk < 2 ^ 31) : hTell M n c f 3 (nI clk) b < 0 ↔ ¬ (¬ gV M 2 n c f 0 = 0 ∧ nI clk < gV M 2 n c f 3) := by
  show (if gV M 2 n c f 0 = 0 then -1 else if nI clk < gV M 2 n c f 3 then gV M 2 n c f 3 else -1) < 0 ↔ _
  by_cases q : gV M 2 n c f 0 = 0
  · rw [if_pos q]; exact ⟨fun _ z => z.1 q, fun _ => by decide⟩
  · rw [if_neg q]
    by_cases r : nI clk < gV M 2 n c f 3
    · rw [if_pos r]; exact ⟨fun z => absurd (Int32.lt_trans r z) (nI_pos hb), fun z => absurd ⟨q, r⟩ z⟩
    · rw [if_neg r]; exact ⟨fun _ z => r z.2, fun _ => by decide⟩
theorem hT3_n {M : MS} {n c f : Nat} {x b : Int32} (h : gV M 2 n c f 0 = 0) : hTell M n c f 3 x b = -1 := if_pos h
theorem hT4_1 {M : MS} {n c f : Nat} {x b : Int32} : hTell M n c f 4 x b = 1 ↔ tru M n c f x b := by
  show bI (tru M n c f x b) = 1 ↔ _
  by_cases q : tru M n c f x b
  · rw [bI_t q]; exact ⟨fun _ => q, fun _ => rfl⟩
  · rw [bI_f q]; exact ⟨fun z => absurd z (by decide), fun z => absurd z q⟩
theorem hT4_0 {M : MS} {n c f : Nat} {x b : Int32} : hTell M n c f 4 x b = 0 ↔ ¬ tru M n c f x b := bI_eq
theorem hT5_0 {M : MS} {n c f : Nat} {x b : Int32} (h : gV M 2 n c f 6 = 0 ∧ gV M 2 n c f 7 = 0) : hTell M n c f 5 x b = 0 := by
  show (if gV M 2 n c f 6 = 0 then (0 : Int32) else 1) + (if gV M 2 n c f 7 = 0 then 0 else 2) = 0
  rw [if_pos h.1, if_pos h.2]; rfl
theorem cT6_1 {M : MS} {n c : Nat} : cTell M n c 6 = 1 ↔ ¬ gV M 1 n c 0 6 = 0 := by
  show (if gV M 1 n c 0 6 = 0 then (0 : Int32) else 1) = 1 ↔ _
  by_cases q : gV M 1 n c 0 6 = 0
  · rw [if_pos q]; exact ⟨fun z => absurd z (by decide), fun z => absurd q z⟩
  · rw [if_neg q]; exact ⟨fun _ => q, fun _ => rfl⟩
/-- how many of them it has -/
theorem cnt_len {l : List Nat} {n : Nat} (h1 : l.Nodup) (h2 : ∀ f, f ∈ l → f < n) : sN n (fun g => if g ∈ l then 1 else 0) = l.length := by
  induction l with
  | nil => exact sN_zero (fun i _ => if_neg (fun q => by cases q))
  | cons a l ih =>
    have hn := List.nodup_cons.mp h1
    have hu := sN_upd (k := n) (i := a) (f := fun g => if g ∈ l then 1 else 0) (g := fun g => if g ∈ a :: l then 1 else 0) (h2 a List.mem_cons_self) (fun j _ hj => by
      by_cases q : j ∈ l
      · show (if j ∈ a :: l then 1 else 0) = (if j ∈ l then 1 else 0)
        rw [if_pos q, if_pos (List.mem_cons_of_mem _ q)]
      · show (if j ∈ a :: l then 1 else 0) = (if j ∈ l then 1 else 0)
        rw [if_neg q, if_neg (fun z => (List.mem_cons.mp z).elim hj q)])
    have e1 : (if a ∈ l then 1 else 0) = 0 := if_neg hn.1
    have e2 : (if a ∈ a :: l then 1 else 0) = 1 := if_pos List.mem_cons_self
    have i9 := ih hn.2 (fun f hf => h2 f (List.mem_cons_of_mem _ hf))
    rw [List.length_cons]
    have hu' : sN n (fun g => if g ∈ a :: l then 1 else 0) + (if a ∈ l then 1 else 0) = sN n (fun g => if g ∈ l then 1 else 0) + (if a ∈ a :: l then 1 else 0) := hu
    omega
