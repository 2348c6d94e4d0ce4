/-! ===== the law: its own numbers ===== -/
theorem Tr.of {M M' : MS} {T cc t t' : Nat} {h m : Nat → Nat} {F : Nat → Int32} (hT : Tr M T cc t h m F) (h7 : ∀ c, c < cc → gV M' 1 0 c 0 7 = gV M 1 0 c 0 7 ∧ gV M' 1 0 c 0 8 = gV M 1 0 c 0 8) (hx : gX M' T = gX M T) (ht : t ≤ t') : Tr M' T cc t' h m F :=
  ⟨fun c hc => by obtain ⟨a1, a2, a3, a4⟩ := hT.1 c hc; exact ⟨by rw [(h7 c hc).1]; exact a1, by rw [(h7 c hc).2]; exact a2, by omega, a4⟩, by rw [hx]; exact hT.2⟩
theorem Tr.fr {M M' : MS} {T cc t : Nat} {h m : Nat → Nat} {F : Nat → Int32} (hT : Tr M T cc t h m F) (h4 : cc ≤ 4) (hF : FR M M' 0) : Tr M' T cc (t + 1) h m F :=
  hT.of (fun c hc => ⟨(hF.2.1 c (by omega)).1, (hF.2.1 c (by omega)).2.1⟩) (hF.1.2.2 T) (by omega)
theorem Tr.tk {M M' : MS} {T cc t : Nat} {h m : Nat → Nat} {F : Nat → Int32} (hT : Tr M T cc t h m F) (h4 : cc ≤ 4) (hF : TK M M') : Tr M' T cc (t + 1) h m F :=
  hT.of (fun c hc => hF.1 c (by omega)) ((hF.2 T _ hT.2).trans hT.2.symm) (by omega)
theorem Tr.k0 {M M' : MS} {T cc t : Nat} {h m : Nat → Nat} {F : Nat → Int32} (hT : Tr M T cc t h m F) (hK : K0 M M') : Tr M' T cc t h m F :=
  hT.of (fun c _ => ⟨hK.1 1 c 0 7, hK.1 1 c 0 8⟩) (hK.2.2 T) (Nat.le_refl _)
/-- a try more -/
theorem Tr.rch {M M2 : MS} {T cc t clk c f : Nat} {h m : Nat → Nat} {F : Nat → Int32} {v : Option Value} (hT : Tr M T cc t h m F) (hc : c < cc) (hr : Rch (sX M T c (F c + 1)) M2 0 clk c f v) : ∃ h' m' F', Tr M2 T cc (t + 1) h' m' F' := by
  obtain ⟨g0, -, ho, hr⟩ := hr
  obtain ⟨a1, a2, a3, a4⟩ := hT.1 c hc
  have hx : gX M2 T = some (cc, fun l => if l = c then F c + 1 else F l) := by rw [g0.2.2, gX_sX, if_pos rfl, hT.2]; rfl
  have ho' : ∀ c', c' ≠ c → gV M2 1 0 c' 0 7 = gV M 1 0 c' 0 7 ∧ gV M2 1 0 c' 0 8 = gV M 1 0 c' 0 8 := ho
  have eF : F c + 1 = nI (h c + m c + 1) := by rw [a4, nI_1]
  rcases hr with ⟨-, -, r7, r8, -⟩ | ⟨-, -, r7, r8⟩
  · have r7 : gV M2 1 0 c 0 7 = gV M 1 0 c 0 7 + 1 := r7
    have r8 : gV M2 1 0 c 0 8 = gV M 1 0 c 0 8 := r8
    refine ⟨fun c' => if c' = c then h c + 1 else h c', m, _, fun c' hc' => ?_, hx⟩
    by_cases e : c' = c
    · subst e
      show _ = nI (if c' = c' then _ else _) ∧ _ ∧ (if c' = c' then _ else _) + _ ≤ _ ∧ (if c' = c' then _ else _) = nI ((if c' = c' then _ else _) + _)
      rw [if_pos rfl, if_pos rfl]
      exact ⟨by rw [r7, a1, nI_1], by rw [r8]; exact a2, by omega, by rw [eF, show h c' + 1 + m c' = h c' + m c' + 1 by omega]⟩
    · obtain ⟨y1, y2, y3, y4⟩ := hT.1 c' hc'
      show _ = nI (if c' = c then _ else _) ∧ _ ∧ (if c' = c then _ else _) + _ ≤ _ ∧ (if c' = c then _ else _) = nI ((if c' = c then _ else _) + _)
      rw [if_neg e, if_neg e]
      exact ⟨by rw [(ho' c' e).1]; exact y1, by rw [(ho' c' e).2]; exact y2, by omega, y4⟩
  · have r7 : gV M2 1 0 c 0 7 = gV M 1 0 c 0 7 := r7
    have r8 : gV M2 1 0 c 0 8 = gV M 1 0 c 0 8 + 1 := r8
    refine ⟨h, fun c' => if c' = c then m c + 1 else m c', _, fun c' hc' => ?_, hx⟩
    by_cases e : c' = c
    · subst e
      show _ ∧ _ = nI (if c' = c' then _ else _) ∧ _ + (if c' = c' then _ else _) ≤ _ ∧ (if c' = c' then _ else _) = nI (_ + (if c' = c' then _ else _))
      rw [if_pos rfl, if_pos rfl]
      exact ⟨by rw [r7]; exact a1, by rw [r8, a2, nI_1], by omega, by rw [eF, show h c' + (m c' + 1) = h c' + m c' + 1 by omega]⟩
    · obtain ⟨y1, y2, y3, y4⟩ := hT.1 c' hc'
      show _ ∧ _ = nI (if c' = c then _ else _) ∧ _ + (if c' = c then _ else _) ≤ _ ∧ (if c' = c then _ else _) = nI (_ + (if c' = c then _ else _))
      rw [if_neg e, if_neg e]
      exact ⟨by rw [(ho' c' e).1]; exact y1, by rw [(ho' c' e).2]; exact y2, by omega, y4⟩
/-- what holds at the loop's head, behind t times -/
def LI (hp : AH) (M : MS) (T cc t : Nat) (e : Int32) : Prop := ∃ (zB tB clk K : Nat) (D : Nat → Nat) (ev : Bool) (nh nm : Nat → Nat) (F : Nat → Int32), S0 hp M zB tB clk cc K D ev ∧ 2 ≤ cc ∧ clk ≤ 6 * t ∧ K ≤ t ∧ zB ≤ 1 + 12 * t ∧ tB ≤ 4 + 144 * t ∧ e = (if ev then 1 else 0) ∧ Tr M T cc t nh nm F
theorem mPut_V {M : MS} {n c f : Nat} {x t : Int32} {g n' a b k : Nat} (h : ¬ (g = 2 ∧ n' = n ∧ a = c ∧ b = f ∧ (k = 1 ∨ k = 4 ∨ k = 5))) : gV (mPut M n c f x t) g n' a b k = gV M g n' a b k := by
  unfold mPut
  split
  · rw [sV_ne (by omega), sV_ne (by omega), sV_ne (by omega)]
  · rw [sV_ne (by omega)]
theorem mPut_1 {M : MS} {n c f : Nat} {x t : Int32} : gV (mPut M n c f x t) 2 n c f 1 = x := by
  unfold mPut
  split
  · rw [sV_ne (by omega), sV_ne (by omega), sV_self]
  · rw [sV_self]
theorem mPut_4 {M : MS} {n c f : Nat} {x t : Int32} : ¬ gV (mPut M n c f x t) 2 n c f 4 = 0 := by
  unfold mPut
  split
  · rw [sV_ne (by omega), sV_self]; decide
  · next h => rw [sV_ne (by omega)]; exact h
theorem mPut_X {M : MS} {n c f : Nat} {x t : Int32} (i : Nat) : gX (mPut M n c f x t) i = gX M i := by
  unfold mPut
  split <;> rfl
section LAW4
variable {L : Nat} {xs : Nat → Int32} {d : Nat} {hp : AH} {M : MS} {zB tB clk cc K T t c f : Nat} {D : Nat → Nat} {ev : Bool} {Q : Option Value → AH → Prop} {nh nm : Nat → Nat} {F : Nat → Int32} {e X tI : Int32} {l9 l10 l11 l12 : Option Value}
/-- read -/
theorem w_lw_212 (h : S0 hp M zB tB clk cc K D ev) (hc2 : 2 ≤ cc) (hclk : clk ≤ 6 * t) (hK : K ≤ t) (hzB : zB ≤ 1 + 12 * t) (htB : tB ≤ 4 + 144 * t) (he : e = (if ev then 1 else 0)) (hT : Tr M T cc t nh nm F) (ht : t < 48) (hc : c < cc) (hf : f < 12) (htI : tI = bI (tru M 0 c f (nI clk) (gV M 1 0 c 0 6))) (k5 : ∀ (hp : AH) (M : MS) (e : Int32), LI hp M T cc (t + 1) e → WP L xs (d + 9) mL_law 523 [some (.ref 0), some (.ref 1), some (.int (nI cc)), some (.ref T), some (.int (e)), some (.int (nI t)), some (.int X), some (.int (nI c)), some (.int (nI f)), some (.int tI), l10, l11, l12] [] hp Q) : WP L xs (d + 9) mL_law 212 [some (.ref 0), some (.ref 1), some (.int (nI cc)), some (.ref T), some (.int (e)), some (.int (nI t)), some (.int X), some (.int (nI c)), some (.int (nI f)), some (.int tI), l10, l11, l12] [] hp Q := by
  have hR := h.1.1
  obtain ⟨b1, b2, b3, b4, b5⟩ := h.1.2.2.1.1
  have hc4 : c < 4 := by omega
  refine wp_aload_n (i := 3) dL_law_212 rfl rfl ?_
  refine wp_iload dL_law_213 rfl ?_
  refine wp_dup2 dL_law_215 rfl rfl ?_
  refine wx_ld (k := c) dL_law_216 hR hT.2 rfl hc (by omega) ?_
  refine wp_iconst (v := 1) dL_law_217 rfl ?_
  refine wp_iadd dL_law_218 ?_
  refine wx_st (k := c) dL_law_219 hR hT.2 rfl hc (by omega) ?_
  have h1 := h.setX hT.2 c (F c + 1)
  have hR1 := h1.1.1
  refine wp_aload_n (i := 1) dL_law_220 rfl rfl ?_
  refine wp_iload dL_law_221 rfl ?_
  refine wp_iload dL_law_223 rfl ?_
  refine wp_callV (N := mX5_read) (as := [.int (nI c), .int (nI f)]) dL_law_225 l_L_29 v_X5_read rfl hR1.top.1 rfl (Nat.le_of_ble_eq_true rfl) (s_read h1 hc hf) (fun v hp9 hq => ?_)
  obtain ⟨M2, vv, h2, hr, ⟨ht1, rfl⟩ | ⟨ht1, rfl⟩⟩ := hq
  · skip
    have e1 : tI = 1 := by rw [htI]; exact bI_t ht1
    have hR2 := h2.1.1
    obtain ⟨nh', nm', F', hT2⟩ := hT.rch hc hr
    obtain ⟨hk2, hu2⟩ : (∀ f' k, gV M2 2 0 c f' k = gV M 2 0 c f' k) ∧ gV M2 3 0 c 0 0 = nI f := by
      rcases hr.2.2.2 with ⟨-, -, -, -, y1, y2⟩ | ⟨z, -⟩
      · exact ⟨y1, y2⟩
      · exact absurd ht1 z
    have hd2 : ¬ gV M2 2 0 c f 0 = 0 := by rw [hk2]; exact ht1.1
    have hcont : hTell M2 0 c f 0 (nI clk) (gV M2 1 0 c 0 6) = gV M2 2 0 c f 1 := if_neg hd2
    obtain ⟨⟨l, hI⟩, -⟩ := h2.1.2.2.1.2.1 c hc4
    have hpos : 0 < l.length := List.length_pos_of_mem ((hI.2.2.2.1 f hf).mp hd2)
    refine wp_iload dL_law_228 rfl ?_
    refine wp_if_eq (tgt := 245) dL_law_230 (by decide) (fun c230 => ?_) (fun c230 => ?_)
    · skip
      exact absurd (e1.symm.trans c230) (by decide)
    · skip
      refine wp_aload_n (i := 1) dL_law_233 rfl rfl ?_
      refine wp_iload dL_law_234 rfl ?_
      refine wp_iload dL_law_236 rfl ?_
      refine wp_iconst (v := 0) dL_law_238 rfl ?_
      refine wp_callV (N := mX5_has) (as := [.int (nI c), .int (nI f), .int (nI 0)]) dL_law_239 l_L_25 v_X5_has rfl hR2.top.1 rfl (Nat.le_of_ble_eq_true rfl) (s_has h2 hc hf (p := 0) (by decide)) (fun v hp9 hq => ?_)
      obtain ⟨rfl, rfl⟩ := hq
      refine wp_goto (tgt := 246) dL_law_242 (by decide) ?_
      refine wp_icmp_ne (tgt := 266) dL_law_246 (by decide) (fun c246 => ?_) (fun c246 => ?_)
      · skip
        exact absurd hcont.symm c246
      · skip
        refine wp_iload dL_law_249 rfl ?_
        refine wp_if_eq (tgt := 523) dL_law_251 (by decide) (fun c251 => ?_) (fun c251 => ?_)
        · skip
          exact absurd (e1.symm.trans c251) (by decide)
        · skip
          refine wp_aload_n (i := 1) dL_law_254 rfl rfl ?_
          refine wp_iload dL_law_255 rfl ?_
          refine wp_iconst (v := 0) dL_law_257 rfl ?_
          refine wp_callV (N := mX5_used) (as := [.int (nI c), .int (nI 0)]) dL_law_258 l_L_32 v_X5_used rfl hR2.top.1 rfl (Nat.le_of_ble_eq_true rfl) (s_used h2 hc hI.1.1 hpos hI.1.2.1) (fun v hp9 hq => ?_)
          obtain ⟨rfl, rfl⟩ := hq
          refine wp_iload dL_law_261 rfl ?_
          refine wp_icmp_eq (tgt := 523) dL_law_263 (by decide) (fun c263 => ?_) (fun c263 => ?_)
          · skip
            exact k5 _ M2 e ⟨_, _, _, K, D, ev, nh', nm', F', h2, hc2, by omega, by omega, by omega, by omega, he, hT2⟩
          · skip
            exact absurd hu2 c263
  · skip
    have e0 : tI = 0 := by rw [htI]; exact bI_f ht1
    have hR2 := h2.1.1
    obtain ⟨nh', nm', F', hT2⟩ := hT.rch hc hr
    refine wp_iload dL_law_228 rfl ?_
    refine wp_if_eq (tgt := 245) dL_law_230 (by decide) (fun c230 => ?_) (fun c230 => ?_)
    · skip
      refine wp_iconst (v := (-1)) dL_law_245 rfl ?_
      refine wp_icmp_ne (tgt := 266) dL_law_246 (by decide) (fun c246 => ?_) (fun c246 => ?_)
      · skip
        exact absurd rfl c246
      · skip
        refine wp_iload dL_law_249 rfl ?_
        refine wp_if_eq (tgt := 523) dL_law_251 (by decide) (fun c251 => ?_) (fun c251 => ?_)
        · skip
          exact k5 _ M2 e ⟨_, _, _, K, D, ev, nh', nm', F', h2, hc2, by omega, by omega, by omega, by omega, he, hT2⟩
        · skip
          exact absurd e0 c251
    · skip
      exact absurd e0 c230
/-- write -/
theorem w_lw_268 (h : S0 hp M zB tB clk cc K D ev) (hc2 : 2 ≤ cc) (hclk : clk ≤ 6 * t) (hK : K ≤ t) (hzB : zB ≤ 1 + 12 * t) (htB : tB ≤ 4 + 144 * t) (he : e = (if ev then 1 else 0)) (hT : Tr M T cc t nh nm F) (ht : t < 48) (hc : c < cc) (hf : f < 12) (htI : tI = bI (tru M 0 c f (nI clk) (gV M 1 0 c 0 6))) (k5 : ∀ (hp : AH) (M : MS) (e : Int32), LI hp M T cc (t + 1) e → WP L xs (d + 9) mL_law 523 [some (.ref 0), some (.ref 1), some (.int (nI cc)), some (.ref T), some (.int (e)), some (.int (nI t)), some (.int X), some (.int (nI c)), some (.int (nI f)), some (.int tI), l10, l11, l12] [] hp Q) : WP L xs (d + 9) mL_law 268 [some (.ref 0), some (.ref 1), some (.int (nI cc)), some (.ref T), some (.int (e)), some (.int (nI t)), some (.int X), some (.int (nI c)), some (.int (nI f)), some (.int tI), l10, l11, l12] [] hp Q := by
  have hR := h.1.1
  obtain ⟨b1, b2, b3, b4, b5⟩ := h.1.2.2.1.1
  have hc4 : c < 4 := by omega
  refine wp_aload_n (i := 3) dL_law_268 rfl rfl ?_
  refine wp_iload dL_law_269 rfl ?_
  refine wp_dup2 dL_law_271 rfl rfl ?_
  refine wx_ld (k := c) dL_law_272 hR hT.2 rfl hc (by omega) ?_
  refine wp_iconst (v := 1) dL_law_273 rfl ?_
  refine wp_iadd dL_law_274 ?_
  refine wx_st (k := c) dL_law_275 hR hT.2 rfl hc (by omega) ?_
  have h1 := h.setX hT.2 c (F c + 1)
  have hR1 := h1.1.1
  refine wp_aload_n (i := 1) dL_law_276 rfl rfl ?_
  refine wp_iload dL_law_277 rfl ?_
  refine wp_iload dL_law_279 rfl ?_
  refine wp_iload dL_law_281 rfl ?_
  refine wp_iconst (v := 4) dL_law_283 rfl ?_
  refine wp_ishr dL_law_284 ?_
  refine wp_bipush (v := nI 100) dL_law_285 (by decide) ?_
  refine wp_callS (N := mL_below) (as := [.int _, .int (nI 100)]) dL_law_287 l_L_18 v_L_below rfl rfl (Nat.le_of_ble_eq_true rfl) (s_below _ (n := 100) (by decide) (by decide)) (fun v hp9 hq => ?_)
  obtain ⟨rfl, rfl⟩ := hq
  refine wp_callV (N := mX5_write) (as := [.int (nI c), .int (nI f), .int (nI (bel (X >>> (4 &&& 31)) 100))]) dL_law_290 l_L_35 v_X5_write rfl hR1.top.1 rfl (Nat.le_of_ble_eq_true rfl) (s_write h1 hc hf (by have := bel_lt (X >>> (4 &&& 31)) (n := 100) (by decide); omega)) (fun v hp9 hq => ?_)
  obtain ⟨M9, vv, hr, ⟨ht1, rfl, tt, h2⟩ | ⟨ht1, rfl, hp8, h2, rfl⟩⟩ := hq
  · skip
    have e1 : tI = 1 := by rw [htI]; exact bI_t ht1
    have hR2 := h2.1.1
    obtain ⟨nh', nm', F', hT9⟩ := hT.rch hc hr
    have hT2 : Tr (mPut M9 0 c f (nI (bel (X >>> (4 &&& 31)) 100)) tt) T cc (t + 1) nh' nm' F' := hT9.of (fun c' _ => ⟨mPut_V (by omega), mPut_V (by omega)⟩) (mPut_X T) (Nat.le_refl _)
    have hk2 : ∀ f' k, gV M9 2 0 c f' k = gV M 2 0 c f' k := by
      rcases hr.2.2.2 with ⟨-, -, -, -, y1, y2⟩ | ⟨z, -⟩
      · exact y1
      · exact absurd ht1 z
    have hcont : hTell (mPut M9 0 c f (nI (bel (X >>> (4 &&& 31)) 100)) tt) 0 c f 0 (nI clk) (gV (mPut M9 0 c f (nI (bel (X >>> (4 &&& 31)) 100)) tt) 1 0 c 0 6) = nI (bel (X >>> (4 &&& 31)) 100) := by
      show (if _ then _ else _) = _
      rw [if_neg (by rw [mPut_V (by omega), hk2]; exact ht1.1), mPut_1]
    refine wp_iload dL_law_293 rfl ?_
    refine wp_icmp_ne (tgt := 337) dL_law_295 (by decide) (fun c295 => ?_) (fun c295 => ?_)
    · skip
      exact absurd e1.symm c295
    · skip
      refine wp_iload dL_law_298 rfl ?_
      refine wp_if_eq (tgt := 523) dL_law_300 (by decide) (fun c300 => ?_) (fun c300 => ?_)
      · skip
        exact absurd (e1.symm.trans c300) (by decide)
      · skip
        refine wp_aload_n (i := 1) dL_law_303 rfl rfl ?_
        refine wp_iload dL_law_304 rfl ?_
        refine wp_iload dL_law_306 rfl ?_
        refine wp_iconst (v := 0) dL_law_308 rfl ?_
        refine wp_callV (N := mX5_has) (as := [.int (nI c), .int (nI f), .int (nI 0)]) dL_law_309 l_L_25 v_X5_has rfl hR2.top.1 rfl (Nat.le_of_ble_eq_true rfl) (s_has h2 hc hf (p := 0) (by decide)) (fun v hp9 hq => ?_)
        obtain ⟨rfl, rfl⟩ := hq
        refine wp_iload dL_law_312 rfl ?_
        refine wp_iconst (v := 4) dL_law_314 rfl ?_
        refine wp_ishr dL_law_315 ?_
        refine wp_bipush (v := nI 100) dL_law_316 (by decide) ?_
        refine wp_callS (N := mL_below) (as := [.int _, .int (nI 100)]) dL_law_318 l_L_18 v_L_below rfl rfl (Nat.le_of_ble_eq_true rfl) (s_below _ (n := 100) (by decide) (by decide)) (fun v hp9 hq => ?_)
        obtain ⟨rfl, rfl⟩ := hq
        refine wp_icmp_ne (tgt := 337) dL_law_321 (by decide) (fun c321 => ?_) (fun c321 => ?_)
        · skip
          exact absurd hcont c321
        · skip
          refine wp_aload_n (i := 1) dL_law_324 rfl rfl ?_
          refine wp_iload dL_law_325 rfl ?_
          refine wp_iload dL_law_327 rfl ?_
          refine wp_iconst (v := 2) dL_law_329 rfl ?_
          refine wp_callV (N := mX5_has) (as := [.int (nI c), .int (nI f), .int (nI 2)]) dL_law_330 l_L_25 v_X5_has rfl hR2.top.1 rfl (Nat.le_of_ble_eq_true rfl) (s_has h2 hc hf (p := 2) (by decide)) (fun v hp9 hq => ?_)
          obtain ⟨rfl, rfl⟩ := hq
          refine wp_iconst (v := 1) dL_law_333 rfl ?_
          refine wp_icmp_eq (tgt := 523) dL_law_334 (by decide) (fun c334 => ?_) (fun c334 => ?_)
          · skip
            exact k5 _ _ e ⟨_, _, _, K, D, ev, nh', nm', F', h2, hc2, by omega, by omega, by omega, by omega, he, hT2⟩
          · skip
            exact absurd (hT2_1.mpr mPut_4) c334
  · skip
    have e0 : tI = 0 := by rw [htI]; exact bI_f ht1
    have hR2 := h2.1.1
    obtain ⟨nh', nm', F', hT2⟩ := hT.rch hc hr
    refine wp_iload dL_law_293 rfl ?_
    refine wp_icmp_ne (tgt := 337) dL_law_295 (by decide) (fun c295 => ?_) (fun c295 => ?_)
    · skip
      exact absurd e0.symm c295
    · skip
      refine wp_iload dL_law_298 rfl ?_
      refine wp_if_eq (tgt := 523) dL_law_300 (by decide) (fun c300 => ?_) (fun c300 => ?_)
      · skip
        exact k5 _ _ e ⟨_, _, _, K, D, ev, nh', nm', F', h2, hc2, by omega, by omega, by omega, by omega, he, hT2⟩
      · skip
        exact absurd e0 c300
/-- cut -/
theorem w_lw_339 (h : S0 hp M zB tB clk cc K D ev) (hc2 : 2 ≤ cc) (hclk : clk ≤ 6 * t) (hK : K ≤ t) (hzB : zB ≤ 1 + 12 * t) (htB : tB ≤ 4 + 144 * t) (he : e = (if ev then 1 else 0)) (hT : Tr M T cc t nh nm F) (ht : t < 48) (hc : c < cc) (hf : f < 12)  (k5 : ∀ (hp : AH) (M : MS) (e : Int32), LI hp M T cc (t + 1) e → WP L xs (d + 9) mL_law 523 [some (.ref 0), some (.ref 1), some (.int (nI cc)), some (.ref T), some (.int (e)), some (.int (nI t)), some (.int X), some (.int (nI c)), some (.int (nI f)), l9, l10, l11, l12] [] hp Q) : WP L xs (d + 9) mL_law 339 [some (.ref 0), some (.ref 1), some (.int (nI cc)), some (.ref T), some (.int (e)), some (.int (nI t)), some (.int X), some (.int (nI c)), some (.int (nI f)), l9, l10, l11, l12] [] hp Q := by
  have hR := h.1.1
  obtain ⟨b1, b2, b3, b4, b5⟩ := h.1.2.2.1.1
  have hc4 : c < 4 := by omega
  refine wp_iload dL_law_339 rfl ?_
  refine wp_iload dL_law_341 rfl ?_
  refine wp_bipush (v := nI 7) dL_law_343 (by decide) ?_
  refine wp_ishr dL_law_345 ?_
  refine wp_iconst (v := 3) dL_law_346 rfl ?_
  refine wp_callS (N := mL_below) (as := [.int _, .int (nI 3)]) dL_law_347 l_L_18 v_L_below rfl rfl (Nat.le_of_ble_eq_true rfl) (s_below _ (n := 3) (by decide) (by decide)) (fun v hp9 hq => ?_)
  obtain ⟨rfl, rfl⟩ := hq
  refine wp_if_ne (tgt := 357) dL_law_350 (by decide) (fun c350 => ?_) (fun c350 => ?_)
  · skip
    refine wp_iconst (v := 0) dL_law_357 rfl ?_
    refine wp_ior dL_law_358 ?_
    rw [Int32.or_zero]
    refine wp_istore dL_law_359 (Nat.le_of_ble_eq_true rfl) ?_
    refine wp_aload_n (i := 1) dL_law_361 rfl rfl ?_
    refine wp_iload dL_law_362 rfl ?_
    refine wp_iload dL_law_364 rfl ?_
    refine wp_bipush (v := nI 7) dL_law_366 (by decide) ?_
    refine wp_ishr dL_law_368 ?_
    refine wp_iconst (v := 3) dL_law_369 rfl ?_
    refine wp_callS (N := mL_below) (as := [.int _, .int (nI 3)]) dL_law_370 l_L_18 v_L_below rfl rfl (Nat.le_of_ble_eq_true rfl) (s_below _ (n := 3) (by decide) (by decide)) (fun v hp9 hq => ?_)
    obtain ⟨rfl, rfl⟩ := hq
    refine wp_if_ne (tgt := 380) dL_law_373 (by decide) (fun c373 => ?_) (fun c373 => ?_)
    · skip
      refine wp_iconst (v := 0) dL_law_380 rfl ?_
      refine wp_callV (N := mX5_cut) (as := [.int (nI c), .int 0]) dL_law_381 l_L_39 v_X5_cut rfl hR.top.1 rfl (Nat.le_of_ble_eq_true rfl) (s_cut0 h hc) (fun v hp9 hq => ?_)
      obtain ⟨M2, h2, hF2, h62, m, rfl, hm, hml⟩ := hq
      have hR2 := h2.1.1
      have hT2 := hT.fr b2 hF2
      obtain ⟨⟨l, hI⟩, -⟩ := h2.1.2.2.1.2.1 c hc4
      refine wp_aload_n (i := 1) dL_law_384 rfl rfl ?_
      refine wp_iload dL_law_385 rfl ?_
      refine wp_iconst (v := 0) dL_law_387 rfl ?_
      refine wp_callV (N := mX5_told) (as := [.int (nI c), .int (nI 0)]) dL_law_388 l_L_43 v_X5_told rfl hR2.top.1 rfl (Nat.le_of_ble_eq_true rfl) (s_told h2 hc (p := 0) (by decide)) (fun v hp9 hq => ?_)
      obtain ⟨rfl, rfl⟩ := hq
      refine wp_icmp_gt (tgt := 422) dL_law_391 (by decide) (fun c391 => ?_) (fun c391 => ?_)
      · skip
        have c9 : gV M2 1 0 c 0 2 < nI m := c391
        rw [hI.1.1] at c9
        exact absurd c9 (nI_nlt (hml l hI) (by have := hI.1.2.1; omega))
      · skip
        refine wp_aload_n (i := 1) dL_law_394 rfl rfl ?_
        refine wp_iload dL_law_395 rfl ?_
        refine wp_bipush (v := nI 6) dL_law_397 (by decide) ?_
        refine wp_callV (N := mX5_told) (as := [.int (nI c), .int (nI 6)]) dL_law_399 l_L_43 v_X5_told rfl hR2.top.1 rfl (Nat.le_of_ble_eq_true rfl) (s_told h2 hc (p := 6) (by decide)) (fun v hp9 hq => ?_)
        obtain ⟨rfl, rfl⟩ := hq
        refine wp_iload dL_law_402 rfl ?_
        refine wp_bipush (v := nI 7) dL_law_404 (by decide) ?_
        refine wp_ishr dL_law_406 ?_
        refine wp_iconst (v := 3) dL_law_407 rfl ?_
        refine wp_callS (N := mL_below) (as := [.int _, .int (nI 3)]) dL_law_408 l_L_18 v_L_below rfl rfl (Nat.le_of_ble_eq_true rfl) (s_below _ (n := 3) (by decide) (by decide)) (fun v hp9 hq => ?_)
        obtain ⟨rfl, rfl⟩ := hq
        refine wp_if_ne (tgt := 418) dL_law_411 (by decide) (fun c411 => ?_) (fun c411 => ?_)
        · skip
          refine wp_iconst (v := 0) dL_law_418 rfl ?_
          refine wp_icmp_eq (tgt := 523) dL_law_419 (by decide) (fun c419 => ?_) (fun c419 => ?_)
          · skip
            exact k5 _ M2 e ⟨_, _, _, K, D, ev, nh, nm, F, h2, hc2, by omega, by omega, by omega, by omega, he, hT2⟩
          · skip
            exact absurd (show cTell M2 0 c 6 = 0 from if_pos h62) c419
        · skip
          exact absurd c411 c350
    · skip
      exact absurd c373 c350
  · skip
    refine wp_iconst (v := 1) dL_law_353 rfl ?_
    refine wp_goto (tgt := 358) dL_law_354 (by decide) ?_
    refine wp_ior dL_law_358 ?_
    rw [show e ||| 1 = 1 from by rw [he]; cases ev <;> decide]
    refine wp_istore dL_law_359 (Nat.le_of_ble_eq_true rfl) ?_
    refine wp_aload_n (i := 1) dL_law_361 rfl rfl ?_
    refine wp_iload dL_law_362 rfl ?_
    refine wp_iload dL_law_364 rfl ?_
    refine wp_bipush (v := nI 7) dL_law_366 (by decide) ?_
    refine wp_ishr dL_law_368 ?_
    refine wp_iconst (v := 3) dL_law_369 rfl ?_
    refine wp_callS (N := mL_below) (as := [.int _, .int (nI 3)]) dL_law_370 l_L_18 v_L_below rfl rfl (Nat.le_of_ble_eq_true rfl) (s_below _ (n := 3) (by decide) (by decide)) (fun v hp9 hq => ?_)
    obtain ⟨rfl, rfl⟩ := hq
    refine wp_if_ne (tgt := 380) dL_law_373 (by decide) (fun c373 => ?_) (fun c373 => ?_)
    · skip
      exact absurd c350 c373
    · skip
      refine wp_iconst (v := 1) dL_law_376 rfl ?_
      refine wp_goto (tgt := 381) dL_law_377 (by decide) ?_
      refine wp_callV (N := mX5_cut) (as := [.int (nI c), .int 1]) dL_law_381 l_L_39 v_X5_cut rfl hR.top.1 rfl (Nat.le_of_ble_eq_true rfl) (s_cut1 h hc (by omega)) (fun v hp9 hq => ?_)
      obtain ⟨M2, h2, hF2, h62, rfl⟩ := hq
      have hR2 := h2.1.1
      have hT2 := hT.fr b2 hF2
      obtain ⟨⟨l, hI⟩, -⟩ := h2.1.2.2.1.2.1 c hc4
      refine wp_aload_n (i := 1) dL_law_384 rfl rfl ?_
      refine wp_iload dL_law_385 rfl ?_
      refine wp_iconst (v := 0) dL_law_387 rfl ?_
      refine wp_callV (N := mX5_told) (as := [.int (nI c), .int (nI 0)]) dL_law_388 l_L_43 v_X5_told rfl hR2.top.1 rfl (Nat.le_of_ble_eq_true rfl) (s_told h2 hc (p := 0) (by decide)) (fun v hp9 hq => ?_)
      obtain ⟨rfl, rfl⟩ := hq
      refine wp_icmp_gt (tgt := 422) dL_law_391 (by decide) (fun c391 => ?_) (fun c391 => ?_)
      · skip
        have c9 : gV M2 1 0 c 0 2 < 0 := c391
        rw [hI.1.1] at c9
        exact absurd c9 (nI_pos (by have := hI.1.2.1; omega))
      · skip
        refine wp_aload_n (i := 1) dL_law_394 rfl rfl ?_
        refine wp_iload dL_law_395 rfl ?_
        refine wp_bipush (v := nI 6) dL_law_397 (by decide) ?_
        refine wp_callV (N := mX5_told) (as := [.int (nI c), .int (nI 6)]) dL_law_399 l_L_43 v_X5_told rfl hR2.top.1 rfl (Nat.le_of_ble_eq_true rfl) (s_told h2 hc (p := 6) (by decide)) (fun v hp9 hq => ?_)
        obtain ⟨rfl, rfl⟩ := hq
        refine wp_iload dL_law_402 rfl ?_
        refine wp_bipush (v := nI 7) dL_law_404 (by decide) ?_
        refine wp_ishr dL_law_406 ?_
        refine wp_iconst (v := 3) dL_law_407 rfl ?_
        refine wp_callS (N := mL_below) (as := [.int _, .int (nI 3)]) dL_law_408 l_L_18 v_L_below rfl rfl (Nat.le_of_ble_eq_true rfl) (s_below _ (n := 3) (by decide) (by decide)) (fun v hp9 hq => ?_)
        obtain ⟨rfl, rfl⟩ := hq
        refine wp_if_ne (tgt := 418) dL_law_411 (by decide) (fun c411 => ?_) (fun c411 => ?_)
        · skip
          exact absurd c350 c411
        · skip
          refine wp_iconst (v := 1) dL_law_414 rfl ?_
          refine wp_goto (tgt := 419) dL_law_415 (by decide) ?_
          refine wp_icmp_eq (tgt := 523) dL_law_419 (by decide) (fun c419 => ?_) (fun c419 => ?_)
          · skip
            exact k5 _ M2 1 ⟨_, _, _, (K + 1), D, true, nh, nm, F, h2, hc2, by omega, by omega, by omega, by omega, rfl, hT2⟩
          · skip
            exact absurd (cT6_1.mpr (by rw [h62]; decide)) c419
/-- flushed -/
theorem w_lw_424 (h : S0 hp M zB tB clk cc K D ev) (hc2 : 2 ≤ cc) (hclk : clk ≤ 6 * t) (hK : K ≤ t) (hzB : zB ≤ 1 + 12 * t) (htB : tB ≤ 4 + 144 * t) (he : e = (if ev then 1 else 0)) (hT : Tr M T cc t nh nm F) (ht : t < 48) (hc : c < cc) (hf : f < 12)  (k5 : ∀ (hp : AH) (M : MS) (e : Int32), LI hp M T cc (t + 1) e → WP L xs (d + 9) mL_law 523 [some (.ref 0), some (.ref 1), some (.int (nI cc)), some (.ref T), some (.int (e)), some (.int (nI t)), some (.int X), some (.int (nI c)), some (.int (nI f)), l9, l10, l11, l12] [] hp Q) : WP L xs (d + 9) mL_law 424 [some (.ref 0), some (.ref 1), some (.int (nI cc)), some (.ref T), some (.int (e)), some (.int (nI t)), some (.int X), some (.int (nI c)), some (.int (nI f)), l9, l10, l11, l12] [] hp Q := by
  have hR := h.1.1
  obtain ⟨b1, b2, b3, b4, b5⟩ := h.1.2.2.1.1
  have hc4 : c < 4 := by omega
  refine wp_aload_n (i := 1) dL_law_424 rfl rfl ?_
  refine wp_iload dL_law_425 rfl ?_
  refine wp_callV (N := mX5_flush) (as := [.int (nI c)]) dL_law_427 l_L_46 v_X5_flush rfl hR.top.1 rfl (Nat.le_of_ble_eq_true rfl) (s_flush h hc) (fun v hp9 hq => ?_)
  obtain ⟨M2, h2, hF2, m, rfl, hm, hml⟩ := hq
  have hR2 := h2.1.1
  have hT2 := hT.fr b2 hF2
  obtain ⟨⟨l, hI⟩, -⟩ := h2.1.2.2.1.2.1 c hc4
  refine wp_aload_n (i := 1) dL_law_430 rfl rfl ?_
  refine wp_iload dL_law_431 rfl ?_
  refine wp_iconst (v := 0) dL_law_433 rfl ?_
  refine wp_callV (N := mX5_told) (as := [.int (nI c), .int (nI 0)]) dL_law_434 l_L_43 v_X5_told rfl hR2.top.1 rfl (Nat.le_of_ble_eq_true rfl) (s_told h2 hc (p := 0) (by decide)) (fun v hp9 hq => ?_)
  obtain ⟨rfl, rfl⟩ := hq
  refine wp_icmp_le (tgt := 523) dL_law_437 (by decide) (fun c437 => ?_) (fun c437 => ?_)
  · skip
    exact k5 _ M2 e ⟨_, _, _, K, D, ev, nh, nm, F, h2, hc2, by omega, by omega, by omega, by omega, he, hT2⟩
  · skip
    have c9 : gV M2 1 0 c 0 2 < nI m := by first | exact c437 | exact Classical.not_not.mp c437
    rw [hI.1.1] at c9
    exact absurd c9 (nI_nlt (hml l hI) (by have := hI.1.2.1; omega))
/-- set -/
theorem w_lw_442 (h : S0 hp M zB tB clk cc K D ev) (hc2 : 2 ≤ cc) (hclk : clk ≤ 6 * t) (hK : K ≤ t) (hzB : zB ≤ 1 + 12 * t) (htB : tB ≤ 4 + 144 * t) (he : e = (if ev then 1 else 0)) (hT : Tr M T cc t nh nm F) (ht : t < 48) (hc : c < cc) (hf : f < 12)  (k5 : ∀ (hp : AH) (M : MS) (e : Int32), LI hp M T cc (t + 1) e → WP L xs (d + 9) mL_law 523 [some (.ref 0), some (.ref 1), some (.int (nI cc)), some (.ref T), some (.int (e)), some (.int (nI t)), some (.int X), some (.int (nI c)), some (.int (nI f)), l9, l10, l11, l12] [] hp Q) : WP L xs (d + 9) mL_law 442 [some (.ref 0), some (.ref 1), some (.int (nI cc)), some (.ref T), some (.int (e)), some (.int (nI t)), some (.int X), some (.int (nI c)), some (.int (nI f)), l9, l10, l11, l12] [] hp Q := by
  have hR := h.1.1
  obtain ⟨b1, b2, b3, b4, b5⟩ := h.1.2.2.1.1
  have hc4 : c < 4 := by omega
  refine wp_iload dL_law_442 rfl ?_
  refine wp_bipush (v := nI 6) dL_law_444 (by decide) ?_
  refine wp_ishr dL_law_446 ?_
  refine wp_iconst (v := 2) dL_law_447 rfl ?_
  refine wp_callS (N := mL_below) (as := [.int _, .int (nI 2)]) dL_law_448 l_L_18 v_L_below rfl rfl (Nat.le_of_ble_eq_true rfl) (s_below _ (n := 2) (by decide) (by decide)) (fun v hp9 hq => ?_)
  obtain ⟨rfl, rfl⟩ := hq
  refine wp_if_ne (tgt := 483) dL_law_451 (by decide) (fun c451 => ?_) (fun c451 => ?_)
  · skip
    refine wp_aload_n (i := 1) dL_law_483 rfl rfl ?_
    refine wp_iconst (v := 2) dL_law_484 rfl ?_
    refine wp_iload dL_law_485 rfl ?_
    refine wp_bipush (v := nI 7) dL_law_487 (by decide) ?_
    refine wp_ishr dL_law_489 ?_
    refine wp_iconst (v := 5) dL_law_490 rfl ?_
    refine wp_callS (N := mL_below) (as := [.int _, .int (nI 5)]) dL_law_491 l_L_18 v_L_below rfl rfl (Nat.le_of_ble_eq_true rfl) (s_below _ (n := 5) (by decide) (by decide)) (fun v hp9 hq => ?_)
    obtain ⟨rfl, rfl⟩ := hq
    refine wp_iadd dL_law_494 ?_
    rw [show (2 : Int32) + nI (bel (X >>> (nI 7 &&& 31)) 5) = nI (2 + bel (X >>> (nI 7 &&& 31)) 5) from nI_add 2 _]
    refine wp_callV (N := mX5_setRoom) (as := [.int (nI (2 + bel (X >>> (nI 7 &&& 31)) 5))]) dL_law_495 l_L_53 v_X5_setRoom rfl hR.top.1 rfl (Nat.le_of_ble_eq_true rfl) (s_setRoom h (by omega) (by have := bel_lt (X >>> (nI 7 &&& 31)) (n := 5) (by decide); omega)) (fun v hp9 hq => ?_)
    obtain ⟨M2, h2, hF2, x, rfl⟩ := hq
    have hR2 := h2.1.1
    have hT2 := hT.fr b2 hF2
    refine wp_pop dL_law_498 rfl ?_
    refine wp_goto (tgt := 523) dL_law_499 (by decide) ?_
    exact k5 _ M2 e ⟨_, _, _, K, D, ev, nh, nm, F, h2, hc2, by omega, by omega, by omega, by omega, he, hT2⟩
  · skip
    refine wp_aload_n (i := 1) dL_law_454 rfl rfl ?_
    refine wp_iconst (v := 1) dL_law_455 rfl ?_
    refine wp_iload dL_law_456 rfl ?_
    refine wp_bipush (v := nI 7) dL_law_458 (by decide) ?_
    refine wp_ishr dL_law_460 ?_
    refine wp_bipush (v := nI 40) dL_law_461 (by decide) ?_
    refine wp_callS (N := mL_below) (as := [.int _, .int (nI 40)]) dL_law_463 l_L_18 v_L_below rfl rfl (Nat.le_of_ble_eq_true rfl) (s_below _ (n := 40) (by decide) (by decide)) (fun v hp9 hq => ?_)
    obtain ⟨rfl, rfl⟩ := hq
    refine wp_iadd dL_law_466 ?_
    rw [show (1 : Int32) + nI (bel (X >>> (nI 7 &&& 31)) 40) = nI (1 + bel (X >>> (nI 7 &&& 31)) 40) from nI_add 1 _]
    refine wp_iload dL_law_467 rfl ?_
    refine wp_iconst (v := 5) dL_law_469 rfl ?_
    refine wp_ishr dL_law_470 ?_
    refine wp_bipush (v := nI 10) dL_law_471 (by decide) ?_
    refine wp_callS (N := mL_below) (as := [.int _, .int (nI 10)]) dL_law_473 l_L_18 v_L_below rfl rfl (Nat.le_of_ble_eq_true rfl) (s_below _ (n := 10) (by decide) (by decide)) (fun v hp9 hq => ?_)
    obtain ⟨rfl, rfl⟩ := hq
    refine wp_callV (N := mX5_setTerm) (as := [.int (nI (1 + bel (X >>> (nI 7 &&& 31)) 40)), .int (nI (bel (X >>> (5 &&& 31)) 10))]) dL_law_476 l_L_50 v_X5_setTerm rfl hR.top.1 rfl (Nat.le_of_ble_eq_true rfl) (s_setTerm h (by omega) (by have := bel_lt (X >>> (nI 7 &&& 31)) (n := 40) (by decide); omega) (by have := bel_lt (X >>> (5 &&& 31)) (n := 10) (by decide); omega)) (fun v hp9 hq => ?_)
    obtain ⟨M2, h2, hF2, x, rfl⟩ := hq
    have hR2 := h2.1.1
    have hT2 := hT.fr b2 hF2
    refine wp_pop dL_law_479 rfl ?_
    refine wp_goto (tgt := 523) dL_law_480 (by decide) ?_
    exact k5 _ M2 e ⟨_, _, _, K, D, ev, nh, nm, F, h2, hc2, by omega, by omega, by omega, by omega, he, hT2⟩
/-- ticks -/
theorem w_lw_502 (h : S0 hp M zB tB clk cc K D ev) (hc2 : 2 ≤ cc) (hclk : clk ≤ 6 * t) (hK : K ≤ t) (hzB : zB ≤ 1 + 12 * t) (htB : tB ≤ 4 + 144 * t) (he : e = (if ev then 1 else 0)) (hT : Tr M T cc t nh nm F) (ht : t < 48) (hc : c < cc) (hf : f < 12)  (k5 : ∀ (hp : AH) (M : MS) (e : Int32), LI hp M T cc (t + 1) e → WP L xs (d + 9) mL_law 523 [some (.ref 0), some (.ref 1), some (.int (nI cc)), some (.ref T), some (.int (e)), some (.int (nI t)), some (.int X), some (.int (nI c)), some (.int (nI f)), l9, l10, l11, l12] [] hp Q) : WP L xs (d + 9) mL_law 502 [some (.ref 0), some (.ref 1), some (.int (nI cc)), some (.ref T), some (.int (e)), some (.int (nI t)), some (.int X), some (.int (nI c)), some (.int (nI f)), l9, l10, l11, l12] [] hp Q := by
  have hR := h.1.1
  obtain ⟨b1, b2, b3, b4, b5⟩ := h.1.2.2.1.1
  have hc4 : c < 4 := by omega
  refine wp_aload_n (i := 1) dL_law_502 rfl rfl ?_
  refine wp_iconst (v := 1) dL_law_503 rfl ?_
  refine wp_iload dL_law_504 rfl ?_
  refine wp_bipush (v := nI 6) dL_law_506 (by decide) ?_
  refine wp_ishr dL_law_508 ?_
  refine wp_bipush (v := nI 6) dL_law_509 (by decide) ?_
  refine wp_callS (N := mL_below) (as := [.int _, .int (nI 6)]) dL_law_511 l_L_18 v_L_below rfl rfl (Nat.le_of_ble_eq_true rfl) (s_below _ (n := 6) (by decide) (by decide)) (fun v hp9 hq => ?_)
  obtain ⟨rfl, rfl⟩ := hq
  refine wp_iadd dL_law_514 ?_
  rw [show (1 : Int32) + nI (bel (X >>> (nI 6 &&& 31)) 6) = nI (1 + bel (X >>> (nI 6 &&& 31)) 6) from nI_add 1 _]
  have hb6 := bel_lt (X >>> (nI 6 &&& 31)) (n := 6) (by decide)
  refine wp_callS (N := mL_isTicked) (as := [.ref 1, .int (nI (1 + bel (X >>> (nI 6 &&& 31)) 6))]) dL_law_515 l_L_56 v_L_isTicked rfl rfl (Nat.le_of_ble_eq_true rfl) (s_isTicked h (by omega) (by omega)) (fun v hp9 hq => ?_)
  obtain ⟨rfl, M2, h2, hF2⟩ := hq
  have hR2 := h2.1.1
  have hT2 := hT.tk b2 hF2
  refine wp_if_ne (tgt := 523) dL_law_518 (by decide) (fun c518 => ?_) (fun c518 => ?_)
  · skip
    exact k5 _ M2 e ⟨_, _, _, K, D, ev, nh, nm, F, h2, hc2, by omega, by omega, by omega, by omega, he, hT2⟩
  · skip
    exact absurd c518 (by decide)
end LAW4
