/-! ===== the rules of the heap ===== -/
theorem cl_facts {ci : Nat} {C : String} {T : u_T} {N : Nat} (h : vwCl[ci]? = some (C, T, N)) : ci < 6 ∧ (∀ w ∈ u_ws C T N, w ∈ Wall) ∧ ∃ ty0 : Nat → FieldType, (∀ k, k < N → parseFieldDescriptor (T k).2.2.1 = some (ty0 k)) ∧ (∀ a, a < N → ∀ b, b < N → a ≠ b → (T a).2.1 ≠ (T b).2.1) := by
  match ci, h with
  | 0, h => cases h; exact ⟨by decide, inW0, tyX0, tyX0_ok, nmX0⟩
  | 1, h => cases h; exact ⟨by decide, inW1, tyX1, tyX1_ok, nmX1⟩
  | 2, h => cases h; exact ⟨by decide, inW2, tyX2, tyX2_ok, nmX2⟩
  | 3, h => cases h; exact ⟨by decide, inW3, tyX3, tyX3_ok, nmX3⟩
  | 4, h => cases h; exact ⟨by decide, inW4, tyX4, tyX4_ok, nmX4⟩
  | 5, h => cases h; exact ⟨by decide, inW5, tyX5, tyX5_ok, nmX5⟩
  | n + 6, h => simp at h
def fty (ci k : Nat) : FieldType := match ci with
  | 0 => tyX0 k
  | 1 => tyX1 k
  | 2 => tyX2 k
  | 3 => tyX3 k
  | 4 => tyX4 k
  | _ => tyX5 k
theorem fty_ok {ci : Nat} {C : String} {T : u_T} {N : Nat} (h : vwCl[ci]? = some (C, T, N)) : ∀ k, k < N → parseFieldDescriptor (T k).2.2.1 = some (fty ci k) := by
  match ci, h with
  | 0, h => cases h; exact tyX0_ok
  | 1, h => cases h; exact tyX1_ok
  | 2, h => cases h; exact tyX2_ok
  | 3, h => cases h; exact tyX3_ok
  | 4, h => cases h; exact tyX4_ok
  | 5, h => cases h; exact tyX5_ok
  | n + 6, h => simp at h
/-- cell i is there, of this kind -/
def okc (hp : AH) (i ci n : Nat) : Prop := 1 ≤ i ∧ i ≤ hsz hp ∧ hk hp i = (ci, n)
def fG (own : String) (idx ci k : Nat) : Prop := ∃ (C : String) (T : u_T) (N : Nat), vwCl[ci]? = some (C, T, N) ∧ k < N ∧ (T k).1 = C ∧ (Cond.fieldLink own idx C (T k).2.1 (T k).2.2.1 ∈ Wall ∨ (own, idx, C, (T k).2.1, (T k).2.2.1) ∈ nestF)
def fP (M : MD) (idx ci k : Nat) : Prop := ∃ (C : String) (T : u_T) (N : Nat), vwCl[ci]? = some (C, T, N) ∧ k < N ∧ (T k).1 = C ∧ ((Cond.fieldLink M.1.cls idx C (T k).2.1 (T k).2.2.1 ∈ Wall ∧ ((T k).2.2.2 = false ∨ ((T k).2.2.2 = true ∧ M.1.name = "<init>" ∧ C = M.1.cls))) ∨ ((M.1.cls, idx, C, (T k).2.1, (T k).2.2.1) ∈ nestF ∧ (T k).2.2.2 = false))
def okf (ci k : Nat) (v : Value) : Prop := ∀ base b : Nat, narrow (fty ci k) (cv base b v) = cv base b v ∧ fits (fty ci k) (cv base b v) = true
theorem nestF_in {q : String × Nat × String × String × String} (h : q ∈ nestF) : Cond.fieldLinkNest q.1 q.2.1 q.2.2.1 q.2.2.2.1 q.2.2.2.2 "IronbridgeCache" ∈ nestL := List.mem_append_left _ (List.mem_map.mpr ⟨q, h, rfl⟩)
theorem nestM_in {q : String × Nat × MethodName} (h : q ∈ nestM) : Cond.methodLinkNest q.1 q.2.1 q.2.2 "IronbridgeCache" ∈ nestL := List.mem_append_right _ (List.mem_map.mpr ⟨q, h, rfl⟩)
theorem nest_use {s : State} {args : Array Value} {w : Cond} (hw : w ∈ nestL) (h : ∀ w ∈ nestL, va_Nw w s) : w.before args s = true := (h w hw).use (nestL_tables w hw)
theorem ce_obj {base b : Nat} {cT : Nat → ClassId} {ci n : Nat} {f : Nat → Value} (h : ci < 6) : ce base b cT (ci, n) f = .inr (ci, (List.range n).map fun k => cv base b (f k)) := if_pos h
theorem ce_int {base b : Nat} {cT : Nat → ClassId} {n : Nat} {f : Nat → Value} : ce base b cT (6, n) f = .inl (cT 0, (n, .inl (fun k => toI (f k)))) := rfl
theorem ce_ref {base b : Nat} {cT : Nat → ClassId} {t n : Nat} {f : Nat → Value} (h : 7 ≤ t) : ce base b cT (t, n) f = .inl (cT (t - 6), (n, .inr (.inr (.inr (.inr (fun k => toR base b (f k))))))) := by
  unfold ce
  rw [if_neg (by show ¬ t < 6; omega), if_neg (by show ¬ t = 6; omega)]
theorem fs_set {base b n k : Nat} {f : Nat → Value} {v : Value} : ((List.range n).map fun l => cv base b (f l)).set k (cv base b v) = (List.range n).map fun l => cv base b (if l = k then v else f l) := by
  apply List.ext_getElem?
  intro j
  by_cases hj : j < n
  · by_cases hjk : j = k
    · subst hjk
      rw [List.getElem?_set_self (by simpa using hj)]
      simp [hj]
    · rw [List.getElem?_set_ne (fun q => hjk q.symm)]
      simp [hj, hjk]
  · rw [List.getElem?_eq_none (by simp; omega), List.getElem?_eq_none (by simp; omega)]
theorem clamp_nI {x : Int32} {k n : Nat} (hx : x = nI k) (hk : k < n) (hn : n < 2 ^ 31) : x.toNatClampNeg = k ∧ vp_in x n := by
  subst hx
  exact ⟨nI_clamp (by omega), vp_in_nI hk hn⟩
section HEAP
variable {L : Nat} {xs : Nat → Int32} {d : Nat} {M : MD} {pc : Nat} {ls : LSt} {st : List Value} {hp : AH} {Q : Option Value → AH → Prop}
theorem wp_get {i ci n k idx : Nat} (hd : decode M.2.1 pc = .ok (.getfield idx, 3)) (ho : okc hp i ci n) (hf : fG M.1.cls idx ci k) (hn : k < n) (kk : WP L xs d M (pc + 3) ls (hv hp i k :: st) hp Q) : WP L xs d M pc ls (.ref i :: st) hp Q := by
  obtain ⟨v', hp', ⟨h1, h2, h3⟩, q⟩ := kk
  refine ⟨v', hp', ⟨h1, h2, ?_⟩, q⟩
  intro p l e R s m args below meth c base b D cT mc ms Qx hc hl hexit cells slots lsA H locs e1 e2 e3 hC hL
  obtain ⟨c1, c2, c3, c4, c5, c6, c7, -⟩ := id hc
  obtain ⟨a1, a2, a3⟩ := ho
  obtain ⟨j, rfl⟩ : ∃ j, i = j + 1 := ⟨i - 1, by omega⟩
  obtain ⟨C, T, N, f1, f2, f3, f4⟩ := hf
  obtain ⟨g0, g1, -⟩ := cl_facts f1
  have hcell : (cw base b cT hp)[j]? = some (base + j, .inr (ci, (List.range n).map fun k => cv base b (hv hp (j + 1) k))) := by rw [cw_get (by omega), a3, ce_obj g0]
  have kw := h3 p l e R s m args below meth c base b D cT mc ms Qx hc hl hexit cells slots lsA H locs e1 e2 e3 hC hL
  have hsame : ∀ x, s.fieldFound? (T k).1 (T k).2.1 (T k).2.2.1 = some x → s.fieldFound? C (T k).2.1 (T k).2.2.1 = some x := fun x h => by rwa [f3] at h
  have hv' : ((List.range n).map fun k => cv base b (hv hp (j + 1) k))[k]? = some (cv base b (hv hp (j + 1) k)) := by simp [hn]
  rcases f4 with f4 | f4
  · exact va_get c1 c2 c5 g1 c4 c7 hC.1 j hcell f1 k f2 (c5 _ f4) hsame hv' hd kw
  · exact va_getN c1 c2 c5 g1 c4 c7 hC.1 j hcell f1 k f2 (nest_use (nestF_in f4) c6) hsame hv' hd kw
theorem wp_put {i ci n k idx : Nat} {v : Value} (hd : decode M.2.1 pc = .ok (.putfield idx, 3)) (ho : okc hp i ci n) (hf : fP M idx ci k) (hvv : okf ci k v) (hn : k < n) (kk : WP L xs d M (pc + 3) ls st (hset hp i k v) Q) : WP L xs d M pc ls (v :: .ref i :: st) hp Q := by
  obtain ⟨v', hp', ⟨h1, h2, h3⟩, q⟩ := kk
  refine ⟨v', hp', ⟨h1, h2, ?_⟩, q⟩
  intro p l e R s m args below meth c base b D cT mc ms Qx hc hl hexit cells slots lsA H locs e1 e2 e3 hC hL
  obtain ⟨c1, c2, c3, c4, c5, c6, c7, c8, c9, -⟩ := id hc
  obtain ⟨hP, hS, hz⟩ := hC
  obtain ⟨a1, a2, a3⟩ := ho
  obtain ⟨j, rfl⟩ : ∃ j, i = j + 1 := ⟨i - 1, by omega⟩
  obtain ⟨C, T, N, f1, f2, f3, f4⟩ := hf
  obtain ⟨g0, g1, ty0, g2, g3⟩ := cl_facts f1
  have hcell : (cw base b cT hp)[j]? = some (base + j, .inr (ci, (List.range n).map fun k => cv base b (hv hp (j + 1) k))) := by rw [cw_get (by omega), a3, ce_obj g0]
  have fin : ∀ (H1 : Heap) (locs1 : List Loc), va_P D vwCl ((cw base b cT hp).set j (base + j, .inr (ci, ((List.range n).map fun k => cv base b (hv hp (j + 1) k)).set k (cv base b v)))) H1 → va_D (fun q => base ≤ q) ((cw base b cT hp).set j (base + j, .inr (ci, ((List.range n).map fun k => cv base b (hv hp (j + 1) k)).set k (cv base b v)))) → va_S (fun q => base ≤ q) H H1 locs1 → W p l e R s m args below meth c H1 locs1 cells slots Qx (F0 m (pc + 3) lsA (st.map (cv base b))) := by
    intro H1 locs1 p1 _ p3
    refine W_size fun hsize => ?_
    refine h3 p l e R s m args below meth c base b D cT mc ms Qx hc hl hexit cells slots lsA H1 locs1 e1 e2 e3 ⟨?_, hS.tr p3, ?_⟩ hL
    · rw [cw_upd (i := j) (hp := hp) (hp' := hset hp (j + 1) k v) rfl (by omega) ?_ ?_] at p1
      · exact p1
      · show ce base b cT (hk hp (j + 1)) (fun l => if j + 1 = j + 1 ∧ l = k then v else hv hp (j + 1) l) = _
        rw [a3, ce_obj g0, fs_set]
        simp only [true_and]
      · intro j' hj'
        refine ⟨rfl, ?_⟩
        funext l
        show (if j' = j + 1 ∧ l = k then v else hv hp j' l) = _
        rw [if_neg (fun z => hj' z.1)]
    · have h9 := p3.1
      have h8 : hsz (hset hp (j + 1) k v) = hsz hp := rfl
      omega
  have hsame : ∀ x, s.fieldFound? (T k).1 (T k).2.1 (T k).2.2.1 = some x → s.fieldFound? C (T k).2.1 (T k).2.2.1 = some x := fun x h => by rwa [f3] at h
  have hlen : k < ((List.range n).map fun k => cv base b (hv hp (j + 1) k)).length := by simpa using hn
  have hD := cw_D base b cT hp
  have hpar := fty_ok f1 k f2
  rcases f4 with ⟨k1, k2 | ⟨k2, k3, k4⟩⟩ | ⟨k1, k2⟩
  · exact va_put c1 c2 c5 g1 ty0 g2 g3 c4 c7 hP hD hS.self j hcell f1 k f2 (c5 _ k1) hsame k2 hpar (hvv base b).1 (hvv base b).2 hlen hd fin
  · exact va_putF c1 c2 c5 g1 ty0 g2 g3 c4 c7 hP hD hS.self j hcell f1 k f2 (c5 _ k1) hsame k2 (c9 k3) (f3.trans k4) hpar (hvv base b).1 (hvv base b).2 hlen hd fin
  · exact va_putN c1 c2 c5 g1 ty0 g2 g3 c4 c7 hP hD hS.self j hcell f1 k f2 (nest_use (nestF_in k1) c6) hsame k2 hpar (hvv base b).1 (hvv base b).2 hlen hd fin
theorem wp_iald {i n k : Nat} {x : Int32} (hd : decode M.2.1 pc = .ok (.iaload, 1)) (ho : okc hp i 6 n) (hx : x = nI k) (hkn : k < n) (hn : n < 2 ^ 31) (kk : WP L xs d M (pc + 1) ls (.int (toI (hv hp i k)) :: st) hp Q) : WP L xs d M pc ls (.int x :: .ref i :: st) hp Q := by
  obtain ⟨v', hp', ⟨h1, h2, h3⟩, q⟩ := kk
  refine ⟨v', hp', ⟨h1, h2, ?_⟩, q⟩
  intro p l e R s m args below meth c base b D cT mc ms Qx hc hl hexit cells slots lsA H locs e1 e2 e3 hC hL
  obtain ⟨c1, c2, c3, c4, c5, c6, c7, -⟩ := id hc
  obtain ⟨a1, a2, a3⟩ := ho
  obtain ⟨j, rfl⟩ : ∃ j, i = j + 1 := ⟨i - 1, by omega⟩
  obtain ⟨x1, x2⟩ := clamp_nI hx hkn hn
  have hcell : (cw base b cT hp)[j]? = some (base + j, .inl (cT 0, n, .inl fun k => toI (hv hp (j + 1) k))) := by rw [cw_get (by omega), a3, ce_int]
  have kw := h3 p l e R s m args below meth c base b D cT mc ms Qx hc hl hexit cells slots lsA H locs e1 e2 e3 hC hL
  subst x1
  exact va_iald c1 c2 c7 hC.1 j 0 hcell rfl x2 hd kw
theorem wp_iast {i n k : Nat} {x y : Int32} (hd : decode M.2.1 pc = .ok (.iastore, 1)) (ho : okc hp i 6 n) (hx : x = nI k) (hkn : k < n) (hn : n < 2 ^ 31) (kk : WP L xs d M (pc + 1) ls st (hset hp i k (.int y)) Q) : WP L xs d M pc ls (.int y :: .int x :: .ref i :: st) hp Q := by
  obtain ⟨v', hp', ⟨h1, h2, h3⟩, q⟩ := kk
  refine ⟨v', hp', ⟨h1, h2, ?_⟩, q⟩
  intro p l e R s m args below meth c base b D cT mc ms Qx hc hl hexit cells slots lsA H locs e1 e2 e3 hC hL
  obtain ⟨c1, c2, c3, c4, c5, c6, c7, -⟩ := id hc
  obtain ⟨hP, hS, hz⟩ := hC
  obtain ⟨a1, a2, a3⟩ := ho
  obtain ⟨j, rfl⟩ : ∃ j, i = j + 1 := ⟨i - 1, by omega⟩
  obtain ⟨x1, x2⟩ := clamp_nI hx hkn hn
  have hcell : (cw base b cT hp)[j]? = some (base + j, .inl (cT 0, n, .inl fun k => toI (hv hp (j + 1) k))) := by rw [cw_get (by omega), a3, ce_int]
  subst x1
  refine va_iast c1 c2 c7 hP (cw_D base b cT hp) hS.self j 0 hcell rfl x2 hd fun H1 locs1 p1 _ p3 => ?_
  refine W_size fun hsize => ?_
  refine h3 p l e R s m args below meth c base b D cT mc ms Qx hc hl hexit cells slots lsA H1 locs1 e1 e2 e3 ⟨?_, hS.tr p3, ?_⟩ hL
  · rw [cw_upd (i := j) (hp := hp) (hp' := hset hp (j + 1) x.toNatClampNeg (.int y)) rfl (by omega) ?_ ?_] at p1
    · exact p1
    · show ce base b cT (hk hp (j + 1)) (fun l => if j + 1 = j + 1 ∧ l = x.toNatClampNeg then .int y else hv hp (j + 1) l) = _
      rw [a3, ce_int]
      congr 4
      funext l
      by_cases hlx : l = x.toNatClampNeg
      · simp [upd, hlx, toI]
      · simp [upd, hlx]
    · intro j' hj'
      refine ⟨rfl, ?_⟩
      funext l
      show (if j' = j + 1 ∧ l = x.toNatClampNeg then Value.int y else hv hp j' l) = _
      rw [if_neg (fun z => hj' z.1)]
  · have h9 := p3.1
    have h8 : hsz (hset hp (j + 1) x.toNatClampNeg (.int y)) = hsz hp := rfl
    omega
/-- arrays of references: kind, class of the parts -/
def arC : Nat → Option (Nat × String)
  | 7 => some (0, RX0)
  | 8 => some (1, RX1)
  | 9 => some (3, RX3)
  | 10 => some (4, RX4)
  | _ => none
theorem arC_facts {t ci : Nat} {C : String} (h : arC t = some (ci, C)) (cT : Nat → ClassId) : 7 ≤ t ∧ (tysL cT)[t - 6]? = some (cT (t - 6), .object C) ∧ C ∈ [RX0, RX1, RX3, RX4] ∧ ∃ T N, vwCl[ci]? = some (C, T, N) := by
  match t, h with
  | 7, h => cases h; exact ⟨by decide, rfl, by simp, _, _, rfl⟩
  | 8, h => cases h; exact ⟨by decide, rfl, by simp, _, _, rfl⟩
  | 9, h => cases h; exact ⟨by decide, rfl, by simp, _, _, rfl⟩
  | 10, h => cases h; exact ⟨by decide, rfl, by simp, _, _, rfl⟩
  | 0, h => cases h
  | 1, h => cases h
  | 2, h => cases h
  | 3, h => cases h
  | 4, h => cases h
  | 5, h => cases h
  | 6, h => cases h
  | n + 11, h => cases h
theorem cv_rfv (base b : Nat) (v : Value) : va_rf (toR base b v) = cv base b (rfv v) := by cases v <;> rfl
theorem wp_aald {i n k t ci : Nat} {C : String} {x : Int32} (hd : decode M.2.1 pc = .ok (.aaload, 1)) (ho : okc hp i t n) (ht : arC t = some (ci, C)) (hx : x = nI k) (hkn : k < n) (hn : n < 2 ^ 31) (kk : WP L xs d M (pc + 1) ls (rfv (hv hp i k) :: st) hp Q) : WP L xs d M pc ls (.int x :: .ref i :: st) hp Q := by
  obtain ⟨v', hp', ⟨h1, h2, h3⟩, q⟩ := kk
  refine ⟨v', hp', ⟨h1, h2, ?_⟩, q⟩
  intro p l e R s m args below meth c base b D cT mc ms Qx hc hl hexit cells slots lsA H locs e1 e2 e3 hC hL
  obtain ⟨c1, c2, c3, c4, c5, c6, c7, -⟩ := id hc
  obtain ⟨a1, a2, a3⟩ := ho
  obtain ⟨j, rfl⟩ : ∃ j, i = j + 1 := ⟨i - 1, by omega⟩
  obtain ⟨x1, x2⟩ := clamp_nI hx hkn hn
  obtain ⟨t1, t2, -⟩ := arC_facts ht cT
  have hcell : (cw base b cT hp)[j]? = some (base + j, .inl (cT (t - 6), n, .inr (.inr (.inr (.inr fun k => toR base b (hv hp (j + 1) k)))))) := by rw [cw_get (by omega), a3, ce_ref t1]
  have kw := h3 p l e R s m args below meth c base b D cT mc ms Qx hc hl hexit cells slots lsA H locs e1 e2 e3 hC hL
  subst x1
  rw [List.map_cons, ← cv_rfv] at kw
  exact va_aldq c1 c2 c7 hC.1 j (t - 6) hcell t2 x2 hd kw
theorem wp_aast {i n k t ci n2 y : Nat} {C : String} {x : Int32} (hd : decode M.2.1 pc = .ok (.aastore, 1)) (ho : okc hp i t n) (ht : arC t = some (ci, C)) (hy : okc hp y ci n2) (hx : x = nI k) (hkn : k < n) (hn : n < 2 ^ 31) (kk : WP L xs d M (pc + 1) ls st (hset hp i k (.ref y)) Q) : WP L xs d M pc ls (.ref y :: .int x :: .ref i :: st) hp Q := by
  obtain ⟨v', hp', ⟨h1, h2, h3⟩, q⟩ := kk
  refine ⟨v', hp', ⟨h1, h2, ?_⟩, q⟩
  intro p l e R s m args below meth c base b D cT mc ms Qx hc hl hexit cells slots lsA H locs e1 e2 e3 hC hL
  obtain ⟨c1, c2, c3, c4, c5, c6, c7, -⟩ := id hc
  obtain ⟨hP, hS, hz⟩ := hC
  obtain ⟨a1, a2, a3⟩ := ho
  obtain ⟨y1, y2, y3⟩ := hy
  obtain ⟨j, rfl⟩ : ∃ j, i = j + 1 := ⟨i - 1, by omega⟩
  obtain ⟨jy, rfl⟩ : ∃ j, y = j + 1 := ⟨y - 1, by omega⟩
  obtain ⟨x1, x2⟩ := clamp_nI hx hkn hn
  obtain ⟨t1, t2, t3, T, N, t4⟩ := arC_facts ht cT
  obtain ⟨g0, -⟩ := cl_facts t4
  have hcell : (cw base b cT hp)[j]? = some (base + j, .inl (cT (t - 6), n, .inr (.inr (.inr (.inr fun k => toR base b (hv hp (j + 1) k)))))) := by rw [cw_get (by omega), a3, ce_ref t1]
  have hcy : (cw base b cT hp)[jy]? = some (base + jy, .inr (ci, (List.range n2).map fun k => cv base b (hv hp (jy + 1) k))) := by rw [cw_get (by omega), y3, ce_obj g0]
  subst x1
  refine va_astq c1 c2 c7 hP (cw_D base b cT hp) hS.self j (t - 6) jy ci (r := (C, T, N)) hcell t2 hcy t4 x2 hd fun H1 locs1 p1 _ p3 => ?_
  refine W_size fun hsize => ?_
  refine h3 p l e R s m args below meth c base b D cT mc ms Qx hc hl hexit cells slots lsA H1 locs1 e1 e2 e3 ⟨?_, hS.tr p3, ?_⟩ hL
  · rw [cw_upd (i := j) (hp := hp) (hp' := hset hp (j + 1) x.toNatClampNeg (.ref (jy + 1))) rfl (by omega) ?_ ?_] at p1
    · exact p1
    · show ce base b cT (hk hp (j + 1)) (fun l => if j + 1 = j + 1 ∧ l = x.toNatClampNeg then .ref (jy + 1) else hv hp (j + 1) l) = _
      rw [a3, ce_ref t1]
      congr 7
      funext l
      by_cases hlx : l = x.toNatClampNeg
      · simp [va_up, hlx, toR, ca]
      · simp [va_up, hlx]
    · intro j' hj'
      refine ⟨rfl, ?_⟩
      funext l
      show (if j' = j + 1 ∧ l = x.toNatClampNeg then Value.ref (jy + 1) else hv hp j' l) = _
      rw [if_neg (fun z => hj' z.1)]
  · have h9 := p3.1
    have h8 : hsz (hset hp (j + 1) x.toNatClampNeg (.ref (jy + 1))) = hsz hp := rfl
    omega
theorem wp_alenI {i n : Nat} (hd : decode M.2.1 pc = .ok (.arraylength, 1)) (ho : okc hp i 6 n) (kk : WP L xs d M (pc + 1) ls (.int (nI n) :: st) hp Q) : WP L xs d M pc ls (.ref i :: st) hp Q := by
  obtain ⟨v', hp', ⟨h1, h2, h3⟩, q⟩ := kk
  refine ⟨v', hp', ⟨h1, h2, ?_⟩, q⟩
  intro p l e R s m args below meth c base b D cT mc ms Qx hc hl hexit cells slots lsA H locs e1 e2 e3 hC hL
  obtain ⟨c1, c2, c3, c4, c5, c6, c7, -⟩ := id hc
  obtain ⟨a1, a2, a3⟩ := ho
  obtain ⟨j, rfl⟩ : ∃ j, i = j + 1 := ⟨i - 1, by omega⟩
  have hcell : (cw base b cT hp)[j]? = some (base + j, .inl (cT 0, n, .inl fun k => toI (hv hp (j + 1) k))) := by rw [cw_get (by omega), a3, ce_int]
  have kw := h3 p l e R s m args below meth c base b D cT mc ms Qx hc hl hexit cells slots lsA H locs e1 e2 e3 hC hL
  exact va_alen c1 c2 c7 hC.1 j 0 hcell rfl rfl hd kw
theorem wp_sld {k : Nat} {x : Int32} (hd : decode M.2.1 pc = .ok (.iaload, 1)) (hx : x = nI k) (hkn : k < L) (hn : L < 2 ^ 31) (kk : WP L xs d M (pc + 1) ls (.int (xs k) :: st) hp Q) : WP L xs d M pc ls (.int x :: .ref 0 :: st) hp Q := by
  obtain ⟨v', hp', ⟨h1, h2, h3⟩, q⟩ := kk
  refine ⟨v', hp', ⟨h1, h2, ?_⟩, q⟩
  intro p l e R s m args below meth c base b D cT mc ms Qx hc hl hexit cells slots lsA H locs e1 e2 e3 hC hL
  obtain ⟨c1, c2, c3, c4, c5, c6, c7, c8, c9, c10, c11, c12, c13, c14, c15, c16, c17⟩ := id hc
  obtain ⟨x1, x2⟩ := clamp_nI hx hkn hn
  have kw := h3 p l e R s m args below meth c base b D cT mc ms Qx hc hl hexit cells slots lsA H locs e1 e2 e3 hC hL
  subst x1
  exact va_sld c1 c2 c14 c15 (A := fun q => base ≤ q) (Nat.not_le.mpr c16) hC.2.1 x2 hd kw
theorem wp_slen (hd : decode M.2.1 pc = .ok (.arraylength, 1)) (kk : WP L xs d M (pc + 1) ls (.int (nI L) :: st) hp Q) : WP L xs d M pc ls (.ref 0 :: st) hp Q := by
  obtain ⟨v', hp', ⟨h1, h2, h3⟩, q⟩ := kk
  refine ⟨v', hp', ⟨h1, h2, ?_⟩, q⟩
  intro p l e R s m args below meth c base b D cT mc ms Qx hc hl hexit cells slots lsA H locs e1 e2 e3 hC hL
  obtain ⟨c1, c2, c3, c4, c5, c6, c7, c8, c9, c10, c11, c12, c13, c14, c15, c16, c17⟩ := id hc
  have kw := h3 p l e R s m args below meth c base b D cT mc ms Qx hc hl hexit cells slots lsA H locs e1 e2 e3 hC hL
  exact va_slen c1 c2 c14 c15 (A := fun q => base ≤ q) (Nat.not_le.mpr c16) hC.2.1 hd kw
end HEAP
