/-! ===== new cells, calls ===== -/
/-- the new cell stands right behind the old ones -/
theorem new_at {base b : Nat} {cT : Nat → ClassId} {D : va_G} {hp : AH} {e : va_E} {q hs : Nat} {H1 : Heap} (hz : H1.size ≤ base + hsz hp + 1) (p1 : va_P D vwCl (cw base b cT hp ++ [(q, e)]) H1) (p2 : va_D (fun q => base ≤ q) (cw base b cT hp ++ [(q, e)])) (hs0 : hs = hsz hp) : q = base + hs ∧ H1.size = base + hs + 1 := by
  subst hs0
  have hlast : (cw base b cT hp ++ [(q, e)])[hsz hp]? = some (q, e) := by
    rw [List.getElem?_append_right (by rw [cw_len]; exact Nat.le_refl _), cw_len, Nat.sub_self]; rfl
  have h1 : q < H1.size := (p1 _ _ hlast).lt
  have h2 : base ≤ q := p2.2 _ _ hlast
  have h3 : ¬ q < base + hsz hp := by
    intro hq
    obtain ⟨i, rfl⟩ : ∃ i, q = base + i := ⟨q - base, by omega⟩
    have hi : i < hsz hp := by omega
    have hx : (cw base b cT hp ++ [(base + i, e)])[i]? = some (base + i, ce base b cT (hk hp (i + 1)) (hv hp (i + 1))) := by
      rw [List.getElem?_append_left (by rw [cw_len]; exact hi), cw_get hi]
    have := p2.1 i (hsz hp) _ _ hx hlast rfl
    omega
  omega
/-- a class whose objects are made here -/
def nC (own : String) (idx ci N : Nat) : Prop := ∃ (C : String) (T : u_T), vwCl[ci]? = some (C, T, N) ∧ .classLink own idx C ∈ Wall ∧ .instantiable C N ∈ Wall ∧ .initialized C ∈ Wall
def zf (ci k : Nat) : Value := defaultValue (fty ci k)
theorem cv_def (base b : Nat) (ty : FieldType) : cv base b (defaultValue ty) = defaultValue ty := by cases ty <;> rfl
section NEWS
variable {L : Nat} {xs : Nat → Int32} {d : Nat} {M : MD} {pc : Nat} {ls : LSt} {st : List Value} {hp : AH} {Q : Option Value → AH → Prop}
theorem wp_new {ci N idx : Nat} (hd : decode M.2.1 pc = .ok (.new idx, 3)) (hn : nC M.1.cls idx ci N) (kk : WP L xs d M (pc + 3) ls (.ref (hsz hp + 1) :: st) (hnew hp ci N (zf ci)) Q) : WP L xs d M pc ls st hp Q := by
  obtain ⟨v', hp', ⟨h1, h2, h3⟩, q⟩ := kk
  have h1' : hsz hp + 1 ≤ hsz hp' := h1
  have h2' : htot hp + N ≤ htot hp' := h2
  refine ⟨v', hp', ⟨by omega, by omega, ?_⟩, q⟩
  intro p l e R s m args below meth c base b D cT mc ms Qx hc hl hexit cells slots lsA H locs e1 e2 e3 hC hL
  obtain ⟨c1, c2, c3, c4, c5, c6, c7, c8, c9, c10, c11, c12, c13, c14, c15, c16, c17⟩ := id hc
  obtain ⟨hP, hS, hz⟩ := hC
  obtain ⟨C, T, f1, f2, f3, f4⟩ := hn
  obtain ⟨g0, g1, -⟩ := cl_facts f1
  refine va_new c1 c2 c5 g1 (fty ci) (fty_ok f1) c4 (c5 _ f2) (c5 _ f3) (c5 _ f4) c7 hP (cw_D base b cT hp) hS.self (fun q hq => by show base ≤ q; omega) f1 (fs := (List.range N).map fun k => cv base b (zf ci k)) ?_ (by omega) (by omega) hd fun q H1 p1 p2 p3 => ?_
  · intro j hj
    simp [vp_V, hj, zf, cv_def]
  · refine W_size fun hsize => ?_
    obtain ⟨rfl, hq2⟩ := new_at (hs := hsz hp) (by omega) p1 p2 rfl
    rw [cw_new (t := ci) (n := N) (z := zf ci) (ce_obj g0)] at p1
    refine h3 p l e R s m args below meth c base b D cT mc ms Qx hc hl hexit (cells + 1) (slots + N) lsA H1 locs ?_ ?_ ?_ ⟨p1, hS.tr p3, hq2⟩ hL
    · show cells + 1 + hsz hp' = mc + (hsz hp + 1); omega
    · show slots + N + htot hp' = ms + (htot hp + N); omega
    · show s.heap.size + (cells + 1) = base + (hsz hp + 1); omega
theorem wp_newI {n : Nat} {x : Int32} (hd : decode M.2.1 pc = .ok (.newarray .int, 2)) (hw : .arrayClass .int ∈ Wall) (hx : x = nI n) (hn : n ≤ 134217728) (kk : WP L xs d M (pc + 2) ls (.ref (hsz hp + 1) :: st) (hnew hp 6 n (fun _ => .int 0)) Q) : WP L xs d M pc ls (.int x :: st) hp Q := by
  obtain ⟨v', hp', ⟨h1, h2, h3⟩, q⟩ := kk
  have h1' : hsz hp + 1 ≤ hsz hp' := h1
  have h2' : htot hp + n ≤ htot hp' := h2
  refine ⟨v', hp', ⟨by omega, by omega, ?_⟩, q⟩
  intro p l e R s m args below meth c base b D cT mc ms Qx hc hl hexit cells slots lsA H locs e1 e2 e3 hC hL
  obtain ⟨c1, c2, c3, c4, c5, c6, c7, c8, c9, c10, c11, c12, c13, c14, c15, c16, c17⟩ := id hc
  obtain ⟨hP, hS, hz⟩ := hC
  subst hx
  have hcl : (nI n).toNatClampNeg = n := nI_clamp (by omega)
  refine va_newa (atype := .int) c1 c2 (c5 _ hw) (ty := .int) rfl c7 hP (cw_D base b cT hp) hS.self (fun q hq => by show base ≤ q; omega) (a0 := (n, .inl (fun _ => 0))) (N' := n) (fun cA => rfl) (nI_pos (by omega)) hcl (by show n * 4 ≤ 536870912; omega) (by omega) (by omega) hd fun q cA H1 pk p1 p2 p3 => ?_
  have hcA : cA = cT 0 := by
    have a1 := (pk.2 (tysL cT).length _ (by rw [List.getElem?_append_right (Nat.le_refl _), Nat.sub_self]; rfl)).2
    have a2 := (c7.2 0 _ rfl).2
    exact Option.some.inj (a1.symm.trans a2)
  subst hcA
  refine W_size fun hsize => ?_
  obtain ⟨rfl, hq2⟩ := new_at (hs := hsz hp) (by omega) p1 p2 rfl
  rw [cw_new (base := base) (b := b) (cT := cT) (hp := hp) (t := 6) (n := n) (z := fun _ => .int 0) (e := .inl (cT 0, n, .inl fun _ => 0)) rfl] at p1
  refine h3 p l e R s m args below meth c base b D cT mc ms Qx hc hl hexit (cells + 1) (slots + n) lsA H1 locs ?_ ?_ ?_ ⟨p1, hS.tr p3, hq2⟩ hL
  · show cells + 1 + hsz hp' = mc + (hsz hp + 1); omega
  · show slots + n + htot hp' = ms + (htot hp + n); omega
  · show s.heap.size + (cells + 1) = base + (hsz hp + 1); omega
theorem wp_newR {n t ci idx : Nat} {C : String} {x : Int32} (hd : decode M.2.1 pc = .ok (.anewarray idx, 3)) (ht : arC t = some (ci, C)) (hw : .classLink M.1.cls idx C ∈ Wall) (hx : x = nI n) (hn : n ≤ 134217728) (kk : WP L xs d M (pc + 3) ls (.ref (hsz hp + 1) :: st) (hnew hp t n (fun _ => .null)) Q) : WP L xs d M pc ls (.int x :: st) hp Q := by
  obtain ⟨v', hp', ⟨h1, h2, h3⟩, q⟩ := kk
  have h1' : hsz hp + 1 ≤ hsz hp' := h1
  have h2' : htot hp + n ≤ htot hp' := h2
  refine ⟨v', hp', ⟨by omega, by omega, ?_⟩, q⟩
  intro p l e R s m args below meth c base b D cT mc ms Qx hc hl hexit cells slots lsA H locs e1 e2 e3 hC hL
  obtain ⟨c1, c2, c3, c4, c5, c6, c7, c8, c9, c10, c11, c12, c13, c14, c15, c16, c17⟩ := id hc
  obtain ⟨hP, hS, hz⟩ := hC
  subst hx
  have hcl : (nI n).toNatClampNeg = n := nI_clamp (by omega)
  obtain ⟨t1, t2, t3, T, N, t4⟩ := arC_facts ht cT
  refine va_newq c1 c2 c4 (c5 _ hw) (c8 C t3) c7 hP (cw_D base b cT hp) hS.self (fun q hq => by show base ≤ q; omega) (N' := n) (nI_pos (by omega)) hcl (by omega) (by omega) (by omega) hd fun q cA H1 pk p1 p2 p3 => ?_
  have hcA : cA = cT (t - 6) := by
    obtain ⟨_, _, _, _, _, a1⟩ := (pk.2 (tysL cT).length _ (by rw [List.getElem?_append_right (Nat.le_refl _), Nat.sub_self]; rfl)).2
    obtain ⟨_, _, _, _, _, a2⟩ := (c7.2 (t - 6) _ t2).2
    exact Option.some.inj (a1.symm.trans a2)
  subst hcA
  refine W_size fun hsize => ?_
  obtain ⟨rfl, hq2⟩ := new_at (hs := hsz hp) (by omega) p1 p2 rfl
  rw [cw_new (base := base) (b := b) (cT := cT) (hp := hp) (t := t) (n := n) (z := fun _ => .null) (e := .inl (cT (t - 6), n, .inr (.inr (.inr (.inr fun _ => none))))) (ce_ref t1)] at p1
  refine h3 p l e R s m args below meth c base b D cT mc ms Qx hc hl hexit (cells + 1) (slots + n) lsA H1 locs ?_ ?_ ?_ ⟨p1, hS.tr p3, hq2⟩ hL
  · show cells + 1 + hsz hp' = mc + (hsz hp + 1); omega
  · show slots + n + htot hp' = ms + (htot hp + n); omega
  · show s.heap.size + (cells + 1) = base + (hsz hp + 1); omega
end NEWS
/-! calls -/
section GO
variable {p : Program} {l : Launch} {e : Env} {R : Room} {s : State} {m : MethodId} {args : Array Value} {below : List Frame} {meth : Method} {c : Code} {H : Heap} {locs : List Loc} {cells slots : Nat} {Qx : State → Prop}
theorem call_go {base b : Nat} {D : va_G} {cT : Nat → ClassId} {mc1 ms1 pc : Nat} {lsA : Array Slot} {st0 rest : List Value} {a : Array Value} {v : Option Value} {hp1 : AH} (hr : va_Run p l e R s m args below meth c H locs cells slots mc1 ms1 (F0 m pc lsA st0) rest (mQ base b D cT v hp1 a) (fun q => base ≤ q)) (hS : va_S (fun q => base ≤ q) s.heap H locs)
    (kk : ∀ (H1 : Heap) (locs1 : List Loc), Ch base b cT D hp1 s H1 locs1 → W p l e R s m args below meth c H1 locs1 (cells + mc1) (slots + ms1) Qx (F0 m (pc + 3) lsA ((v.map (cv base b)).toList ++ rest))) : W p l e R s m args below meth c H locs cells slots Qx (F0 m pc lsA st0) := by
  intro T hT X
  obtain ⟨w, st₀, t, T', L, h0, X', hL, q1, q2, ⟨hw, hP, hz, hF⟩, stp⟩ := hr T hT X
  cases hw
  rw [va_F, h0] at hF
  obtain ⟨z1, z2⟩ := hF
  obtain ⟨t2, a1, b1⟩ := kk T'.heap (locs ++ L) ⟨by rw [q1]; exact hP, ⟨by rw [q1]; exact Nat.le_trans hS.1 z1, fun q h1 h2 => by rw [q1, z2 q (Nat.lt_of_lt_of_le h1 hS.1) h2]; exact hS.2.1 q h1 h2, fun q hq => by
      rcases List.mem_append.mp hq with h | h
      · exact hS.2.2 q h
      · exact hL q h⟩, by rw [q1]; exact hz⟩ T' rfl X'
  exact ⟨t2, stp t2 a1, b1⟩
end GO
/-- what the tables say of a method: its code, its class, how many arguments -/
def mB (N : MD) (k : Nat) : Prop := .initialized N.1.cls ∈ Wall ∧ .code N.1 N.2.1 N.2.2.1 N.2.2.2 ∈ Wall ∧ N.1.cls ≠ "java/lang/invoke/MethodHandle" ∧ N.1.cls ≠ "java/lang/invoke/VarHandle" ∧ (parseMethodDescriptor N.1.desc).map (fun d => d.parameters.length) = some k ∧ N.2.2.1 ≤ 18
def mV (N : MD) (ci k : Nat) : Prop := mB N k ∧ (vwCl[ci]?).map (fun q => q.1) = some N.1.cls ∧ .instanceMethod N.1 ∈ Wall ∧ .selects N.1.cls N.1 N.1 ∈ Wall
def mI (N : MD) (k : Nat) : Prop := mB N k ∧ .instanceMethod N.1 ∈ Wall ∧ N.1.name = "<init>" ∧ N.2.2.2 = none
def mS (N : MD) (k : Nat) : Prop := mB N k ∧ .static N.1 ∈ Wall
theorem GoodW {ws : List Cond} (h : ∀ w ∈ ws, w ∈ Wall) : GoodIn Wall ws := fun w hw => ⟨h w hw, Wall_good w (h w hw)⟩
theorem wsM_in {N : MD} {k : Nat} (h : mB N k) : ∀ w ∈ wsM N, w ∈ Wall := by
  intro w hw
  rcases List.mem_cons.mp hw with rfl | h1
  · exact h.2.1
  · exact h1
theorem pre_go {L : Nat} {xs : Nat → Int32} {base b : Nat} {D : va_G} {cT : Nat → ClassId} {hp : AH} {s : State} {H : Heap} {locs : List Loc} {As : List Value} (c6 : ∀ w ∈ nestL, va_Nw w s) (c7 : va_K D vwCl (tysL cT) s) (c8 : ∀ C ∈ [RX0, RX1, RX3, RX4], va_AO C s) (hX : va_X b L xs s s.heap) (hbl : b < s.heap.size) (hbb : b < base) (hC : Ch base b cT D hp s H locs) :
    ∀ U : State, U.heap = H → s.WarmedH U.vm → va_Pc As (PreM L xs base b D cT hp) As.toArray U := by
  intro U hU hW
  refine ⟨rfl, by rw [hU]; exact hC.2.2, by rw [hU]; exact hC.1, va_K.moved hW.alike c7, nest_warm hW c6, fun C h => (c8 C h).moved hW.alike, ?_, hbb⟩
  rw [hU]
  exact va_X.moved hW.alike (hX.kept (hC.2.1.2.1 b hbl (Nat.not_le.mpr hbb)))
theorem cat_map (base b : Nat) (st : List Value) : ((st.map (cv base b)).map fun v => v.category).sum = (st.map fun v => v.category).sum := by
  rw [List.map_map]
  congr 1
  apply List.map_congr_left
  intro v _
  exact cv_cat base b v
section CALLS
variable {L : Nat} {xs : Nat → Int32} {d : Nat} {M : MD} {pc : Nat} {ls : LSt} {st st0 : List Value} {hp : AH} {Q Q1 : Option Value → AH → Prop}
theorem wp_callV {N : MD} {as : List Value} {i ci n k idx : Nat} (hd : decode M.2.1 pc = .ok (.invokevirtual idx, 3)) (hl : .methodLink M.1.cls idx N.1 ∈ Wall) (hN : mV N ci k) (hst : st0 = as.reverse ++ .ref i :: st) (ho : okc hp i ci n) (hk : as.length = k) (hcat : (st.map fun v => v.category).sum ≤ 8) (hm : WM L xs d N (.ref i :: as) hp Q1) (kk : ∀ v hp1, Q1 v hp1 → WP L xs (d + 1) M (pc + 3) ls (v.toList ++ st) hp1 Q) : WP L xs (d + 1) M pc ls st0 hp Q := by
  obtain ⟨v1, hp1, ⟨m1, m2, m3⟩, mq⟩ := hm
  obtain ⟨v', hp', ⟨h1, h2, h3⟩, q⟩ := kk v1 hp1 mq
  refine ⟨v', hp', ⟨by omega, by omega, ?_⟩, q⟩
  intro p l e R s m args below meth c base b D cT mc ms Qx hc hln hexit cells slots lsA H locs e1 e2 e3 hC hL
  obtain ⟨c1, c2, c3, c4, c5, c6, c7, c8, c9, c10, c11, c12, c13, c14, c15, c16, c17⟩ := id hc
  obtain ⟨a1, a2, a3⟩ := ho
  obtain ⟨j, rfl⟩ : ∃ j, i = j + 1 := ⟨i - 1, by omega⟩
  obtain ⟨nB, nc, n1, n2⟩ := hN
  obtain ⟨⟨C, T, N0⟩, f1, f2⟩ := Option.map_eq_some_iff.mp nc
  obtain ⟨g0, -⟩ := cl_facts f1
  have f2 : C = N.1.cls := f2
  have hcell : (cw base b cT hp)[j]? = some (base + j, .inr (ci, (List.range n).map fun k => cv base b (hv hp (j + 1) k))) := by rw [cw_get (by omega), a3, ce_obj g0]
  have hrv := va_recv c7 hC.1 f1 hcell
  rw [show (C, T, N0).1 = N.1.cls from f2] at hrv
  have hn9 : (as.map (cv base b)).length = k := by rw [List.length_map]; exact hk
  have hin : ∀ w ∈ wsV M.1.cls idx N.1.cls N.1 (wsM N), w ∈ Wall := by
    intro w hw
    rcases List.mem_append.mp hw with h | h
    · simp only [List.mem_cons, List.not_mem_nil, or_false] at h
      rcases h with rfl | rfl | rfl | rfl
      · exact hl
      · exact n1
      · exact n2
      · exact nB.1
    · exact wsM_in nB w h
  have hrun : va_Run p l e R s m args below meth c H locs cells slots (hsz hp1 - hsz hp) (htot hp1 - htot hp) (F0 m pc lsA (st0.map (cv base b))) (st.map (cv base b)) (mQ base b D cT v1 hp1 (Value.ref (base + j) :: as.map (cv base b)).toArray) (fun q => base ≤ q) := va_runV (g := F0 m pc lsA (st0.map (cv base b))) (locs := locs) (cells := cells) (slots := slots) (rest := st.map (cv base b)) (As := as.map (cv base b)) ⟨c1, c2, c3, c4, c5⟩ (m3 l base b D cT)
    (cwV k c5 (GoodW hin) rfl rfl rfl ⟨rfl, nB.2.2.1, nB.2.2.2.1, nB.2.2.2.2.1⟩ ⟨by show d + 1 ≤ R.frames; omega, by show 8 + (N.2.2.1 + 11) + 37 * d ≤ R.locals; have := nB.2.2.2.2.2; omega⟩)
    ⟨PreM.blind, hrv, pre_go c6 c7 c8 c14 c15 c16 hC⟩ rfl hn9 (by show lsA.size = _; rw [hL.1, hln]) (by rw [hst]; simp [cv, ca]) (lv_room (by rw [cat_map]; exact hcat)) hd ⟨by omega, by omega⟩
  refine call_go hrun hC.2.1 fun H1 locs1 hC1 => ?_
  have kw := h3 p l e R s m args below meth c base b D cT mc ms Qx hc hln hexit (cells + (hsz hp1 - hsz hp)) (slots + (htot hp1 - htot hp)) lsA H1 locs1 (by omega) (by omega) (by omega) hC1 hL
  rwa [List.map_append, show (v1.toList).map (cv base b) = (v1.map (cv base b)).toList by cases v1 <;> rfl] at kw
theorem wp_callS {N : MD} {as : List Value} {k idx : Nat} (hd : decode M.2.1 pc = .ok (.invokestatic idx, 3)) (hl : .methodLink M.1.cls idx N.1 ∈ Wall ∨ (M.1.cls, idx, N.1) ∈ nestM) (hN : mS N k) (hst : st0 = as.reverse ++ st) (hk : as.length = k) (hcat : (st.map fun v => v.category).sum ≤ 8) (hm : WM L xs d N as hp Q1) (kk : ∀ v hp1, Q1 v hp1 → WP L xs (d + 1) M (pc + 3) ls (v.toList ++ st) hp1 Q) : WP L xs (d + 1) M pc ls st0 hp Q := by
  obtain ⟨v1, hp1, ⟨m1, m2, m3⟩, mq⟩ := hm
  obtain ⟨v', hp', ⟨h1, h2, h3⟩, q⟩ := kk v1 hp1 mq
  refine ⟨v', hp', ⟨by omega, by omega, ?_⟩, q⟩
  intro p l e R s m args below meth c base b D cT mc ms Qx hc hln hexit cells slots lsA H locs e1 e2 e3 hC hL
  obtain ⟨c1, c2, c3, c4, c5, c6, c7, c8, c9, c10, c11, c12, c13, c14, c15, c16, c17⟩ := id hc
  obtain ⟨nB, n1⟩ := hN
  have hn9 : (as.map (cv base b)).length = k := by rw [List.length_map]; exact hk
  have hroom : (rmD d (hsz hp1 - hsz hp) (htot hp1 - htot hp)).frames + 1 ≤ R.frames ∧ 8 + (N.2.2.1 + 11) + (rmD d (hsz hp1 - hsz hp) (htot hp1 - htot hp)).locals ≤ R.locals := ⟨by show d + 1 ≤ R.frames; omega, by show 8 + (N.2.2.1 + 11) + 37 * d ≤ R.locals; have := nB.2.2.2.2.2; omega⟩
  have hrun : va_Run p l e R s m args below meth c H locs cells slots (hsz hp1 - hsz hp) (htot hp1 - htot hp) (F0 m pc lsA (st0.map (cv base b))) (st.map (cv base b)) (mQ base b D cT v1 hp1 (as.map (cv base b)).toArray) (fun q => base ≤ q) := by
    rcases hl with hl | hl
    · have hin : ∀ w ∈ va_wsS M.1.cls idx N.1 (wsM N), w ∈ Wall := by
        intro w hw
        rcases List.mem_append.mp hw with h | h
        · simp only [List.mem_cons, List.not_mem_nil, or_false] at h
          rcases h with rfl | rfl | rfl
          · exact hl
          · exact n1
          · exact nB.1
        · exact wsM_in nB w h
      exact va_runS (g := F0 m pc lsA (st0.map (cv base b))) (locs := locs) (cells := cells) (slots := slots) (rest := st.map (cv base b)) (As := as.map (cv base b)) ⟨c1, c2, c3, c4, c5⟩ (m3 l base b D cT)
        (va_cwS k c5 (GoodW hin) rfl rfl rfl ⟨nB.2.2.1, nB.2.2.2.1, nB.2.2.2.2.1⟩ hroom)
        ⟨PreM.blind, pre_go c6 c7 c8 c14 c15 c16 hC⟩ rfl hn9 (by show lsA.size = _; rw [hL.1, hln]) (by rw [hst]; simp) (lv_room (by rw [cat_map]; exact hcat)) hd ⟨by omega, by omega⟩
    · exact va_runSN (g := F0 m pc lsA (st0.map (cv base b))) (locs := locs) (cells := cells) (slots := slots) (rest := st.map (cv base b)) (As := as.map (cv base b)) ⟨c1, c2, c3, c4, c5⟩ (m3 l base b D cT)
        ⟨va_cnB k c5 (GoodW (wsM_in nB)) rfl rfl rfl (c6 _ (nestM_in hl)) (c5 _ nB.1) ⟨nB.2.2.1, nB.2.2.2.1, nB.2.2.2.2.1⟩ hroom, c5 _ n1, trivial⟩
        ⟨PreM.blind, pre_go c6 c7 c8 c14 c15 c16 hC⟩ rfl hn9 (by show lsA.size = _; rw [hL.1, hln]) (by rw [hst]; simp) (lv_room (by rw [cat_map]; exact hcat)) hd ⟨by omega, by omega⟩
  refine call_go hrun hC.2.1 fun H1 locs1 hC1 => ?_
  have kw := h3 p l e R s m args below meth c base b D cT mc ms Qx hc hln hexit (cells + (hsz hp1 - hsz hp)) (slots + (htot hp1 - htot hp)) lsA H1 locs1 (by omega) (by omega) (by omega) hC1 hL
  rwa [List.map_append, show (v1.toList).map (cv base b) = (v1.map (cv base b)).toList by cases v1 <;> rfl] at kw
theorem wp_callI {N : MD} {as : List Value} {i k idx : Nat} (hd : decode M.2.1 pc = .ok (.invokespecial idx, 3)) (hl : .methodLink M.1.cls idx N.1 ∈ Wall ∨ (M.1.cls, idx, N.1) ∈ nestM) (hN : mI N k) (hst : st0 = as.reverse ++ .ref i :: st) (hi : 1 ≤ i) (hk : as.length = k) (hcat : (st.map fun v => v.category).sum ≤ 8) (hm : WM L xs d N (.ref i :: as) hp Q1) (kk : ∀ v hp1, Q1 v hp1 → WP L xs (d + 1) M (pc + 3) ls (v.toList ++ st) hp1 Q) : WP L xs (d + 1) M pc ls st0 hp Q := by
  obtain ⟨v1, hp1, ⟨m1, m2, m3⟩, mq⟩ := hm
  obtain ⟨v', hp', ⟨h1, h2, h3⟩, q⟩ := kk v1 hp1 mq
  refine ⟨v', hp', ⟨by omega, by omega, ?_⟩, q⟩
  intro p l e R s m args below meth c base b D cT mc ms Qx hc hln hexit cells slots lsA H locs e1 e2 e3 hC hL
  obtain ⟨c1, c2, c3, c4, c5, c6, c7, c8, c9, c10, c11, c12, c13, c14, c15, c16, c17⟩ := id hc
  obtain ⟨nB, n1, n2, n3⟩ := hN
  obtain ⟨j, rfl⟩ : ∃ j, i = j + 1 := ⟨i - 1, by omega⟩
  have hn9 : (as.map (cv base b)).length = k := by rw [List.length_map]; exact hk
  have hroom : (rmD d (hsz hp1 - hsz hp) (htot hp1 - htot hp)).frames + 1 ≤ R.frames ∧ 8 + (N.2.2.1 + 11) + (rmD d (hsz hp1 - hsz hp) (htot hp1 - htot hp)).locals ≤ R.locals := ⟨by show d + 1 ≤ R.frames; omega, by show 8 + (N.2.2.1 + 11) + 37 * d ≤ R.locals; have := nB.2.2.2.2.2; omega⟩
  have hM : Met l N.1 (Cond.code N.1 N.2.1 N.2.2.1 none :: Wall) (rmD d (hsz hp1 - hsz hp) (htot hp1 - htot hp)) (va_Pc ((Value.ref (j + 1) :: as).map (cv base b)) (PreM L xs base b D cT hp)) (mQ base b D cT v1 hp1) (hsz hp1 - hsz hp) (htot hp1 - htot hp) (fun q => base ≤ q) := by
    have h9 := m3 l base b D cT
    rw [wsM, n3] at h9
    exact h9
  have hin : ∀ w ∈ (Cond.code N.1 N.2.1 N.2.2.1 none :: Wall), w ∈ Wall := by
    have h9 := wsM_in nB
    rw [wsM, n3] at h9
    exact h9
  have hrun : va_Run p l e R s m args below meth c H locs cells slots (hsz hp1 - hsz hp) (htot hp1 - htot hp) (F0 m pc lsA (st0.map (cv base b))) (st.map (cv base b)) (mQ base b D cT v1 hp1 (Value.ref (base + j) :: as.map (cv base b)).toArray) (fun q => base ≤ q) := by
    rcases hl with hl | hl
    · exact va_runI (g := F0 m pc lsA (st0.map (cv base b))) (locs := locs) (cells := cells) (slots := slots) (rest := st.map (cv base b)) (As := as.map (cv base b)) (b := base + j) ⟨c1, c2, c3, c4, c5⟩ hM
        (cwI k c5 (GoodW hin) rfl rfl rfl (c5 _ nB.1) (c5 _ hl) (c5 _ n1) n2 ⟨nB.2.2.1, nB.2.2.2.1, nB.2.2.2.2.1⟩ hroom)
        ⟨PreM.blind, pre_go c6 c7 c8 c14 c15 c16 hC⟩ rfl hn9 (by show lsA.size = _; rw [hL.1, hln]) (by rw [hst]; simp [cv, ca]) (lv_room (by rw [cat_map]; exact hcat)) hd ⟨by omega, by omega⟩
    · exact va_runIN (g := F0 m pc lsA (st0.map (cv base b))) (locs := locs) (cells := cells) (slots := slots) (rest := st.map (cv base b)) (As := as.map (cv base b)) (b := base + j) ⟨c1, c2, c3, c4, c5⟩ hM
        ⟨va_cnB k c5 (GoodW hin) rfl rfl rfl (c6 _ (nestM_in hl)) (c5 _ nB.1) ⟨nB.2.2.1, nB.2.2.2.1, nB.2.2.2.2.1⟩ hroom, n2, c5 _ n1⟩
        ⟨PreM.blind, pre_go c6 c7 c8 c14 c15 c16 hC⟩ rfl hn9 (by show lsA.size = _; rw [hL.1, hln]) (by rw [hst]; simp [cv, ca]) (lv_room (by rw [cat_map]; exact hcat)) hd ⟨by omega, by omega⟩
  refine call_go hrun hC.2.1 fun H1 locs1 hC1 => ?_
  have kw := h3 p l e R s m args below meth c base b D cT mc ms Qx hc hln hexit (cells + (hsz hp1 - hsz hp)) (slots + (htot hp1 - htot hp)) lsA H1 locs1 (by omega) (by omega) (by omega) hC1 hL
  rwa [List.map_append, show (v1.toList).map (cv base b) = (v1.map (cv base b)).toList by cases v1 <;> rfl] at kw
/-- Object.<init>: nothing -/
def oInit (own : String) (idx : Nat) : Prop := .methodLink own idx Lib.objectInit ∈ Wall ∧ .instanceMethod Lib.objectInit ∈ Wall ∧ .code Lib.objectInit ⟨#[0xb1]⟩ 1 none ∈ Wall
theorem wp_obj {i idx : Nat} (hd : decode M.2.1 pc = .ok (.invokespecial idx, 3)) (hl : oInit M.1.cls idx) (hi : 1 ≤ i) (hcat : (st.map fun v => v.category).sum ≤ 8) (kk : WP L xs (d + 1) M (pc + 3) ls st hp Q) : WP L xs (d + 1) M pc ls (.ref i :: st) hp Q := by
  obtain ⟨v', hp', ⟨h1, h2, h3⟩, q⟩ := kk
  refine ⟨v', hp', ⟨h1, h2, ?_⟩, q⟩
  intro p l e R s m args below meth c base b D cT mc ms Qx hc hln hexit cells slots lsA H locs e1 e2 e3 hC hL
  obtain ⟨c1, c2, c3, c4, c5, c6, c7, c8, c9, c10, c11, c12, c13, c14, c15, c16, c17⟩ := id hc
  obtain ⟨j, rfl⟩ : ∃ j, i = j + 1 := ⟨i - 1, by omega⟩
  have kw := h3 p l e R s m args below meth c base b D cT mc ms Qx hc hln hexit cells slots lsA H locs e1 e2 e3 hC hL
  have hm0 : (F0 m pc lsA ((Value.ref (j + 1) :: st).map (cv base b))).monitorRoom = 0 := rfl
  refine W.objInit c1 c2 c4 (c5 _ hl.1) (c5 _ hl.2.1) (c5 _ hl.2.2) rfl (by show lsA.size = _; rw [hL.1, hln, c3]) rfl hd (by omega) (by rw [hm0, cat_map]; omega) ?_
  exact kw
def acp (own : String) (idx : Nat) : Prop := .methodLink own idx arraycopyName ∈ Wall ∧ .native arraycopyName ∈ Wall ∧ .static arraycopyName ∈ Wall ∧ .initialized "java/lang/System" ∈ Wall
/-- System.arraycopy between arrays of ints, in range -/
theorem wp_copy {i j idx ni nj sp dp n : Nat} {x y z : Int32} (hd : decode M.2.1 pc = .ok (.invokestatic idx, 3)) (hl : acp M.1.cls idx) (hi : okc hp i 6 ni) (hj : okc hp j 6 nj) (hx : x = nI sp) (hy : y = nI dp) (hz : z = nI n) (h1 : sp + n ≤ ni) (h2 : dp + n ≤ nj) (hni : ni < 2 ^ 31) (hnj : nj < 2 ^ 31) (hcat : (st.map fun v => v.category).sum ≤ 8) (kk : WP L xs (d + 1) M (pc + 3) ls st (hcpy hp i j sp dp n) Q) : WP L xs (d + 1) M pc ls (.int z :: .int y :: .ref j :: .int x :: .ref i :: st) hp Q := by
  obtain ⟨v', hp', ⟨g1, g2, g3⟩, q⟩ := kk
  refine ⟨v', hp', ⟨g1, g2, ?_⟩, q⟩
  intro p l e R s m args below meth c base b D cT mc ms Qx hc hln hexit cells slots lsA H locs e1 e2 e3 hC hL
  obtain ⟨c1, c2, c3, c4, c5, c6, c7, c8, c9, c10, c11, c12, c13, c14, c15, c16, c17⟩ := id hc
  obtain ⟨hP, hS, hzz⟩ := hC
  obtain ⟨a1, a2, a3⟩ := hi
  obtain ⟨b1, b2, b3⟩ := hj
  obtain ⟨i, rfl⟩ : ∃ k, i = k + 1 := ⟨i - 1, by omega⟩
  obtain ⟨j, rfl⟩ : ∃ k, j = k + 1 := ⟨j - 1, by omega⟩
  subst hx; subst hy; subst hz
  have hcx : (nI sp).toNatClampNeg = sp := nI_clamp (by omega)
  have hcy : (nI dp).toNatClampNeg = dp := nI_clamp (by omega)
  have hcz : (nI n).toNatClampNeg = n := nI_clamp (by omega)
  have hci : (cw base b cT hp)[i]? = some (base + i, .inl (cT 0, ni, .inl fun k => toI (hv hp (i + 1) k))) := by rw [cw_get (by omega), a3, ce_int]
  have hcj : (cw base b cT hp)[j]? = some (base + j, .inl (cT 0, nj, .inl fun k => toI (hv hp (j + 1) k))) := by rw [cw_get (by omega), b3, ce_int]
  refine va_copyi (c := c) (cc := M.2.1) (ty := .int) c1 c2 (by rw [hL.1, hln, c3]) c4 (c5 _ hl.1) (c5 _ hl.2.1) (c5 _ hl.2.2.1) (c5 _ hl.2.2.2) c7 hP (cw_D base b cT hp) hS.self i j 0 0 hci hcj rfl rfl rfl (nI_pos (by omega)) (nI_pos (by omega)) (nI_pos (by omega)) (by rw [hcx, hcz]; exact h1) (by rw [hcy, hcz]; exact h2) (fun _ _ => rfl) (by omega) ?_ hd fun H1 locs1 p1 _ p3 => ?_
  · have hw : nativeFrameWords "java/lang/System" "arraycopy" 5 = 7 := by decide +kernel
    rw [hw, cat_map]
    omega
  · refine W_size fun hsize => ?_
    rw [hcx, hcy, hcz] at p1
    refine g3 p l e R s m args below meth c base b D cT mc ms Qx hc hln hexit cells slots lsA H1 locs1 e1 e2 e3 ⟨?_, hS.tr p3, ?_⟩ hL
    · rw [cw_upd (i := j) (hp := hp) (hp' := hcpy hp (i + 1) (j + 1) sp dp n) rfl (by omega) ?_ ?_] at p1
      · exact p1
      · show ce base b cT (hk hp (j + 1)) (fun l => if j + 1 = j + 1 then (if dp ≤ l ∧ l < dp + n then Value.int (toI (hv hp (i + 1) (sp + (l - dp)))) else hv hp (j + 1) l) else hv hp (j + 1) l) = _
        rw [b3, ce_int]
        congr 4
        funext l
        rw [if_pos rfl]
        unfold va_cpy
        by_cases hh : dp ≤ l ∧ l < dp + n
        · rw [if_pos hh, if_pos hh]; rfl
        · rw [if_neg hh, if_neg hh]
      · intro j' hj'
        refine ⟨rfl, ?_⟩
        funext l
        show (if j' = j + 1 then _ else hv hp j' l) = _
        rw [if_neg hj']
    · have h9 := p3.1
      have h8 : hsz (hcpy hp (i + 1) (j + 1) sp dp n) = hsz hp := rfl
      omega
end CALLS
