/-! ===== the judgement ===== -/
/-- entry: the arguments in their places -/
def ent0 : List Value → LSt
  | [] => []
  | v :: t => if v.category = 2 then some v :: none :: ent0 t else some v :: ent0 t
def ent (n : Nat) (args : List Value) : LSt := ent0 args ++ List.replicate (n - (ent0 args).length) none
theorem lvl_none (base b : Nat) : ∀ (n i : Nat), lvl base b i (List.replicate n none) = []
  | 0, _ => rfl
  | n + 1, i => by rw [List.replicate_succ, lvl, lvl_none base b n]
theorem lvl_ent (base b : Nat) (n : Nat) : ∀ (args : List Value) (i : Nat), lvl base b i (ent0 args ++ List.replicate n none) = lv_args i (args.map (cv base b))
  | [], i => by simp [ent0, lvl_none, lv_args]
  | v :: t, i => by
    by_cases h : v.category = 2
    · rw [ent0, if_pos h]
      show lvl base b i (some v :: none :: (ent0 t ++ List.replicate n none)) = _
      rw [lvl, lvl, lvl_ent base b n t, List.map_cons, lv_args, if_pos (by rw [cv_cat]; exact h)]
    · rw [ent0, if_neg h]
      show lvl base b i (some v :: (ent0 t ++ List.replicate n none)) = _
      rw [lvl, lvl_ent base b n t, List.map_cons, lv_args, if_neg (by rw [cv_cat]; exact h)]
theorem ent0_len (base b : Nat) : ∀ (args : List Value), (lg_sl (args.map (cv base b))).length = (ent0 args).length
  | [] => rfl
  | v :: t => by
    have ih := ent0_len base b t
    simp only [lg_sl, List.map_cons, List.flatMap_cons, List.length_append, cv_cat] at ih ⊢
    rw [ih]
    by_cases h : v.category = 2
    · rw [ent0, if_pos h, if_pos h]; simp; omega
    · rw [ent0, if_neg h, if_neg h]; simp; omega
theorem ent_has {base b n : Nat} {args : List Value} (h : (ent0 args).length ≤ n) : Lh base b (ent n args) ((lg_sl (args.map (cv base b)) ++ List.replicate (n - (lg_sl (args.map (cv base b))).length) Slot.unset).toArray) := by
  have h1 := lv_entry (args.map (cv base b)) (n := n) (by rw [ent0_len]; exact h)
  have hn : (ent n args).length = n := by simp [ent]; omega
  unfold Lh
  rw [hn, ent, lvl_ent]
  exact h1
/-- what a method's state is bound to: the machine, the words, the tables, the room, the script -/
def Cx (L : Nat) (xs : Nat → Int32) (M : MD) (d : Nat) (p : Program) (R : Room) (s : State) (m : MethodId) (args : Array Value) (meth : Method) (c : Code) (base b : Nat) (D : va_G) (cT : Nat → ClassId) (mc ms : Nat) : Prop :=
  p.tables.exec = Jvm.exec ∧ c.code = M.2.1 ∧ c.maxLocals = M.2.2.1 ∧ s.vm.findClass M.1.cls = some m.cls ∧ (∀ w ∈ Wall, w.before args s = true) ∧ (∀ w ∈ nestL, va_Nw w s) ∧ va_K D vwCl (tysL cT) s ∧ (∀ C ∈ [RX0, RX1, RX3, RX4], va_AO C s) ∧ (M.1.name = "<init>" → meth.name = "<init>") ∧ d ≤ R.frames ∧ 37 * d ≤ R.locals ∧ mc ≤ R.cells ∧ ms ≤ R.slots ∧ va_X b L xs s s.heap ∧ b < s.heap.size ∧ b < base ∧ base ≤ s.heap.size
def Ch (base b : Nat) (cT : Nat → ClassId) (D : va_G) (hp : AH) (s : State) (H : Heap) (locs : List Loc) : Prop :=
  va_P D vwCl (cw base b cT hp) H ∧ va_S (fun q => base ≤ q) s.heap H locs ∧ H.size = base + hsz hp
def retI : Option Value → Instr
  | none => .return_
  | some (.int _) => .ireturn
  | some (.long _) => .lreturn
  | some (.double _) => .dreturn
  | some (.ref _) => .areturn
  | _ => .nop
/-- the room of a method with d calls open above it -/
def rmD (d k n : Nat) : Room := { frames := d, cells := k, slots := n, locals := 37 * d }
/-- from the point pc on, with these locals and this stack, over the heap hp, the method ends with the answer v and the heap hp' -/
def AR (L : Nat) (xs : Nat → Int32) (d : Nat) (M : MD) (pc : Nat) (ls : LSt) (st : List Value) (hp : AH) (v : Option Value) (hp' : AH) : Prop :=
  hsz hp ≤ hsz hp' ∧ htot hp ≤ htot hp' ∧
  ∀ (p : Program) (l : Launch) (e : Env) (R : Room) (s : State) (m : MethodId) (args : Array Value) (below : List Frame) (meth : Method) (c : Code) (base b : Nat) (D : va_G) (cT : Nat → ClassId) (mc ms : Nat) (Qx : State → Prop),
    Cx L xs M d p R s m args meth c base b D cT mc ms → ls.length = M.2.2.1 →
    (∀ (pc' : Nat) (ls' : Array Slot) (H' : Heap) (locs' : List Loc), Ch base b cT D hp' s H' locs' → decode M.2.1 pc' = .ok (retI v, 1) → W p l e R s m args below meth c H' locs' mc ms Qx (F0 m pc' ls' (v.map (cv base b)).toList)) →
    ∀ (cells slots : Nat) (lsA : Array Slot) (H : Heap) (locs : List Loc), cells + hsz hp' = mc + hsz hp → slots + htot hp' = ms + htot hp → s.heap.size + cells = base + hsz hp → Ch base b cT D hp s H locs → Lh base b ls lsA →
      W p l e R s m args below meth c H locs cells slots Qx (F0 m pc lsA (st.map (cv base b)))
def PreM (L : Nat) (xs : Nat → Int32) (base b : Nat) (D : va_G) (cT : Nat → ClassId) (hp : AH) : State → Prop := fun U =>
  U.heap.size = base + hsz hp ∧ va_P D vwCl (cw base b cT hp) U.heap ∧ va_K D vwCl (tysL cT) U ∧ (∀ w ∈ nestL, va_Nw w U) ∧ (∀ C ∈ [RX0, RX1, RX3, RX4], va_AO C U) ∧ va_X b L xs U U.heap ∧ b < base
def mQ (base b : Nat) (D : va_G) (cT : Nat → ClassId) (v : Option Value) (hp' : AH) : Array Value → State → Outcome → State → Prop := fun _ st oc t =>
  oc = .returned (v.map (cv base b)) ∧ va_P D vwCl (cw base b cT hp') t.heap ∧ t.heap.size = base + hsz hp' ∧ va_F (fun q => base ≤ q) st t
/-- a method: on these arguments, over the heap hp, it ends with v and hp' -/
def AM (L : Nat) (xs : Nat → Int32) (d : Nat) (M : MD) (args : List Value) (hp : AH) (v : Option Value) (hp' : AH) : Prop :=
  hsz hp ≤ hsz hp' ∧ htot hp ≤ htot hp' ∧
  ∀ (l : Launch) (base b : Nat) (D : va_G) (cT : Nat → ClassId),
    Met l M.1 (wsM M) (rmD d (hsz hp' - hsz hp) (htot hp' - htot hp)) (va_Pc (args.map (cv base b)) (PreM L xs base b D cT hp)) (mQ base b D cT v hp') (hsz hp' - hsz hp) (htot hp' - htot hp) (fun q => base ≤ q)
/-- the answer is as the method's type has it -/
def retOk : Option FieldType → Option Value → Prop
  | none, none => True
  | some .int, some (.int _) => True
  | some .boolean, some (.int x) => x = 0 ∨ x = 1
  | some .long, some (.long _) => True
  | some .double, some (.double _) => True
  | some (.object _), some (.ref _) => True
  | _, _ => False
theorem narrow_01 {x : Int32} (h : x = 0 ∨ x = 1) : narrow .boolean (.int x) = .int x := by rcases h with rfl | rfl <;> rfl
theorem fits_01 {x : Int32} (h : x = 0 ∨ x = 1) : fits .boolean (.int x) = true := by rcases h with rfl | rfl <;> rfl
theorem nest_calling {U : State} (g : JFrame) (mk : MethodId) (a : Array Value) (h : ∀ w ∈ nestL, va_Nw w U) : ∀ w ∈ nestL, va_Nw w (U.calling g mk a) := nest_same (u := U) (U := U.calling g mk a) rfl h
theorem PreM.blind {L : Nat} {xs : Nat → Int32} {base b : Nat} {D : va_G} {cT : Nat → ClassId} {hp : AH} {As : List Value} : FrameBlind (va_Pc As (PreM L xs base b D cT hp)) := by
  rintro a U g mk ⟨q0, q1, q2, q3, q4, q5, q6, q7⟩
  exact ⟨q0, q1, q2, va_K.moved (u := U) (U := U.calling g mk a) (Vm.Alike.refl U.vm) q3, nest_calling g mk a q4, fun C hC => (q5 C hC).moved (u := U) (U := U.calling g mk a) (Vm.Alike.refl U.vm), va_X.moved (u := U) (U := U.calling g mk a) (Vm.Alike.refl U.vm) q6, q7⟩
/-- a method out of its body -/
theorem AM.of {L : Nat} {xs : Nat → Int32} {d : Nat} {M : MD} {args : List Value} {ls : LSt} {hp : AH} {v : Option Value} {hp' : AH} (hp0 : plainName M.1.cls = true) (hret : retOk M.2.2.2 v) (hent : ent M.2.2.1 args = ls) (hfit : (ent0 args).length ≤ M.2.2.1) (h : AR L xs d M 0 ls [] hp v hp') : AM L xs d M args hp v hp' := by
  obtain ⟨h1, h2, h3⟩ := h
  refine ⟨h1, h2, fun l base b D cT => ?_⟩
  refine Met.ofW (cc := M.2.1) (maxL := M.2.2.1) (ret := M.2.2.2) hp0 rfl ?_
  intro p e s m args' below meth c s₁ B hml hv'
  obtain ⟨rfl, hz, hP, hK, hN, hO, hX, hbb⟩ := hv'
  have hts := atoms_spec (ws := wsM M) B.pre
  have hown : s.vm.findClass M.1.cls = some m.cls := findClass_of_methodNamed B.named
  have hname := (name_of_methodNamed B.named B.method).1
  have hlocks : meth.locks = false := B.notSynchronized
  have hr := B.returns
  have hx := B.exec
  have hb := B.bytes
  rw [lg_entry_eq]
  have hbl : b < s.heap.size := by omega
  refine h3 p l e _ s m _ below meth c base b D cT (hsz hp' - hsz hp) (htot hp' - htot hp) _ ⟨hx, hb, hml, hown, fun w hw => hts w (List.mem_cons_of_mem _ hw), hN, hK, hO, fun q => by rw [hname, q], Nat.le_refl _, Nat.le_refl _, Nat.le_refl _, Nat.le_refl _, hX, hbl, hbb, by omega⟩ (by rw [← hent]; simp [ent]; omega) ?_ 0 0 _ s.heap [] (by omega) (by omega) (by omega) ⟨hP, va_S.rf, hz⟩ (by rw [← hent]; exact ent_has hfit)
  intro pc' ls' H' locs' hC hd
  have hq : ∀ (v' : Option Value), v' = v.map (cv base b) → ∀ t : State, t.heap = H' → s.WarmedH t.vm → mQ base b D cT v hp' (args.map (cv base b)).toArray s (.returned v') t := by
    rintro v' rfl t ht hW
    exact ⟨rfl, by rw [ht]; exact hC.1, by rw [ht]; exact hC.2.2, hC.2.1.F ht⟩
  have hf : ∀ q ∈ locs', (fun q => base ≤ q) q.base := hC.2.1.2.2
  generalize M.2.2.2 = rt at hret hr
  cases v with
  | none =>
    cases rt with
    | none => exact W.vret hx hb hr (hq _ rfl) hf hd hlocks
    | some ty => cases ty <;> exact absurd hret (fun z => z)
  | some x =>
    cases rt with
    | none => cases x <;> exact absurd hret (fun z => z)
    | some ty =>
      cases ty <;> cases x <;> first
        | exact absurd hret (fun z => z)
        | exact W.iret hx hb hr (hq _ rfl) hf hd hlocks
        | exact W.zret hx hb hr (narrow_01 hret) (hq _ rfl) hf hd hlocks
        | exact W.lret hx hb hr (hq _ rfl) hf hd hlocks
        | exact W.dret hx hb hr (hq _ rfl) hf hd hlocks
        | exact W.aret hx hb hr (Or.inl ⟨_, rfl⟩) (Or.inr ⟨_, rfl⟩) (hq _ rfl) hf hd hlocks
/-- the size of the heap is known: no more cells than were made -/
theorem W_size {p : Program} {l : Launch} {e : Env} {R : Room} {s : State} {m : MethodId} {args : Array Value} {below : List Frame} {meth : Method} {c : Code} {H : Heap} {locs : List Loc} {cells slots : Nat} {Q : State → Prop} {g : JFrame}
    (k : H.size ≤ s.heap.size + cells → W p l e R s m args below meth c H locs cells slots Q g) : W p l e R s m args below meth c H locs cells slots Q g := by
  intro T hT X
  exact k (by rw [← hT]; exact X.heapSize) T hT X
/-- what has been written since H0 and since H -/
theorem va_S.tr {A : Nat → Prop} {H0 H H1 : Heap} {locs locs1 : List Loc} (h : va_S A H0 H locs) (h1 : va_S A H H1 locs1) : va_S A H0 H1 locs1 :=
  ⟨Nat.le_trans h.1 h1.1, fun q a b => (h1.2.1 q (Nat.lt_of_lt_of_le a h.1) b).trans (h.2.1 q a b), h1.2.2⟩
theorem va_S.self {A : Nat → Prop} {H0 H : Heap} {locs : List Loc} (h : va_S A H0 H locs) : va_S A H H locs := ⟨Nat.le_refl _, fun _ _ _ => rfl, h.2.2⟩
