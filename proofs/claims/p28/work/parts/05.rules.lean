/-! ===== the rules: an instruction each ===== -/
/-- from here on, the method ends with an answer and a heap of which Q holds -/
def WP (L : Nat) (xs : Nat → Int32) (d : Nat) (M : MD) (pc : Nat) (ls : LSt) (st : List Value) (hp : AH) (Q : Option Value → AH → Prop) : Prop := ∃ v hp', AR L xs d M pc ls st hp v hp' ∧ Q v hp'
def WM (L : Nat) (xs : Nat → Int32) (d : Nat) (M : MD) (args : List Value) (hp : AH) (Q : Option Value → AH → Prop) : Prop := ∃ v hp', AM L xs d M args hp v hp' ∧ Q v hp'
theorem WP.mono {L : Nat} {xs : Nat → Int32} {d : Nat} {M : MD} {pc : Nat} {ls : LSt} {st : List Value} {hp : AH} {Q Q' : Option Value → AH → Prop} (h : WP L xs d M pc ls st hp Q) (hq : ∀ v hp', Q v hp' → Q' v hp') : WP L xs d M pc ls st hp Q' := by
  obtain ⟨v, hp', a, b⟩ := h
  exact ⟨v, hp', a, hq _ _ b⟩
theorem WM.mono {L : Nat} {xs : Nat → Int32} {d : Nat} {M : MD} {args : List Value} {hp : AH} {Q Q' : Option Value → AH → Prop} (h : WM L xs d M args hp Q) (hq : ∀ v hp', Q v hp' → Q' v hp') : WM L xs d M args hp Q' := by
  obtain ⟨v, hp', a, b⟩ := h
  exact ⟨v, hp', a, hq _ _ b⟩
theorem WM.of {L : Nat} {xs : Nat → Int32} {d : Nat} {M : MD} {args : List Value} {hp : AH} {Q : Option Value → AH → Prop} (ls : LSt) (hp0 : plainName M.1.cls = true) (hent : ent M.2.2.1 args = ls) (hfit : (ent0 args).length ≤ M.2.2.1) (h : WP L xs d M 0 ls [] hp (fun v hp' => retOk M.2.2.2 v ∧ Q v hp')) : WM L xs d M args hp Q := by
  obtain ⟨v, hp', a, b, c⟩ := h
  exact ⟨v, hp', AM.of hp0 b hent hfit a, c⟩
section RULES
variable {L : Nat} {xs : Nat → Int32} {d : Nat} {M : MD} {pc : Nat} {ls : LSt} {st : List Value} {hp : AH} {Q : Option Value → AH → Prop}
/-- an instruction that doesn't touch the heap -/
theorem WP.pure {pc' : Nat} {ls' : LSt} {st' : List Value} (k : WP L xs d M pc' ls' st' hp Q) (hlen : ls'.length = ls.length)
    (hs : ∀ (p : Program) (l : Launch) (e : Env) (R : Room) (s : State) (m : MethodId) (args : Array Value) (below : List Frame) (meth : Method) (c : Code) (base b : Nat) (H : Heap) (locs : List Loc) (cells slots : Nat) (Qx : State → Prop) (lsA : Array Slot),
      p.tables.exec = Jvm.exec → c.code = M.2.1 → s.vm.findClass M.1.cls = some m.cls → (∀ w ∈ Wall, w.before args s = true) → Lh base b ls lsA →
      (∀ lsB : Array Slot, Lh base b ls' lsB → W p l e R s m args below meth c H locs cells slots Qx (F0 m pc' lsB (st'.map (cv base b)))) →
      W p l e R s m args below meth c H locs cells slots Qx (F0 m pc lsA (st.map (cv base b)))) : WP L xs d M pc ls st hp Q := by
  obtain ⟨v, hp', ⟨h1, h2, h3⟩, q⟩ := k
  refine ⟨v, hp', ⟨h1, h2, ?_⟩, q⟩
  intro p l e R s m args below meth c base b D cT mc ms Qx hc hl hexit cells slots lsA H locs e1 e2 e3 hC hL
  have hc' := hc
  obtain ⟨c1, c2, c3, c4, c5, -⟩ := hc'
  exact hs p l e R s m args below meth c base b H locs cells slots Qx lsA c1 c2 c4 c5 hL fun lsB hB => h3 p l e R s m args below meth c base b D cT mc ms Qx hc (hlen.trans hl) hexit cells slots lsB H locs e1 e2 e3 hC hB
/-- one that keeps the locals -/
theorem WP.keep {pc' : Nat} {st' : List Value} (k : WP L xs d M pc' ls st' hp Q)
    (hs : ∀ (p : Program) (l : Launch) (e : Env) (R : Room) (s : State) (m : MethodId) (args : Array Value) (below : List Frame) (meth : Method) (c : Code) (base b : Nat) (H : Heap) (locs : List Loc) (cells slots : Nat) (Qx : State → Prop) (lsA : Array Slot),
      p.tables.exec = Jvm.exec → c.code = M.2.1 → s.vm.findClass M.1.cls = some m.cls → (∀ w ∈ Wall, w.before args s = true) → Lh base b ls lsA →
      W p l e R s m args below meth c H locs cells slots Qx (F0 m pc' lsA (st'.map (cv base b))) →
      W p l e R s m args below meth c H locs cells slots Qx (F0 m pc lsA (st.map (cv base b)))) : WP L xs d M pc ls st hp Q :=
  WP.pure k rfl fun p l e R s m args below meth c base b H locs cells slots Qx lsA c1 c2 c4 c5 hL kk => hs p l e R s m args below meth c base b H locs cells slots Qx lsA c1 c2 c4 c5 hL (kk lsA hL)
/-- knowing less of the locals -/
theorem WP.less {ls' : LSt} (k : WP L xs d M pc ls' st hp Q) (hlen : ls'.length = ls.length) (h : ∀ (i : Nat) (v : Value), ls'[i]? = some (some v) → ls[i]? = some (some v)) : WP L xs d M pc ls st hp Q :=
  WP.pure k hlen fun p l e R s m args below meth c base b H locs cells slots Qx lsA c1 c2 c4 c5 hL kk => kk lsA ⟨by rw [hlen]; exact hL.1, hL.2.1, fun q hq => by
    obtain ⟨j, w⟩ := q
    obtain ⟨i, v, a1, a2, a3⟩ := lvl_mem.mp hq
    exact hL.2.2 (j, w) (lvl_mem.mpr ⟨i, v, h i v a1, a2, a3⟩)⟩
theorem wp_ret {v : Option Value} (hd : decode M.2.1 pc = .ok (retI v, 1)) (hst : st = v.toList) (h : Q v hp) : WP L xs d M pc ls st hp Q := by
  refine ⟨v, hp, ⟨Nat.le_refl _, Nat.le_refl _, ?_⟩, h⟩
  intro p l e R s m args below meth c base b D cT mc ms Qx hc hl hexit cells slots lsA H locs e1 e2 e3 hC hL
  have h1 : cells = mc := by omega
  have h2 : slots = ms := by omega
  subst h1; subst h2; subst hst
  have hh := hexit pc lsA H locs hC hd
  rwa [show v.toList.map (cv base b) = (v.map (cv base b)).toList by cases v <;> rfl]
theorem wp_iconst {n : Int} {v : Int32} (hd : decode M.2.1 pc = .ok (.iconst n, 1)) (hv : Int32.ofInt n = v) (k : WP L xs d M (pc + 1) ls (.int v :: st) hp Q) : WP L xs d M pc ls st hp Q :=
  WP.keep k fun p l e R s m args below meth c base b H locs cells slots Qx lsA c1 c2 c4 c5 hL kk => lv_iconst c1 c2 hd hv kk
theorem wp_bipush {n : Int} {v : Int32} (hd : decode M.2.1 pc = .ok (.bipush n, 2)) (hv : (Int8.ofInt n).toInt32 = v) (k : WP L xs d M (pc + 2) ls (.int v :: st) hp Q) : WP L xs d M pc ls st hp Q :=
  WP.keep k fun p l e R s m args below meth c base b H locs cells slots Qx lsA c1 c2 c4 c5 hL kk => lv_bipush c1 c2 hd hv kk
theorem wp_sipush {n : Int} {v : Int32} (hd : decode M.2.1 pc = .ok (.sipush n, 3)) (hv : (Int16.ofInt n).toInt32 = v) (k : WP L xs d M (pc + 3) ls (.int v :: st) hp Q) : WP L xs d M pc ls st hp Q :=
  WP.keep k fun p l e R s m args below meth c base b H locs cells slots Qx lsA c1 c2 c4 c5 hL kk => lv_sipush c1 c2 hd hv kk
theorem wp_ldc {idx : Nat} {v : Int32} (hd : decode M.2.1 pc = .ok (.ldc idx, 2)) (hw : .constant M.1.cls idx v ∈ Wall) (k : WP L xs d M (pc + 2) ls (.int v :: st) hp Q) : WP L xs d M pc ls st hp Q :=
  WP.keep k fun p l e R s m args below meth c base b H locs cells slots Qx lsA c1 c2 c4 c5 hL kk => lv_ldc c1 c2 c4 (c5 _ hw) hd kk
theorem wp_ldc2 {idx : Nat} {v : Int64} (hd : decode M.2.1 pc = .ok (.ldc2_w idx, 3)) (hw : .constantLong M.1.cls idx v ∈ Wall) (k : WP L xs d M (pc + 3) ls (.long v :: st) hp Q) : WP L xs d M pc ls st hp Q :=
  WP.keep k fun p l e R s m args below meth c base b H locs cells slots Qx lsA c1 c2 c4 c5 hL kk => lv_ldc2 c1 c2 c4 (c5 _ hw) hd kk
theorem wp_dconst0 (hd : decode M.2.1 pc = .ok (.dconst 0, 1)) (k : WP L xs d M (pc + 1) ls (.double FP.dconst0 :: st) hp Q) : WP L xs d M pc ls st hp Q :=
  WP.keep k fun p l e R s m args below meth c base b H locs cells slots Qx lsA c1 c2 c4 c5 hL kk => lv_dconst0 c1 c2 hd kk
theorem wp_dconst1 (hd : decode M.2.1 pc = .ok (.dconst 1, 1)) (k : WP L xs d M (pc + 1) ls (.double FP.dconst1 :: st) hp Q) : WP L xs d M pc ls st hp Q :=
  WP.keep k fun p l e R s m args below meth c base b H locs cells slots Qx lsA c1 c2 c4 c5 hL kk => lv_dconst1 c1 c2 hd kk
theorem wp_iload_n {n : Fin 4} {i : Nat} {x : Int32} (hd : decode M.2.1 pc = .ok (.iload_n n, 1)) (hi : (n : Nat) = i) (hl : ls[i]? = some (some (.int x))) (k : WP L xs d M (pc + 1) ls (.int x :: st) hp Q) : WP L xs d M pc ls st hp Q :=
  WP.keep k fun p l e R s m args below meth c base b H locs cells slots Qx lsA c1 c2 c4 c5 hL kk => lv_iload_n c1 c2 hd hi (hL.get hl) kk
theorem wp_iload {i : Nat} {x : Int32} (hd : decode M.2.1 pc = .ok (.iload i, 2)) (hl : ls[i]? = some (some (.int x))) (k : WP L xs d M (pc + 2) ls (.int x :: st) hp Q) : WP L xs d M pc ls st hp Q :=
  WP.keep k fun p l e R s m args below meth c base b H locs cells slots Qx lsA c1 c2 c4 c5 hL kk => lv_iload c1 c2 hd (hL.get hl) kk
theorem wp_lload_n {n : Fin 4} {i : Nat} {x : Int64} (hd : decode M.2.1 pc = .ok (.lload_n n, 1)) (hi : (n : Nat) = i) (hl : ls[i]? = some (some (.long x))) (k : WP L xs d M (pc + 1) ls (.long x :: st) hp Q) : WP L xs d M pc ls st hp Q :=
  WP.keep k fun p l e R s m args below meth c base b H locs cells slots Qx lsA c1 c2 c4 c5 hL kk => lv_lload_n c1 c2 hd hi (hL.get hl) kk
theorem wp_lload {i : Nat} {x : Int64} (hd : decode M.2.1 pc = .ok (.lload i, 2)) (hl : ls[i]? = some (some (.long x))) (k : WP L xs d M (pc + 2) ls (.long x :: st) hp Q) : WP L xs d M pc ls st hp Q :=
  WP.keep k fun p l e R s m args below meth c base b H locs cells slots Qx lsA c1 c2 c4 c5 hL kk => lv_lload c1 c2 hd (hL.get hl) kk
theorem wp_aload_n {n : Fin 4} {i x : Nat} (hd : decode M.2.1 pc = .ok (.aload_n n, 1)) (hi : (n : Nat) = i) (hl : ls[i]? = some (some (.ref x))) (k : WP L xs d M (pc + 1) ls (.ref x :: st) hp Q) : WP L xs d M pc ls st hp Q :=
  WP.keep k fun p l e R s m args below meth c base b H locs cells slots Qx lsA c1 c2 c4 c5 hL kk => lv_aload_n c1 c2 hd hi (hL.get hl) kk
theorem wp_aload {i x : Nat} (hd : decode M.2.1 pc = .ok (.aload i, 2)) (hl : ls[i]? = some (some (.ref x))) (k : WP L xs d M (pc + 2) ls (.ref x :: st) hp Q) : WP L xs d M pc ls st hp Q :=
  WP.keep k fun p l e R s m args below meth c base b H locs cells slots Qx lsA c1 c2 c4 c5 hL kk => lv_aload c1 c2 hd (hL.get hl) kk
theorem wp_istore_n {n : Fin 4} {i : Nat} {x : Int32} (hd : decode M.2.1 pc = .ok (.istore_n n, 1)) (hi : (n : Nat) = i) (hn : i < ls.length) (k : WP L xs d M (pc + 1) (ls1 ls i (.int x)) st hp Q) : WP L xs d M pc ls (.int x :: st) hp Q :=
  WP.pure k (ls1_len _ _ _) fun p l e R s m args below meth c base b H locs cells slots Qx lsA c1 c2 c4 c5 hL kk => lv_istore_n c1 c2 hd hi hL hn rfl (fun lsB hB => kk lsB (Lh.st1 hB))
theorem wp_istore {i : Nat} {x : Int32} (hd : decode M.2.1 pc = .ok (.istore i, 2)) (hn : i < ls.length) (k : WP L xs d M (pc + 2) (ls1 ls i (.int x)) st hp Q) : WP L xs d M pc ls (.int x :: st) hp Q :=
  WP.pure k (ls1_len _ _ _) fun p l e R s m args below meth c base b H locs cells slots Qx lsA c1 c2 c4 c5 hL kk => lv_istore c1 c2 hd hL hn rfl (fun lsB hB => kk lsB (Lh.st1 hB))
theorem wp_astore_n {n : Fin 4} {i x : Nat} (hd : decode M.2.1 pc = .ok (.astore_n n, 1)) (hi : (n : Nat) = i) (hn : i < ls.length) (k : WP L xs d M (pc + 1) (ls1 ls i (.ref x)) st hp Q) : WP L xs d M pc ls (.ref x :: st) hp Q :=
  WP.pure k (ls1_len _ _ _) fun p l e R s m args below meth c base b H locs cells slots Qx lsA c1 c2 c4 c5 hL kk => lv_astore_n c1 c2 hd hi hL hn rfl (fun lsB hB => kk lsB (Lh.st1 (v := .ref x) hB))
theorem wp_astore {i x : Nat} (hd : decode M.2.1 pc = .ok (.astore i, 2)) (hn : i < ls.length) (k : WP L xs d M (pc + 2) (ls1 ls i (.ref x)) st hp Q) : WP L xs d M pc ls (.ref x :: st) hp Q :=
  WP.pure k (ls1_len _ _ _) fun p l e R s m args below meth c base b H locs cells slots Qx lsA c1 c2 c4 c5 hL kk => lv_astore c1 c2 hd hL hn rfl (fun lsB hB => kk lsB (Lh.st1 (v := .ref x) hB))
theorem wp_lstore_n {n : Fin 4} {i : Nat} {x : Int64} (hd : decode M.2.1 pc = .ok (.lstore_n n, 1)) (hi : (n : Nat) = i) (hn : i + 1 < ls.length) (k : WP L xs d M (pc + 1) (ls2 ls i (.long x)) st hp Q) : WP L xs d M pc ls (.long x :: st) hp Q :=
  WP.pure k (ls2_len _ _ _) fun p l e R s m args below meth c base b H locs cells slots Qx lsA c1 c2 c4 c5 hL kk => lv_lstore_n c1 c2 hd hi hL hn rfl (fun lsB hB => kk lsB (Lh.st2 hB))
theorem wp_lstore {i : Nat} {x : Int64} (hd : decode M.2.1 pc = .ok (.lstore i, 2)) (hn : i + 1 < ls.length) (k : WP L xs d M (pc + 2) (ls2 ls i (.long x)) st hp Q) : WP L xs d M pc ls (.long x :: st) hp Q :=
  WP.pure k (ls2_len _ _ _) fun p l e R s m args below meth c base b H locs cells slots Qx lsA c1 c2 c4 c5 hL kk => lv_lstore c1 c2 hd hL hn rfl (fun lsB hB => kk lsB (Lh.st2 hB))
theorem wp_iinc {i : Nat} {n : Int} {x v : Int32} (hd : decode M.2.1 pc = .ok (.iinc i n, 3)) (hl : ls[i]? = some (some (.int x))) (hv : x + Int32.ofInt n = v) (k : WP L xs d M (pc + 3) (ls1 ls i (.int v)) st hp Q) : WP L xs d M pc ls st hp Q :=
  WP.pure k (ls1_len _ _ _) fun p l e R s m args below meth c base b H locs cells slots Qx lsA c1 c2 c4 c5 hL kk => by
    have hm : (i, cv base b (.int x)) ∈ lvl base b 0 ls := lvl_mem.mpr ⟨i, _, hl, by omega, rfl⟩
    obtain ⟨kk9, hk9⟩ := List.getElem?_of_mem hm
    exact lv_iinc c1 c2 hd hL hk9 hv (List.getElem?_eq_some_iff.mp hl).1 rfl (fun lsB hB => kk lsB (Lh.st1 hB))
theorem wp_iadd {x y : Int32} (hd : decode M.2.1 pc = .ok (.iadd, 1)) (k : WP L xs d M (pc + 1) ls (.int (x + y) :: st) hp Q) : WP L xs d M pc ls (.int y :: .int x :: st) hp Q :=
  WP.keep k fun p l e R s m args below meth c base b H locs cells slots Qx lsA c1 c2 c4 c5 hL kk => lv_iadd c1 c2 hd kk
theorem wp_isub {x y : Int32} (hd : decode M.2.1 pc = .ok (.isub, 1)) (k : WP L xs d M (pc + 1) ls (.int (x - y) :: st) hp Q) : WP L xs d M pc ls (.int y :: .int x :: st) hp Q :=
  WP.keep k fun p l e R s m args below meth c base b H locs cells slots Qx lsA c1 c2 c4 c5 hL kk => lv_isub c1 c2 hd kk
theorem wp_imul {x y : Int32} (hd : decode M.2.1 pc = .ok (.imul, 1)) (k : WP L xs d M (pc + 1) ls (.int (x * y) :: st) hp Q) : WP L xs d M pc ls (.int y :: .int x :: st) hp Q :=
  WP.keep k fun p l e R s m args below meth c base b H locs cells slots Qx lsA c1 c2 c4 c5 hL kk => lv_imul c1 c2 hd kk
theorem wp_iand {x y : Int32} (hd : decode M.2.1 pc = .ok (.iand, 1)) (k : WP L xs d M (pc + 1) ls (.int (x &&& y) :: st) hp Q) : WP L xs d M pc ls (.int y :: .int x :: st) hp Q :=
  WP.keep k fun p l e R s m args below meth c base b H locs cells slots Qx lsA c1 c2 c4 c5 hL kk => lv_iand c1 c2 hd kk
theorem wp_ior {x y : Int32} (hd : decode M.2.1 pc = .ok (.ior, 1)) (k : WP L xs d M (pc + 1) ls (.int (x ||| y) :: st) hp Q) : WP L xs d M pc ls (.int y :: .int x :: st) hp Q :=
  WP.keep k fun p l e R s m args below meth c base b H locs cells slots Qx lsA c1 c2 c4 c5 hL kk => lv_ior c1 c2 hd kk
theorem wp_ixor {x y : Int32} (hd : decode M.2.1 pc = .ok (.ixor, 1)) (k : WP L xs d M (pc + 1) ls (.int (x ^^^ y) :: st) hp Q) : WP L xs d M pc ls (.int y :: .int x :: st) hp Q :=
  WP.keep k fun p l e R s m args below meth c base b H locs cells slots Qx lsA c1 c2 c4 c5 hL kk => lv_ixor c1 c2 hd kk
theorem wp_irem {x y : Int32} (hd : decode M.2.1 pc = .ok (.irem, 1)) (hne : ¬ y = 0) (k : WP L xs d M (pc + 1) ls (.int (x - x / y * y) :: st) hp Q) : WP L xs d M pc ls (.int y :: .int x :: st) hp Q :=
  WP.keep k fun p l e R s m args below meth c base b H locs cells slots Qx lsA c1 c2 c4 c5 hL kk => lv_irem c1 c2 hd hne kk
theorem wp_idiv {x y : Int32} (hd : decode M.2.1 pc = .ok (.idiv, 1)) (hne : ¬ y = 0) (k : WP L xs d M (pc + 1) ls (.int (x / y) :: st) hp Q) : WP L xs d M pc ls (.int y :: .int x :: st) hp Q :=
  WP.keep k fun p l e R s m args below meth c base b H locs cells slots Qx lsA c1 c2 c4 c5 hL kk => lv_idiv c1 c2 hd hne kk
theorem wp_ishl {x y : Int32} (hd : decode M.2.1 pc = .ok (.ishl, 1)) (k : WP L xs d M (pc + 1) ls (.int (x <<< (y &&& 31)) :: st) hp Q) : WP L xs d M pc ls (.int y :: .int x :: st) hp Q :=
  WP.keep k fun p l e R s m args below meth c base b H locs cells slots Qx lsA c1 c2 c4 c5 hL kk => lv_ishl c1 c2 hd kk
theorem wp_ishr {x y : Int32} (hd : decode M.2.1 pc = .ok (.ishr, 1)) (k : WP L xs d M (pc + 1) ls (.int (x >>> (y &&& 31)) :: st) hp Q) : WP L xs d M pc ls (.int y :: .int x :: st) hp Q :=
  WP.keep k fun p l e R s m args below meth c base b H locs cells slots Qx lsA c1 c2 c4 c5 hL kk => lv_ishr c1 c2 hd kk
theorem wp_i2l {x : Int32} (hd : decode M.2.1 pc = .ok (.i2l, 1)) (k : WP L xs d M (pc + 1) ls (.long x.toInt64 :: st) hp Q) : WP L xs d M pc ls (.int x :: st) hp Q :=
  WP.keep k fun p l e R s m args below meth c base b H locs cells slots Qx lsA c1 c2 c4 c5 hL kk => lv_i2l c1 c2 hd rfl kk
theorem wp_ladd {x y : Int64} (hd : decode M.2.1 pc = .ok (.ladd, 1)) (k : WP L xs d M (pc + 1) ls (.long (x + y) :: st) hp Q) : WP L xs d M pc ls (.long y :: .long x :: st) hp Q :=
  WP.keep k fun p l e R s m args below meth c base b H locs cells slots Qx lsA c1 c2 c4 c5 hL kk => lv_ladd c1 c2 hd kk
theorem wp_lmul {x y : Int64} (hd : decode M.2.1 pc = .ok (.lmul, 1)) (k : WP L xs d M (pc + 1) ls (.long (x * y) :: st) hp Q) : WP L xs d M pc ls (.long y :: .long x :: st) hp Q :=
  WP.keep k fun p l e R s m args below meth c base b H locs cells slots Qx lsA c1 c2 c4 c5 hL kk => lv_lmul c1 c2 hd kk
theorem wp_lcmp {x y : Int64} (hd : decode M.2.1 pc = .ok (.lcmp, 1)) (k : WP L xs d M (pc + 1) ls (.int (lg_cmp x y) :: st) hp Q) : WP L xs d M pc ls (.long y :: .long x :: st) hp Q :=
  WP.keep k fun p l e R s m args below meth c base b H locs cells slots Qx lsA c1 c2 c4 c5 hL kk => W.lcmp c1 c2 hd kk
theorem wp_i2d {x : Int32} (hd : decode M.2.1 pc = .ok (.i2d, 1)) (k : WP L xs d M (pc + 1) ls (.double (FP.i2d x) :: st) hp Q) : WP L xs d M pc ls (.int x :: st) hp Q :=
  WP.keep k fun p l e R s m args below meth c base b H locs cells slots Qx lsA c1 c2 c4 c5 hL kk => lv_i2d c1 c2 hd kk
theorem wp_ddiv {x y : UInt64} (hd : decode M.2.1 pc = .ok (.ddiv, 1)) (hne : vf_n64 (FP.ddiv x y)) (k : WP L xs d M (pc + 1) ls (.double (FP.ddiv x y) :: st) hp Q) : WP L xs d M pc ls (.double y :: .double x :: st) hp Q :=
  WP.keep k fun p l e R s m args below meth c base b H locs cells slots Qx lsA c1 c2 c4 c5 hL kk => lv_ddiv c1 c2 hd hne kk
theorem wp_dcmp {x y : UInt64} {op : CmpOp} (hd : decode M.2.1 pc = .ok (.dcmp op, 1)) (k : WP L xs d M (pc + 1) ls (.int (Op.cmpValue (FP.dcmp x y) op) :: st) hp Q) : WP L xs d M pc ls (.double y :: .double x :: st) hp Q :=
  WP.keep k fun p l e R s m args below meth c base b H locs cells slots Qx lsA c1 c2 c4 c5 hL kk => lv_dcmp c1 c2 hd kk
theorem wp_dup {v : Value} (hd : decode M.2.1 pc = .ok (.dup, 1)) (hv : v.category = 1) (k : WP L xs d M (pc + 1) ls (v :: v :: st) hp Q) : WP L xs d M pc ls (v :: st) hp Q :=
  WP.keep k fun p l e R s m args below meth c base b H locs cells slots Qx lsA c1 c2 c4 c5 hL kk => lv_dup c1 c2 hd (by rw [cv_cat]; exact hv) kk
theorem wp_pop {v : Value} (hd : decode M.2.1 pc = .ok (.pop, 1)) (hv : v.category = 1) (k : WP L xs d M (pc + 1) ls st hp Q) : WP L xs d M pc ls (v :: st) hp Q :=
  WP.keep k fun p l e R s m args below meth c base b H locs cells slots Qx lsA c1 c2 c4 c5 hL kk => lv_pop c1 c2 hd (by rw [cv_cat]; exact hv) kk
theorem wp_dup2 {v w : Value} (hd : decode M.2.1 pc = .ok (.dup2, 1)) (hv : v.category = 1) (hw : w.category = 1) (k : WP L xs d M (pc + 1) ls (v :: w :: v :: w :: st) hp Q) : WP L xs d M pc ls (v :: w :: st) hp Q :=
  WP.keep k fun p l e R s m args below meth c base b H locs cells slots Qx lsA c1 c2 c4 c5 hL kk => lv_dup2_11 c1 c2 hd (by rw [cv_cat]; exact hv) (by rw [cv_cat]; exact hw) kk
theorem wp_goto {off : Int} {tgt : Nat} (hd : decode M.2.1 pc = .ok (.goto off, 3)) (ht : (pc : Int) + off = (tgt : Int)) (k : WP L xs d M tgt ls st hp Q) : WP L xs d M pc ls st hp Q :=
  WP.keep k fun p l e R s m args below meth c base b H locs cells slots Qx lsA c1 c2 c4 c5 hL kk => lv_goto c1 c2 hd ht kk
theorem wp_tabIn {dflt lo hi : Int} {offs : Array Int} {len : Nat} {x : Int32} {off : Int} {tgt : Nat} (hd : decode M.2.1 pc = .ok (.tableswitch dflt lo hi offs, len)) (h1 : ¬ x.toInt < lo) (h2 : ¬ hi < x.toInt) (ho : offs[(x.toInt - lo).toNat]? = some off) (ht : (pc : Int) + off = (tgt : Int)) (k : WP L xs d M tgt ls st hp Q) : WP L xs d M pc ls (.int x :: st) hp Q :=
  WP.keep k fun p l e R s m args below meth c base b H locs cells slots Qx lsA c1 c2 c4 c5 hL kk => lv_tableIn c1 c2 hd h1 h2 ho ht kk
theorem wp_tabOut {dflt lo hi : Int} {offs : Array Int} {len : Nat} {x : Int32} {tgt : Nat} (hd : decode M.2.1 pc = .ok (.tableswitch dflt lo hi offs, len)) (h : x.toInt < lo ∨ hi < x.toInt) (ht : (pc : Int) + dflt = (tgt : Int)) (k : WP L xs d M tgt ls st hp Q) : WP L xs d M pc ls (.int x :: st) hp Q :=
  WP.keep k fun p l e R s m args below meth c base b H locs cells slots Qx lsA c1 c2 c4 c5 hL kk => lv_tableOut c1 c2 hd h ht kk
theorem wp_if_eq {x : Int32} {off : Int} {tgt : Nat} (hd : decode M.2.1 pc = .ok (.ifCond .eq off, 3)) (ht : (pc : Int) + off = (tgt : Int)) (kt : x = 0 → WP L xs d M tgt ls st hp Q) (kf : ¬ (x = 0) → WP L xs d M (pc + 3) ls st hp Q) : WP L xs d M pc ls (.int x :: st) hp Q := by
  by_cases hc : x = 0
  · exact WP.keep (kt hc) fun p l e R s m args below meth c base b H locs cells slots Qx lsA c1 c2 c4 c5 hL kk => lv_if_eq c1 c2 hd ht (fun _ => kk) (fun n => absurd hc n)
  · exact WP.keep (kf hc) fun p l e R s m args below meth c base b H locs cells slots Qx lsA c1 c2 c4 c5 hL kk => lv_if_eq c1 c2 hd ht (fun n => absurd n hc) (fun _ => kk)
theorem wp_icmp_eq {x y : Int32} {off : Int} {tgt : Nat} (hd : decode M.2.1 pc = .ok (.if_icmp .eq off, 3)) (ht : (pc : Int) + off = (tgt : Int)) (kt : x = y → WP L xs d M tgt ls st hp Q) (kf : ¬ (x = y) → WP L xs d M (pc + 3) ls st hp Q) : WP L xs d M pc ls (.int y :: .int x :: st) hp Q := by
  by_cases hc : x = y
  · exact WP.keep (kt hc) fun p l e R s m args below meth c base b H locs cells slots Qx lsA c1 c2 c4 c5 hL kk => lv_icmp_eq c1 c2 hd ht (fun _ => kk) (fun n => absurd hc n)
  · exact WP.keep (kf hc) fun p l e R s m args below meth c base b H locs cells slots Qx lsA c1 c2 c4 c5 hL kk => lv_icmp_eq c1 c2 hd ht (fun n => absurd n hc) (fun _ => kk)
theorem wp_if_ne {x : Int32} {off : Int} {tgt : Nat} (hd : decode M.2.1 pc = .ok (.ifCond .ne off, 3)) (ht : (pc : Int) + off = (tgt : Int)) (kt : ¬ x = 0 → WP L xs d M tgt ls st hp Q) (kf : x = 0 → WP L xs d M (pc + 3) ls st hp Q) : WP L xs d M pc ls (.int x :: st) hp Q := by
  by_cases hc : x = 0
  · exact WP.keep (kf hc) fun p l e R s m args below meth c base b H locs cells slots Qx lsA c1 c2 c4 c5 hL kk => lv_if_ne c1 c2 hd ht (fun n => absurd hc n) (fun _ => kk)
  · exact WP.keep (kt hc) fun p l e R s m args below meth c base b H locs cells slots Qx lsA c1 c2 c4 c5 hL kk => lv_if_ne c1 c2 hd ht (fun _ => kk) (fun n => absurd n hc)
theorem wp_icmp_ne {x y : Int32} {off : Int} {tgt : Nat} (hd : decode M.2.1 pc = .ok (.if_icmp .ne off, 3)) (ht : (pc : Int) + off = (tgt : Int)) (kt : ¬ x = y → WP L xs d M tgt ls st hp Q) (kf : x = y → WP L xs d M (pc + 3) ls st hp Q) : WP L xs d M pc ls (.int y :: .int x :: st) hp Q := by
  by_cases hc : x = y
  · exact WP.keep (kf hc) fun p l e R s m args below meth c base b H locs cells slots Qx lsA c1 c2 c4 c5 hL kk => lv_icmp_ne c1 c2 hd ht (fun n => absurd hc n) (fun _ => kk)
  · exact WP.keep (kt hc) fun p l e R s m args below meth c base b H locs cells slots Qx lsA c1 c2 c4 c5 hL kk => lv_icmp_ne c1 c2 hd ht (fun _ => kk) (fun n => absurd n hc)
theorem wp_if_lt {x : Int32} {off : Int} {tgt : Nat} (hd : decode M.2.1 pc = .ok (.ifCond .lt off, 3)) (ht : (pc : Int) + off = (tgt : Int)) (kt : x < 0 → WP L xs d M tgt ls st hp Q) (kf : ¬ (x < 0) → WP L xs d M (pc + 3) ls st hp Q) : WP L xs d M pc ls (.int x :: st) hp Q := by
  by_cases hc : x < 0
  · exact WP.keep (kt hc) fun p l e R s m args below meth c base b H locs cells slots Qx lsA c1 c2 c4 c5 hL kk => lv_if_lt c1 c2 hd ht (fun _ => kk) (fun n => absurd hc n)
  · exact WP.keep (kf hc) fun p l e R s m args below meth c base b H locs cells slots Qx lsA c1 c2 c4 c5 hL kk => lv_if_lt c1 c2 hd ht (fun n => absurd n hc) (fun _ => kk)
theorem wp_icmp_lt {x y : Int32} {off : Int} {tgt : Nat} (hd : decode M.2.1 pc = .ok (.if_icmp .lt off, 3)) (ht : (pc : Int) + off = (tgt : Int)) (kt : x < y → WP L xs d M tgt ls st hp Q) (kf : ¬ (x < y) → WP L xs d M (pc + 3) ls st hp Q) : WP L xs d M pc ls (.int y :: .int x :: st) hp Q := by
  by_cases hc : x < y
  · exact WP.keep (kt hc) fun p l e R s m args below meth c base b H locs cells slots Qx lsA c1 c2 c4 c5 hL kk => lv_icmp_lt c1 c2 hd ht (fun _ => kk) (fun n => absurd hc n)
  · exact WP.keep (kf hc) fun p l e R s m args below meth c base b H locs cells slots Qx lsA c1 c2 c4 c5 hL kk => lv_icmp_lt c1 c2 hd ht (fun n => absurd n hc) (fun _ => kk)
theorem wp_if_ge {x : Int32} {off : Int} {tgt : Nat} (hd : decode M.2.1 pc = .ok (.ifCond .ge off, 3)) (ht : (pc : Int) + off = (tgt : Int)) (kt : ¬ x < 0 → WP L xs d M tgt ls st hp Q) (kf : x < 0 → WP L xs d M (pc + 3) ls st hp Q) : WP L xs d M pc ls (.int x :: st) hp Q := by
  by_cases hc : x < 0
  · exact WP.keep (kf hc) fun p l e R s m args below meth c base b H locs cells slots Qx lsA c1 c2 c4 c5 hL kk => lv_if_ge c1 c2 hd ht (fun n => absurd hc (Int32.not_lt.mpr n)) (fun _ => kk)
  · exact WP.keep (kt hc) fun p l e R s m args below meth c base b H locs cells slots Qx lsA c1 c2 c4 c5 hL kk => lv_if_ge c1 c2 hd ht (fun _ => kk) (fun n => absurd (Int32.not_lt.mp hc) n)
theorem wp_icmp_ge {x y : Int32} {off : Int} {tgt : Nat} (hd : decode M.2.1 pc = .ok (.if_icmp .ge off, 3)) (ht : (pc : Int) + off = (tgt : Int)) (kt : ¬ x < y → WP L xs d M tgt ls st hp Q) (kf : x < y → WP L xs d M (pc + 3) ls st hp Q) : WP L xs d M pc ls (.int y :: .int x :: st) hp Q := by
  by_cases hc : x < y
  · exact WP.keep (kf hc) fun p l e R s m args below meth c base b H locs cells slots Qx lsA c1 c2 c4 c5 hL kk => lv_icmp_ge c1 c2 hd ht (fun n => absurd hc (Int32.not_lt.mpr n)) (fun _ => kk)
  · exact WP.keep (kt hc) fun p l e R s m args below meth c base b H locs cells slots Qx lsA c1 c2 c4 c5 hL kk => lv_icmp_ge c1 c2 hd ht (fun _ => kk) (fun n => absurd (Int32.not_lt.mp hc) n)
theorem wp_if_gt {x : Int32} {off : Int} {tgt : Nat} (hd : decode M.2.1 pc = .ok (.ifCond .gt off, 3)) (ht : (pc : Int) + off = (tgt : Int)) (kt : 0 < x → WP L xs d M tgt ls st hp Q) (kf : ¬ (0 < x) → WP L xs d M (pc + 3) ls st hp Q) : WP L xs d M pc ls (.int x :: st) hp Q := by
  by_cases hc : 0 < x
  · exact WP.keep (kt hc) fun p l e R s m args below meth c base b H locs cells slots Qx lsA c1 c2 c4 c5 hL kk => lv_if_gt c1 c2 hd ht (fun _ => kk) (fun n => absurd hc n)
  · exact WP.keep (kf hc) fun p l e R s m args below meth c base b H locs cells slots Qx lsA c1 c2 c4 c5 hL kk => lv_if_gt c1 c2 hd ht (fun n => absurd n hc) (fun _ => kk)
theorem wp_icmp_gt {x y : Int32} {off : Int} {tgt : Nat} (hd : decode M.2.1 pc = .ok (.if_icmp .gt off, 3)) (ht : (pc : Int) + off = (tgt : Int)) (kt : y < x → WP L xs d M tgt ls st hp Q) (kf : ¬ (y < x) → WP L xs d M (pc + 3) ls st hp Q) : WP L xs d M pc ls (.int y :: .int x :: st) hp Q := by
  by_cases hc : y < x
  · exact WP.keep (kt hc) fun p l e R s m args below meth c base b H locs cells slots Qx lsA c1 c2 c4 c5 hL kk => lv_icmp_gt c1 c2 hd ht (fun _ => kk) (fun n => absurd hc n)
  · exact WP.keep (kf hc) fun p l e R s m args below meth c base b H locs cells slots Qx lsA c1 c2 c4 c5 hL kk => lv_icmp_gt c1 c2 hd ht (fun n => absurd n hc) (fun _ => kk)
theorem wp_if_le {x : Int32} {off : Int} {tgt : Nat} (hd : decode M.2.1 pc = .ok (.ifCond .le off, 3)) (ht : (pc : Int) + off = (tgt : Int)) (kt : ¬ 0 < x → WP L xs d M tgt ls st hp Q) (kf : 0 < x → WP L xs d M (pc + 3) ls st hp Q) : WP L xs d M pc ls (.int x :: st) hp Q := by
  by_cases hc : 0 < x
  · exact WP.keep (kf hc) fun p l e R s m args below meth c base b H locs cells slots Qx lsA c1 c2 c4 c5 hL kk => lv_if_le c1 c2 hd ht (fun n => absurd hc (Int32.not_lt.mpr n)) (fun _ => kk)
  · exact WP.keep (kt hc) fun p l e R s m args below meth c base b H locs cells slots Qx lsA c1 c2 c4 c5 hL kk => lv_if_le c1 c2 hd ht (fun _ => kk) (fun n => absurd (Int32.not_lt.mp hc) n)
theorem wp_icmp_le {x y : Int32} {off : Int} {tgt : Nat} (hd : decode M.2.1 pc = .ok (.if_icmp .le off, 3)) (ht : (pc : Int) + off = (tgt : Int)) (kt : ¬ y < x → WP L xs d M tgt ls st hp Q) (kf : y < x → WP L xs d M (pc + 3) ls st hp Q) : WP L xs d M pc ls (.int y :: .int x :: st) hp Q := by
  by_cases hc : y < x
  · exact WP.keep (kf hc) fun p l e R s m args below meth c base b H locs cells slots Qx lsA c1 c2 c4 c5 hL kk => lv_icmp_le c1 c2 hd ht (fun n => absurd hc (Int32.not_lt.mpr n)) (fun _ => kk)
  · exact WP.keep (kt hc) fun p l e R s m args below meth c base b H locs cells slots Qx lsA c1 c2 c4 c5 hL kk => lv_icmp_le c1 c2 hd ht (fun _ => kk) (fun n => absurd (Int32.not_lt.mp hc) n)
end RULES
