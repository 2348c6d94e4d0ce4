/-! ===== Math.floorMod by 9 of a number that isn't negative, Math.max: the class java.lang.Math has entries of its own beside bytecode; floorMod has none ===== -/
abbrev fmX : MethodName := yJ9_floorMod_7cf53
abbrev fmB : ByteArray := cJ9_floorMod_7cf53
theorem fm_noRow0 : (NativeRow.find? natives fmX.cls fmX.name fmX.desc).isNone = true := by decide +kernel
theorem fm_noRow (p : Program) : NativeRow.find? p.tables.natives fmX.cls fmX.name fmX.desc = none := by
  cases p <;> exact Option.isNone_iff_eq_none.mp fm_noRow0
def fmSpec (a b r : Int32) : Spec where
  pre := .and (.code fmX fmB 3 (some .int)) (.and (.count 2) (.and (.isInt (.arg 0)) (.and (.isInt (.arg 1)) (.and (.eq (.arg 0) (.int a)) (.eq (.arg 1) (.int b))))))
  post := .and .returned (.eq .result (.int r))
  changes := some []
theorem fm_meets (l : Launch) {a b : Int32} (hb : ¬ b = 0) (hx : 0 ≤ a ^^^ b) : MeetsLoose l fmX (fmSpec a b (a - a / b * b)) := by
  refine MeetsLoose.of_body_ov (code := fmB) (maxLocals := 3) (ret := some .int) fm_noRow ?_ ?_
  · intro args s h
    simp only [fmSpec, Cond.before_and, Bool.and_eq_true] at h
    exact h.1
  · intro p e s m args below meth c s₁ B
    have hpre := B.pre
    simp only [fmSpec, Cond.before_and, Bool.and_eq_true] at hpre
    obtain ⟨a', b', rfl⟩ := Cond.two_ints hpre.2.1 hpre.2.2.1 hpre.2.2.2.1
    have ha' : a' = a := by
      have h := hpre.2.2.2.2.1
      simpa [Cond.before, Cond.holds, Cond.value, Term.eval] using h
    have hb' : b' = b := by
      have h := hpre.2.2.2.2.2
      simpa [Cond.before, Cond.holds, Cond.value, Term.eval] using h
    subst ha'; subst hb'
    have hloc : argsToLocals #[.int a', .int b'] 3 = #[.val (.int a'), .val (.int b'), .unset] := rfl
    obtain ⟨fs, hfs⟩ := handOver_isSome (s := s₁) (some (.int (a' - a' / b' * b'))) B.hears₁
    refine ⟨s₁.setFrames fs, .returned (some (.int (a' - a' / b' * b'))), ?_, B.here.running, B.ended hfs (by intro h; cases h), by simp [fmSpec, Cond.after, Cond.holds, Cond.value, Term.eval], State.sameBut_nil.mpr (by rw [State.frames_setFrames _ B.cur₁, B.back])⟩
    unfold entryFrame
    rw [hloc]
    refine Steps.instrAtOv (c := _) (by simpa using B.here) ?_
    simp [jvm, wpRun, exec, B.here.top, B.exec, B.bytes, dJ9_floorMod_7cf53_0]
    refine Steps.instrAtOv (c := _) (by simpa using B.here) ?_
    simp [jvm, wpRun, exec, B.here.top, B.exec, B.bytes, dJ9_floorMod_7cf53_1]
    refine Steps.instrAtOv (c := _) (by simpa using B.here) ?_
    simp [jvm, wpRun, exec, B.here.top, B.exec, B.bytes, dJ9_floorMod_7cf53_2, hb]
    refine Steps.instrAtOv (c := _) (by simpa using B.here) ?_
    simp [jvm, wpRun, exec, B.here.top, B.exec, B.bytes, dJ9_floorMod_7cf53_3]
    refine ⟨#[.val (.int a'), .val (.int b'), .val (.int (a' - a' / b' * b'))], by simp [storeLocals, storeSelf, setAt, Value.category], ?_⟩
    refine Steps.instrAtOv (c := _) (by simpa using B.here) ?_
    simp [jvm, wpRun, exec, B.here.top, B.exec, B.bytes, dJ9_floorMod_7cf53_4]
    refine Steps.instrAtOv (c := _) (by simpa using B.here) ?_
    simp [jvm, wpRun, exec, B.here.top, B.exec, B.bytes, dJ9_floorMod_7cf53_5]
    refine Steps.instrAtOv (c := _) (by simpa using B.here) ?_
    simp [jvm, wpRun, exec, B.here.top, B.exec, B.bytes, dJ9_floorMod_7cf53_6]
    refine Steps.instrAtOv (c := _) (by simpa using B.here) ?_
    simp [jvm, wpRun, exec, B.here.top, B.exec, B.bytes, dJ9_floorMod_7cf53_7, ifCond.holds, hx]
    refine Steps.instrAtOv (c := _) (by simpa using B.here) ?_
    simp [jvm, wpRun, exec, B.here.top, B.exec, B.bytes, dJ9_floorMod_7cf53_18]
    refine Steps.instrAtOv (c := _) (by simpa using B.here) ?_
    simp [jvm, wpRun, exec, B.here.top, B.exec, B.bytes, dJ9_floorMod_7cf53_19, B.method₁, B.returns, narrow]
    intro acts
    rw [ret_to B.frames₁ B.method₁ B.notSynchronized rfl rfl hfs]
    exact Steps.refl _
section FM
variable {L : Nat} {xs : Nat → Int32} {d : Nat} {M : MD} {pc : Nat} {ls : LSt} {st : List Value} {hp : AH} {Q : Option Value → AH → Prop}
def fmL (own : String) (idx : Nat) : Prop := .methodLink own idx fmX ∈ Wall ∧ .static fmX ∈ Wall ∧ .initialized "java/lang/Math" ∈ Wall ∧ .code fmX fmB 3 (some .int) ∈ Wall
theorem wp_fmod {idx k q : Nat} {x y : Int32} (hd : decode M.2.1 pc = .ok (.invokestatic idx, 3)) (hl : fmL M.1.cls idx) (hx : x = nI k) (hk : k < 2 ^ 31) (hy : y = nI q) (hq0 : 0 < q) (hq : q < 2 ^ 31) (hcat : (st.map fun v => v.category).sum ≤ 8) (kk : WP L xs (d + 1) M (pc + 3) ls (.int (nI (k % q)) :: st) hp Q) : WP L xs (d + 1) M pc ls (.int y :: .int x :: st) hp Q := by
  obtain ⟨v', hp', ⟨h1, h2, h3⟩, qq⟩ := kk
  refine ⟨v', hp', ⟨h1, h2, ?_⟩, qq⟩
  intro p l e R s m args below meth c base b D cT mc ms Qx hc hln hexit cells slots lsA H locs e1 e2 e3 hC hL
  obtain ⟨c1, c2, c3, c4, c5, c6, c7, c8, c9, c10, c11, c12, c13, c14, c15, c16, c17⟩ := id hc
  have kw := h3 p l e R s m args below meth c base b D cT mc ms Qx hc hln hexit cells slots lsA H locs e1 e2 e3 hC hL
  subst hx; subst hy
  have hne : ¬ nI q = 0 := nI_ne0 hq0 hq
  have hxor : (0 : Int32) ≤ nI k ^^^ nI q := by
    have h9 : nI k ^^^ nI q = nI (k ^^^ q) := by
      apply Int32.toBitVec_inj.mp
      apply BitVec.eq_of_toNat_eq
      rw [Int32.toBitVec_xor, BitVec.toNat_xor, pk_tn (by omega), pk_tn (by omega), pk_tn (Nat.xor_lt_two_pow (n := 32) (by omega) (by omega))]
    rw [h9]
    exact nI_pos' (Nat.xor_lt_two_pow hk hq)
  have hrem : nI k - nI k / nI q * nI q = nI (k % q) := pk_rem hk hq0 hq
  intro T hT X
  obtain ⟨v, vm', X', ⟨first, t, hpost⟩, hstep⟩ := X.staticByContractHK c1 c4 (c5 _ hl.1) (c5 _ hl.2.1) (c5 _ hl.2.2.1) (c5 _ hl.2.2.2) (by decide) (fm_meets l hne hxor) rfl rfl rfl rfl
    (fun args' first o s₂ h => by
      simp only [fmSpec, Cond.after_and, Bool.and_eq_true] at h
      cases o with
      | returned r => exact ⟨r, rfl⟩
      | threw y => simp [Cond.after, Cond.holds, Cond.value] at h)
    (g := F0 m pc lsA ((Value.int (nI q) :: Value.int (nI k) :: st).map (cv base b))) rfl (by show lsA.size = _; rw [hL.1, hln, c3]) (argsL := [.int (nI k), .int (nI q)]) (rest := st.map (cv base b))
    (fun sig hs => by
      have h : parseMethodDescriptor "(II)I" = some { parameters := [.int, .int], returnType := some .int } := by decide +kernel
      rw [show fmX.desc = "(II)I" from rfl, h] at hs
      rw [← Option.some.inj hs]; rfl)
    rfl (by rw [c2]; exact hd)
    (fun vm' hW => by
      simp only [fmSpec, Cond.before_and, Bool.and_eq_true]
      refine ⟨?_, rfl, rfl, rfl, by simp [Cond.before, Cond.holds, Cond.value, Term.eval], by simp [Cond.before, Cond.holds, Cond.value, Term.eval]⟩
      have q := c5 _ hl.2.2.2
      rw [← Cond.code_setVm hW.alike] at q
      simp only [Cond.before, Cond.holds, Cond.value, State.methodNamed?, State.vm_setVm] at q ⊢
      exact q)
    (by show 0 + 1 ≤ R.frames; omega) (by show 2 * 0 + ((st.map (cv base b)).map fun v => v.category).sum + (3 + 11) + 0 ≤ R.locals; rw [cat_map]; omega) (by show cells + 0 ≤ R.cells; omega) (by show slots + 0 ≤ R.slots; omega)
  have hv : v = some (.int (nI (k % q))) := by
    rw [← hrem]
    rcases v with _ | w
    · simp [fmSpec, Cond.after, Cond.holds, Cond.value, Term.eval] at hpost
    · cases w <;> simp [fmSpec, Cond.after, Cond.holds, Cond.value, Term.eval] at hpost
      rw [hpost]
  subst hv
  obtain ⟨t2, a1, b1⟩ := kw (T.setVm vm') hT X'
  exact ⟨t2, hstep t2 a1, b1⟩
def mxL (own : String) (idx : Nat) : Prop := .methodLink own idx Lib.Math.max.name ∈ Wall ∧ .static Lib.Math.max.name ∈ Wall ∧ .initialized "java/lang/Math" ∈ Wall ∧ .code Lib.Math.max.name Lib.Math.max.code 2 (some .int) ∈ Wall
theorem wp_max {idx : Nat} {x y : Int32} (hd : decode M.2.1 pc = .ok (.invokestatic idx, 3)) (hl : mxL M.1.cls idx) (hcat : (st.map fun v => v.category).sum ≤ 8) (kk : WP L xs (d + 1) M (pc + 3) ls (.int (if x < y then y else x) :: st) hp Q) : WP L xs (d + 1) M pc ls (.int y :: .int x :: st) hp Q := by
  obtain ⟨v', hp', ⟨h1, h2, h3⟩, qq⟩ := kk
  refine ⟨v', hp', ⟨h1, h2, ?_⟩, qq⟩
  intro p l e R s m args below meth c base b D cT mc ms Qx hc hln hexit cells slots lsA H locs e1 e2 e3 hC hL
  obtain ⟨c1, c2, c3, c4, c5, c6, c7, c8, c9, c10, c11, c12, c13, c14, c15, c16, c17⟩ := id hc
  have kw := h3 p l e R s m args below meth c base b D cT mc ms Qx hc hln hexit cells slots lsA H locs e1 e2 e3 hC hL
  exact va_mmax c1 c2 (by rw [hL.1, hln, c3]) c4 (c5 _ hl.1) (c5 _ hl.2.1) (c5 _ hl.2.2.1) (c5 _ hl.2.2.2) (by omega) (by rw [cat_map]; omega) (by omega) (by omega) hd kw
end FM
