/-! ===== the digest ===== -/
def dgF (M : MS) (n f : Nat) (x : Int32) (s : Int64) : Nat → Int64
  | 0 => s
  | k + 1 => dgF M n f x s k * 31 + (shTell M n f k x).toInt64
def dgG (M : MS) (n : Nat) (x : Int32) (s : Int64) : Nat → Int64
  | 0 => s
  | f + 1 => dgF M n f x (dgG M n x s f) 4
def dgK (M : MS) (n : Nat) (x : Int32) (s : Int64) : Nat → Int64
  | 0 => s
  | c + 1 => dgC M n c (vN (gV M 1 n c 0 2)) x (dgK M n x s c)
def dg0 (M : MS) (clk cc : Nat) : Int64 := (((58077 * 31 + (nI clk).toInt64) * 31 + (nI cc).toInt64) * 31 + (nI (TN M 0 9)).toInt64) * 31 + (nI (stA M 0 (nI clk) cc)).toInt64
def dgA (M : MS) (clk cc : Nat) : Int64 := dgT M 0 clk (dgK M 0 (nI clk) (dgG M 0 (nI clk) (dg0 M clk cc) 12) cc) 8
section DIGEST2
variable {L : Nat} {xs : Nat → Int32} {d : Nat} {hp : AH} {M : MS} {zB tB clk cc K : Nat} {D : Nat → Nat} {ev : Bool} {c f p q : Nat} {s0 : Int64}
theorem w_dg_75 (h : S0 hp M zB tB clk cc K D ev) (hf9 : f < 12) (kk : WP L xs (d + 3) mX5_digest 116 [some (.ref 1), some (.long (dgF M 0 f (nI clk) (dgG M 0 (nI clk) (dg0 M clk cc) f) 4)), none, some (.int (nI f)), some (.int (nI 4))] [] hp (fun v hp' => retOk mX5_digest.2.2.2 v ∧ hp' = hp ∧ v = some (.long (dgA M clk cc)))) : ∀ (m i : Nat), 4 - i = m → i ≤ 4 → WP L xs (d + 3) mX5_digest 75 [some (.ref 1), some (.long (dgF M 0 f (nI clk) (dgG M 0 (nI clk) (dg0 M clk cc) f) i)), none, some (.int (nI f)), some (.int (nI i))] [] hp (fun v hp' => retOk mX5_digest.2.2.2 v ∧ hp' = hp ∧ v = some (.long (dgA M clk cc))) := by
  have hR := h.1.1
  obtain ⟨b1, b2, b3, b4, b5⟩ := h.1.2.2.1.1
  intro m
  induction m using Nat.strongRecOn with
  | ind m ih =>
    intro i hm hi0
    subst hm
    refine wp_iload dX5_digest_75 rfl ?_
    refine wp_iconst (v := 3) dX5_digest_77 rfl ?_
    refine wp_icmp_gt (tgt := 116) dX5_digest_78 (by decide) (fun c78 => ?_) (fun c78 => ?_)
    · skip
      have e9 : i = 4 := by
        have := (nI_ltI (show 3 < 2 ^ 31 by decide) (show i < 2 ^ 31 by omega)).mp c78
        omega
      subst e9
      exact kk
    · skip
      refine wp_lload_n (i := 1) dX5_digest_81 rfl rfl ?_
      refine wp_ldc2 dX5_digest_82 k_X5_185 ?_
      refine wp_lmul dX5_digest_85 ?_
      refine wp_aload_n (i := 0) dX5_digest_86 rfl rfl ?_
      refine wr_net dX5_digest_87 hR f_X5_10 ?_
      refine wr_netR (j := rS 0) dX5_digest_90 hR f_X5_110 (by decide) (Or.inr (Or.inl ⟨rfl, rfl⟩)) ?_
      refine wp_iload_n (i := 3) dX5_digest_93 rfl rfl ?_
      refine wr_aS (f := f) dX5_digest_94 hR rfl (by decide) hf9 ?_
      refine wp_iload dX5_digest_95 rfl ?_
      refine wp_aload_n (i := 0) dX5_digest_97 rfl rfl ?_
      refine wr_net dX5_digest_98 hR f_X5_10 ?_
      refine wr_get (g := 0) (n := 0) (a := 0) (b := 0) (k := 0) dX5_digest_101 hR f_X5_87 (vs0 (by decide) (by decide)) (by decide) (by decide) ?_
      have hi9 : i < 4 := by
        rcases Nat.lt_or_ge i 4 with q | q
        · exact q
        · exact absurd (show nI 3 < nI i from nI_lt (by omega) (by omega)) c78
      rw [b3]
      refine wp_callV (N := mX3_tell) (as := [.int (nI i), .int (nI clk)]) dX5_digest_104 l_X5_114 v_X3_tell rfl (hR.oo (vs4 (n := 0) (by decide) hf9 (k := 0) (by decide)) (by decide)) rfl (Nat.le_of_ble_eq_true rfl) (s_shTell hR (by decide) hf9 (nI clk) hi9) (fun v hp9 hq => ?_)
      obtain ⟨rfl, rfl⟩ := hq
      refine wp_i2l dX5_digest_107 ?_
      refine wp_ladd dX5_digest_108 ?_
      refine wp_lstore_n (i := 1) dX5_digest_109 rfl (Nat.le_of_ble_eq_true rfl) ?_
      refine wp_iinc (v := nI (i + 1)) dX5_digest_110 rfl (nI_1 _) ?_
      refine wp_goto (tgt := 75) dX5_digest_113 (by decide) ?_
      exact ih (4 - (i + 1)) (by omega) (i + 1) rfl (by omega)
theorem w_dg_124 (h : S0 hp M zB tB clk cc K D ev) : ∀ (m c : Nat), cc - c = m → c ≤ cc → ∀ (l4 : Option Value), WP L xs (d + 3) mX5_digest 124 [some (.ref 1), some (.long (dgK M 0 (nI clk) (dgG M 0 (nI clk) (dg0 M clk cc) 12) c)), none, some (.int (nI c)), l4] [] hp (fun v hp' => retOk mX5_digest.2.2.2 v ∧ hp' = hp ∧ v = some (.long (dgA M clk cc))) := by
  have hR := h.1.1
  obtain ⟨b1, b2, b3, b4, b5⟩ := h.1.2.2.1.1
  intro m
  induction m using Nat.strongRecOn with
  | ind m ih =>
    intro c hm hi0 l4
    subst hm
    refine wp_iload_n (i := 3) dX5_digest_124 rfl rfl ?_
    refine wp_aload_n (i := 0) dX5_digest_125 rfl rfl ?_
    refine wr_net dX5_digest_126 hR f_X5_10 ?_
    refine wr_get (g := 0) (n := 0) (a := 0) (b := 0) (k := 4) dX5_digest_129 hR f_X5_26 (vs0 (by decide) (by decide)) (by decide) (by decide) ?_
    refine wp_icmp_ge (tgt := 162) dX5_digest_132 (by decide) (fun c132 => ?_) (fun c132 => ?_)
    · skip
      have e9 : c = cc := by
        rcases Nat.lt_or_ge c cc with q | q
        · exact absurd (by rw [b4]; exact nI_lt q (by omega)) c132
        · omega
      subst e9
      refine wp_aload_n (i := 0) dX5_digest_162 rfl rfl ?_
      refine wr_net dX5_digest_163 hR f_X5_10 ?_
      refine wp_lload_n (i := 1) dX5_digest_166 rfl rfl ?_
      refine wp_callV (N := mX2_addThingsToDigest) (as := [.long _]) dX5_digest_167 l_X5_191 v_X2_addThingsToDigest rfl (hR.oo (vs0 (n := 0) (by decide) (k := 0) (by decide)) (by decide)) rfl (Nat.le_of_ble_eq_true rfl) (s_thDigest hR (by decide) b3 b1) (fun v hp9 hq => ?_)
      obtain ⟨rfl, rfl⟩ := hq
      refine wp_ret (v := some (.long _)) dX5_digest_170 rfl ?_
      exact ⟨trivial, rfl, rfl⟩
    · skip
      have hcl : c < cc := by rw [b4] at c132; exact (nI_ltI (by omega) (by omega)).mp c132
      have hc4 : c < 4 := by omega
      obtain ⟨⟨l, hI⟩, -⟩ := h.1.2.2.1.2.1 c hc4
      have hl6 := hI.2.2.1
      refine wp_aload_n (i := 0) dX5_digest_135 rfl rfl ?_
      refine wr_net dX5_digest_136 hR f_X5_10 ?_
      refine wr_netR (j := rC 0) dX5_digest_139 hR f_X5_60 (by decide) (Or.inl ⟨rfl, rfl⟩) ?_
      refine wp_iload_n (i := 3) dX5_digest_142 rfl rfl ?_
      refine wr_aC (c := c) dX5_digest_143 hR rfl (by decide) hc4 ?_
      refine wp_lload_n (i := 1) dX5_digest_144 rfl rfl ?_
      refine wp_aload_n (i := 0) dX5_digest_145 rfl rfl ?_
      refine wr_net dX5_digest_146 hR f_X5_10 ?_
      refine wr_get (g := 0) (n := 0) (a := 0) (b := 0) (k := 0) dX5_digest_149 hR f_X5_87 (vs0 (by decide) (by decide)) (by decide) (by decide) ?_
      rw [b3]
      refine wp_callV (N := mX0_addToDigest) (as := [.long _, .int (nI clk)]) dX5_digest_152 l_X5_187 v_X0_addToDigest rfl (hR.oo (vs1 (n := 0) (by decide) hc4 (k := 2) (by decide)) (by decide)) rfl (Nat.le_of_ble_eq_true rfl) (s_clDigest hR (by decide) hc4 (cnt := vN (gV M 1 0 c 0 2)) (by rw [hI.1.1, vN_nI (by omega)]) (by rw [hI.1.1, vN_nI (by omega)]; omega)) (fun v hp9 hq => ?_)
      obtain ⟨rfl, rfl⟩ := hq
      refine wp_lstore_n (i := 1) dX5_digest_155 rfl (Nat.le_of_ble_eq_true rfl) ?_
      refine wp_iinc (v := nI (c + 1)) dX5_digest_156 rfl (nI_1 _) ?_
      refine wp_goto (tgt := 124) dX5_digest_159 (by decide) ?_
      exact ih (cc - (c + 1)) (by omega) (c + 1) rfl (by omega) _
theorem w_dg_66 (h : S0 hp M zB tB clk cc K D ev) : ∀ (m f : Nat), 12 - f = m → f ≤ 12 → ∀ (l4 : Option Value), WP L xs (d + 3) mX5_digest 66 [some (.ref 1), some (.long (dgG M 0 (nI clk) (dg0 M clk cc) f)), none, some (.int (nI f)), l4] [] hp (fun v hp' => retOk mX5_digest.2.2.2 v ∧ hp' = hp ∧ v = some (.long (dgA M clk cc))) := by
  intro m
  induction m using Nat.strongRecOn with
  | ind m ih =>
    intro f hm hf0 l4
    subst hm
    refine wp_iload_n (i := 3) dX5_digest_66 rfl rfl ?_
    refine wp_bipush (v := nI 12) dX5_digest_67 (by decide) ?_
    refine wp_icmp_ge (tgt := 122) dX5_digest_69 (by decide) (fun c69 => ?_) (fun c69 => ?_)
    · skip
      have e9 : f = 12 := by
        rcases Nat.lt_or_ge f 12 with q | q
        · exact absurd (nI_lt q (by decide)) c69
        · omega
      subst e9
      refine wp_iconst (v := 0) dX5_digest_122 rfl ?_
      refine wp_istore_n (i := 3) dX5_digest_123 rfl (Nat.le_of_ble_eq_true rfl) ?_
      exact w_dg_124 h cc 0 rfl (Nat.zero_le _) _
    · skip
      refine wp_iconst (v := 0) dX5_digest_72 rfl ?_
      refine wp_istore dX5_digest_73 (Nat.le_of_ble_eq_true rfl) ?_
      have hf9 : f < 12 := (nI_ltI (by omega) (by decide)).mp c69
      exact w_dg_75 h hf9 (by
        refine wp_iinc (v := nI (f + 1)) dX5_digest_116 rfl (nI_1 _) ?_
        refine wp_goto (tgt := 66) dX5_digest_119 (by decide) ?_
        exact ih (12 - (f + 1)) (by omega) (f + 1) rfl (by omega) _) 4 0 rfl (by decide)
/-- the digest -/
theorem s_digest (h : S0 hp M zB tB clk cc K D ev) : WM L xs (d + 3) mX5_digest [.ref 1] hp (fun v hp' => hp' = hp ∧ v = some (.long (dgA M clk cc))) := by
  have hR := h.1.1
  obtain ⟨b1, b2, b3, b4, b5⟩ := h.1.2.2.1.1
  refine WM.of [some (.ref _), none, none, none, none] (by decide) rfl (Nat.le_of_ble_eq_true rfl) ?_
  refine wp_ldc2 dX5_digest_0 k_X5_183 ?_
  refine wp_lstore_n (i := 1) dX5_digest_3 rfl (Nat.le_of_ble_eq_true rfl) ?_
  refine wp_lload_n (i := 1) dX5_digest_4 rfl rfl ?_
  refine wp_ldc2 dX5_digest_5 k_X5_185 ?_
  refine wp_lmul dX5_digest_8 ?_
  refine wp_aload_n (i := 0) dX5_digest_9 rfl rfl ?_
  refine wr_net dX5_digest_10 hR f_X5_10 ?_
  refine wr_get (g := 0) (n := 0) (a := 0) (b := 0) (k := 0) dX5_digest_13 hR f_X5_87 (vs0 (by decide) (by decide)) (by decide) (by decide) ?_
  rw [b3]
  refine wp_i2l dX5_digest_16 ?_
  refine wp_ladd dX5_digest_17 ?_
  refine wp_lstore_n (i := 1) dX5_digest_18 rfl (Nat.le_of_ble_eq_true rfl) ?_
  refine wp_lload_n (i := 1) dX5_digest_19 rfl rfl ?_
  refine wp_ldc2 dX5_digest_20 k_X5_185 ?_
  refine wp_lmul dX5_digest_23 ?_
  refine wp_aload_n (i := 0) dX5_digest_24 rfl rfl ?_
  refine wr_net dX5_digest_25 hR f_X5_10 ?_
  refine wr_get (g := 0) (n := 0) (a := 0) (b := 0) (k := 4) dX5_digest_28 hR f_X5_26 (vs0 (by decide) (by decide)) (by decide) (by decide) ?_
  rw [b4]
  refine wp_i2l dX5_digest_31 ?_
  refine wp_ladd dX5_digest_32 ?_
  refine wp_lstore_n (i := 1) dX5_digest_33 rfl (Nat.le_of_ble_eq_true rfl) ?_
  refine wp_lload_n (i := 1) dX5_digest_34 rfl rfl ?_
  refine wp_ldc2 dX5_digest_35 k_X5_185 ?_
  refine wp_lmul dX5_digest_38 ?_
  refine wp_aload_n (i := 0) dX5_digest_39 rfl rfl ?_
  refine wr_net dX5_digest_40 hR f_X5_10 ?_
  refine wp_callV (N := mX2_thingCount) (as := []) dX5_digest_43 l_X5_103 v_X2_thingCount rfl (hR.oo (vs0 (n := 0) (by decide) (k := 0) (by decide)) (by decide)) rfl (Nat.le_of_ble_eq_true rfl) (s_thingCount hR (by decide)) (fun v hp9 hq => ?_)
  obtain ⟨rfl, rfl⟩ := hq
  refine wp_i2l dX5_digest_46 ?_
  refine wp_ladd dX5_digest_47 ?_
  refine wp_lstore_n (i := 1) dX5_digest_48 rfl (Nat.le_of_ble_eq_true rfl) ?_
  refine wp_lload_n (i := 1) dX5_digest_49 rfl rfl ?_
  refine wp_ldc2 dX5_digest_50 k_X5_185 ?_
  refine wp_lmul dX5_digest_53 ?_
  refine wp_aload_n (i := 0) dX5_digest_54 rfl rfl ?_
  refine wr_net dX5_digest_55 hR f_X5_10 ?_
  refine wp_callV (N := mX2_staleCount) (as := []) dX5_digest_58 l_X5_168 v_X2_staleCount rfl (hR.oo (vs0 (n := 0) (by decide) (k := 0) (by decide)) (by decide)) rfl (Nat.le_of_ble_eq_true rfl) (s_staleCount hR (by decide) b3 b4 b2) (fun v hp9 hq => ?_)
  obtain ⟨rfl, rfl⟩ := hq
  refine wp_i2l dX5_digest_61 ?_
  refine wp_ladd dX5_digest_62 ?_
  refine wp_lstore_n (i := 1) dX5_digest_63 rfl (Nat.le_of_ble_eq_true rfl) ?_
  refine wp_iconst (v := 0) dX5_digest_64 rfl ?_
  refine wp_istore_n (i := 3) dX5_digest_65 rfl (Nat.le_of_ble_eq_true rfl) ?_
  exact w_dg_66 h 12 0 rfl (by decide) _
end DIGEST2
/-! a net that is as it was has the same digest -/
theorem K0.sh {M M' : MS} (h : K0 M M') (f k : Nat) (x : Int32) : shTell M' 0 f k x = shTell M 0 f k x := by
  have e : ∀ i, lsS M' 0 f x i = lsS M 0 f x i := fun i => by
    induction i with
    | zero => rfl
    | succ i ih => unfold lsS; rw [ih, h.1]
  unfold shTell
  rw [h.1, h.1, h.2.1, e]
theorem K0.dF {M M' : MS} (h : K0 M M') (f : Nat) (x : Int32) (s : Int64) : ∀ k, dgF M' 0 f x s k = dgF M 0 f x s k
  | 0 => rfl
  | k + 1 => by unfold dgF; rw [h.dF f x s k, h.sh]
theorem K0.dG {M M' : MS} (h : K0 M M') (x : Int32) (s : Int64) : ∀ k, dgG M' 0 x s k = dgG M 0 x s k
  | 0 => rfl
  | k + 1 => by unfold dgG; rw [h.dG x s k, h.dF]
theorem K0.d1 {M M' : MS} (h : K0 M M') (c : Nat) (s : Int64) : ∀ k, dg1 M' 0 c s k = dg1 M 0 c s k
  | 0 => rfl
  | k + 1 => by
    unfold dg1
    rw [h.d1 c s k, show cTell M' 0 c k = cTell M 0 c k from by unfold cTell; rw [h.1, h.1, h.1, h.1, h.1, h.1, h.1]]
theorem K0.d2 {M M' : MS} (h : K0 M M') (c : Nat) (s : Int64) : ∀ k, dg2 M' 0 c s k = dg2 M 0 c s k
  | 0 => rfl
  | k + 1 => by unfold dg2; rw [h.d2 c s k, h.1]
theorem K0.hT {M M' : MS} (h : K0 M M') (c f k : Nat) (x b : Int32) : hTell M' 0 c f k x b = hTell M 0 c f k x b := by
  unfold hTell tru
  simp only [h.1]
theorem K0.d3 {M M' : MS} (h : K0 M M') (c f : Nat) (x : Int32) (s : Int64) : ∀ k, dg3 M' 0 c f x s k = dg3 M 0 c f x s k
  | 0 => rfl
  | k + 1 => by unfold dg3; rw [h.d3 c f x s k, h.1, h.hT]
theorem K0.d4 {M M' : MS} (h : K0 M M') (c : Nat) (x : Int32) (s : Int64) : ∀ k, dg4 M' 0 c x s k = dg4 M 0 c x s k
  | 0 => rfl
  | k + 1 => by unfold dg4; rw [h.d4 c x s k, h.d3]
theorem K0.dC {M M' : MS} (h : K0 M M') (c cnt : Nat) (x : Int32) (s : Int64) : dgC M' 0 c cnt x s = dgC M 0 c cnt x s := by
  unfold dgC; rw [h.d4, h.d2, h.d1]
theorem K0.dK {M M' : MS} (h : K0 M M') (x : Int32) (s : Int64) : ∀ k, dgK M' 0 x s k = dgK M 0 x s k
  | 0 => rfl
  | k + 1 => by unfold dgK; rw [h.dK x s k, h.1, h.dC]
theorem K0.dR {M M' : MS} (h : K0 M M') (k r : Nat) (s : Int64) : ∀ w, dgR M' 0 k r s w = dgR M 0 k r s w
  | 0 => rfl
  | w + 1 => by unfold dgR; rw [h.dR k r s w, show gC M' 2 0 k r w = gC M 2 0 k r w from by unfold gC; rw [h.2.1]]
theorem K0.dS {M M' : MS} (h : K0 M M') (k : Nat) (s : Int64) : ∀ r, dgS M' 0 k s r = dgS M 0 k s r
  | 0 => rfl
  | r + 1 => by unfold dgS; rw [h.dS k s r, h.dR]
theorem K0.dT {M M' : MS} (h : K0 M M') (clk : Nat) (s : Int64) : ∀ u, dgT M' 0 clk s u = dgT M 0 clk s u
  | 0 => rfl
  | u + 1 => by unfold dgT; rw [h.dT clk s u, h.dS, h.2.1]
theorem K0.tn {M M' : MS} (h : K0 M M') (i : Nat) : TN M' 0 i = TN M 0 i := sN_congr (fun k _ => by rw [h.2.1])
theorem K0.st {M M' : MS} (h : K0 M M') (x : Int32) (i : Nat) : stA M' 0 x i = stA M 0 x i := sN_congr (fun c _ => sN_congr (fun f _ => by unfold stl tru; simp only [h.1]))
theorem K0.dA {M M' : MS} (h : K0 M M') (clk cc : Nat) : dgA M' clk cc = dgA M clk cc := by
  unfold dgA dg0
  rw [h.dT, h.dK, h.dG, h.tn, h.st]
