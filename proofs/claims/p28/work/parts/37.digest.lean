/-! ===== digests ===== -/
def dg1 (M : MS) (n c : Nat) (s : Int64) : Nat → Int64
  | 0 => s
  | k + 1 => dg1 M n c s k * 31 + (cTell M n c k).toInt64
def dg2 (M : MS) (n c : Nat) (s : Int64) : Nat → Int64
  | 0 => s
  | k + 1 => dg2 M n c s k * 31 + (gV M 3 n c 0 k).toInt64
def dg3 (M : MS) (n c f : Nat) (x : Int32) (s : Int64) : Nat → Int64
  | 0 => s
  | k + 1 => dg3 M n c f x s k * 31 + (hTell M n c f k x (gV M 1 n c 0 6)).toInt64
def dg4 (M : MS) (n c : Nat) (x : Int32) (s : Int64) : Nat → Int64
  | 0 => s
  | f + 1 => dg3 M n c f x (dg4 M n c x s f) 6
def dgC (M : MS) (n c cnt : Nat) (x : Int32) (s : Int64) : Int64 := dg4 M n c x (dg2 M n c (dg1 M n c s 7) cnt) 12
def dgR (M : MS) (n k r : Nat) (s : Int64) : Nat → Int64
  | 0 => s
  | w + 1 => dgR M n k r s w * 31 + (gC M 2 n k r w).toInt64
def dgS (M : MS) (n k : Nat) (s : Int64) : Nat → Int64
  | 0 => s
  | r + 1 => dgR M n k r (dgS M n k s r) 4
def dgT (M : MS) (n clk : Nat) (s : Int64) : Nat → Int64
  | 0 => s
  | u + 1 => dgS M n ((clk + (u + 1)) % 9) (dgT M n clk s u) (gT M 2 n ((clk + (u + 1)) % 9)).length
section DIGEST
variable {L : Nat} {xs : Nat → Int32} {d : Nat} {hp : AH} {M : MS} {n c f cc clk cnt : Nat} {x : Int32} {s0 : Int64}
theorem w_ad_83 (hR : Rep hp M) (hn : n < 2) (hc4 : c < 4) (hf9 : f < 12) (kk : WP L xs (d + 2) mX0_addToDigest 122 [some (.ref (xi 1 n c 0)), some (.long s0), none, some (.int x), some (.long (dg3 M n c f x (dg4 M n c x (dg2 M n c (dg1 M n c s0 7) cnt) f) 6)), none, some (.int (nI f)), some (.int (nI 6))] [] hp (fun v hp' => retOk mX0_addToDigest.2.2.2 v ∧ hp' = hp ∧ v = some (.long (dgC M n c cnt x s0)))) : ∀ (m i : Nat), 6 - i = m → i ≤ 6 → WP L xs (d + 2) mX0_addToDigest 83 [some (.ref (xi 1 n c 0)), some (.long s0), none, some (.int x), some (.long (dg3 M n c f x (dg4 M n c x (dg2 M n c (dg1 M n c s0 7) cnt) f) i)), none, some (.int (nI f)), some (.int (nI i))] [] hp (fun v hp' => retOk mX0_addToDigest.2.2.2 v ∧ hp' = hp ∧ v = some (.long (dgC M n c cnt x s0))) := by
  intro m
  induction m using Nat.strongRecOn with
  | ind m ih =>
    intro i hm hi0
    subst hm
    refine wp_iload dX0_addToDigest_83 rfl ?_
    refine wp_iconst (v := 5) dX0_addToDigest_85 rfl ?_
    refine wp_icmp_gt (tgt := 122) dX0_addToDigest_86 (by decide) (fun c86 => ?_) (fun c86 => ?_)
    · skip
      have e9 : i = 6 := by
        have := (nI_ltI (show 5 < 2 ^ 31 by decide) (show i < 2 ^ 31 by omega)).mp c86
        omega
      subst e9
      exact kk
    · skip
      refine wp_lload dX0_addToDigest_89 rfl ?_
      refine wp_ldc2 dX0_addToDigest_91 k_X0_119 ?_
      refine wp_lmul dX0_addToDigest_94 ?_
      refine wp_aload_n (i := 0) dX0_addToDigest_95 rfl rfl ?_
      refine wr_cliR (j := rF n c) dX0_addToDigest_96 hR f_X0_11 hn hc4 (Or.inl ⟨rfl, rfl⟩) ?_
      refine wp_iload dX0_addToDigest_99 rfl ?_
      refine wr_aF (f := f) dX0_addToDigest_101 hR rfl hn hc4 hf9 ?_
      refine wp_iload dX0_addToDigest_102 rfl ?_
      refine wp_iload_n (i := 3) dX0_addToDigest_104 rfl rfl ?_
      refine wp_aload_n (i := 0) dX0_addToDigest_105 rfl rfl ?_
      refine wr_get (g := 1) (n := n) (a := c) (b := 0) (k := 6) dX0_addToDigest_106 hR f_X0_35 (vs1 hn hc4 (by decide)) (by decide) (by decide) ?_
      have hi9 : i < 6 := by
        rcases Nat.lt_or_ge i 6 with q | q
        · exact q
        · exact absurd (show nI 5 < nI i from nI_lt (by omega) (by omega)) c86
      refine wp_callV (N := mX1_tell) (as := [.int (nI i), .int x, .int (gV M 1 n c 0 6)]) dX0_addToDigest_109 l_X0_124 v_X1_tell rfl (hR.oo (vs2 hn hc4 hf9 (k := 0) (by decide)) (by decide)) rfl (Nat.le_of_ble_eq_true rfl) (s_heTell hR hn hc4 hf9 x (gV M 1 n c 0 6) hi9) (fun v hp9 hq => ?_)
      obtain ⟨rfl, rfl⟩ := hq
      refine wp_i2l dX0_addToDigest_112 ?_
      refine wp_ladd dX0_addToDigest_113 ?_
      refine wp_lstore dX0_addToDigest_114 (Nat.le_of_ble_eq_true rfl) ?_
      refine wp_iinc (v := nI (i + 1)) dX0_addToDigest_116 rfl (nI_1 _) ?_
      refine wp_goto (tgt := 83) dX0_addToDigest_119 (by decide) ?_
      exact ih (6 - (i + 1)) (by omega) (i + 1) rfl (by omega)
theorem w_ad_73 (hR : Rep hp M) (hn : n < 2) (hc4 : c < 4) : ∀ (m f : Nat), 12 - f = m → f ≤ 12 → ∀ (l7 : Option Value), WP L xs (d + 2) mX0_addToDigest 73 [some (.ref (xi 1 n c 0)), some (.long s0), none, some (.int x), some (.long (dg4 M n c x (dg2 M n c (dg1 M n c s0 7) cnt) f)), none, some (.int (nI f)), l7] [] hp (fun v hp' => retOk mX0_addToDigest.2.2.2 v ∧ hp' = hp ∧ v = some (.long (dgC M n c cnt x s0))) := by
  intro m
  induction m using Nat.strongRecOn with
  | ind m ih =>
    intro f hm hf0 l7
    subst hm
    refine wp_iload dX0_addToDigest_73 rfl ?_
    refine wp_bipush (v := nI 12) dX0_addToDigest_75 (by decide) ?_
    refine wp_icmp_ge (tgt := 128) dX0_addToDigest_77 (by decide) (fun c77 => ?_) (fun c77 => ?_)
    · skip
      have e9 : f = 12 := by
        rcases Nat.lt_or_ge f 12 with q | q
        · exact absurd (nI_lt q (by decide)) c77
        · omega
      subst e9
      refine wp_lload dX0_addToDigest_128 rfl ?_
      refine wp_ret (v := some (.long _)) dX0_addToDigest_130 rfl ?_
      exact ⟨trivial, rfl, rfl⟩
    · skip
      refine wp_iconst (v := 0) dX0_addToDigest_80 rfl ?_
      refine wp_istore dX0_addToDigest_81 (Nat.le_of_ble_eq_true rfl) ?_
      have hf9 : f < 12 := (nI_ltI (by omega) (by decide)).mp c77
      exact w_ad_83 hR hn hc4 hf9 (by
        refine wp_iinc (v := nI (f + 1)) dX0_addToDigest_122 rfl (nI_1 _) ?_
        refine wp_goto (tgt := 73) dX0_addToDigest_125 (by decide) ?_
        exact ih (12 - (f + 1)) (by omega) (f + 1) rfl (by omega) _) 6 0 rfl (by decide)
theorem w_ad_38 (hR : Rep hp M) (hn : n < 2) (hc4 : c < 4) (hcnt : gV M 1 n c 0 2 = nI cnt) (h12 : cnt ≤ 12) : ∀ (m i : Nat), cnt - i = m → i ≤ cnt → ∀ (l7 : Option Value), WP L xs (d + 2) mX0_addToDigest 38 [some (.ref (xi 1 n c 0)), some (.long s0), none, some (.int x), some (.long (dg2 M n c (dg1 M n c s0 7) i)), none, some (.int (nI i)), l7] [] hp (fun v hp' => retOk mX0_addToDigest.2.2.2 v ∧ hp' = hp ∧ v = some (.long (dgC M n c cnt x s0))) := by
  intro m
  induction m using Nat.strongRecOn with
  | ind m ih =>
    intro i hm hi0 l7
    subst hm
    refine wp_iload dX0_addToDigest_38 rfl ?_
    refine wp_aload_n (i := 0) dX0_addToDigest_40 rfl rfl ?_
    refine wr_get (g := 1) (n := n) (a := c) (b := 0) (k := 2) dX0_addToDigest_41 hR f_X0_52 (vs1 hn hc4 (by decide)) (by decide) (by decide) ?_
    refine wp_icmp_ge (tgt := 70) dX0_addToDigest_44 (by decide) (fun c44 => ?_) (fun c44 => ?_)
    · skip
      refine wp_iconst (v := 0) dX0_addToDigest_70 rfl ?_
      refine wp_istore dX0_addToDigest_71 (Nat.le_of_ble_eq_true rfl) ?_
      have e9 : i = cnt := by
        rcases Nat.lt_or_ge i cnt with q | q
        · exact absurd (by rw [hcnt]; exact nI_lt q (by omega)) c44
        · omega
      subst e9
      exact w_ad_73 hR hn hc4 12 0 rfl (by decide) _
    · skip
      have hil : i < cnt := by rw [hcnt] at c44; exact (nI_ltI (by omega) (by omega)).mp c44
      have hi9 : i < 12 := by omega
      refine wp_lload dX0_addToDigest_47 rfl ?_
      refine wp_ldc2 dX0_addToDigest_49 k_X0_119 ?_
      refine wp_lmul dX0_addToDigest_52 ?_
      refine wp_aload_n (i := 0) dX0_addToDigest_53 rfl rfl ?_
      refine wr_cliR (j := xi 3 n c 0) dX0_addToDigest_54 hR f_X0_17 hn hc4 (Or.inr (Or.inl ⟨rfl, rfl⟩)) ?_
      refine wp_iload dX0_addToDigest_57 rfl ?_
      refine wr_ordG (k := i) dX0_addToDigest_59 hR rfl (vs3 hn hc4 hi9) ?_
      refine wp_i2l dX0_addToDigest_60 ?_
      refine wp_ladd dX0_addToDigest_61 ?_
      refine wp_lstore dX0_addToDigest_62 (Nat.le_of_ble_eq_true rfl) ?_
      refine wp_iinc (v := nI (i + 1)) dX0_addToDigest_64 rfl (nI_1 _) ?_
      refine wp_goto (tgt := 38) dX0_addToDigest_67 (by decide) ?_
      exact ih (cnt - (i + 1)) (by omega) (i + 1) rfl (by omega) _
theorem w_ad_6 (hR : Rep hp M) (hn : n < 2) (hc4 : c < 4) (hcnt : gV M 1 n c 0 2 = nI cnt) (h12 : cnt ≤ 12) : ∀ (m i : Nat), 7 - i = m → i ≤ 7 → ∀ (l7 : Option Value), WP L xs (d + 2) mX0_addToDigest 6 [some (.ref (xi 1 n c 0)), some (.long s0), none, some (.int x), some (.long (dg1 M n c s0 i)), none, some (.int (nI i)), l7] [] hp (fun v hp' => retOk mX0_addToDigest.2.2.2 v ∧ hp' = hp ∧ v = some (.long (dgC M n c cnt x s0))) := by
  intro m
  induction m using Nat.strongRecOn with
  | ind m ih =>
    intro i hm hi0 l7
    subst hm
    refine wp_iload dX0_addToDigest_6 rfl ?_
    refine wp_bipush (v := nI 6) dX0_addToDigest_8 (by decide) ?_
    refine wp_icmp_gt (tgt := 35) dX0_addToDigest_10 (by decide) (fun c10 => ?_) (fun c10 => ?_)
    · skip
      refine wp_iconst (v := 0) dX0_addToDigest_35 rfl ?_
      refine wp_istore dX0_addToDigest_36 (Nat.le_of_ble_eq_true rfl) ?_
      have e9 : i = 7 := by
        have := (nI_ltI (show 6 < 2 ^ 31 by decide) (show i < 2 ^ 31 by omega)).mp c10
        omega
      subst e9
      exact w_ad_38 hR hn hc4 hcnt h12 cnt 0 rfl (Nat.zero_le _) _
    · skip
      refine wp_lload dX0_addToDigest_13 rfl ?_
      refine wp_ldc2 dX0_addToDigest_15 k_X0_119 ?_
      refine wp_lmul dX0_addToDigest_18 ?_
      refine wp_aload_n (i := 0) dX0_addToDigest_19 rfl rfl ?_
      refine wp_iload dX0_addToDigest_20 rfl ?_
      have hi9 : i < 7 := by
        rcases Nat.lt_or_ge i 7 with q | q
        · exact q
        · exact absurd (show nI 6 < nI i from nI_lt (by omega) (by omega)) c10
      refine wp_callV (N := mX0_tell) (as := [.int (nI i)]) dX0_addToDigest_22 l_X0_121 v_X0_tell rfl (hR.oo (vs1 hn hc4 (k := 2) (by decide)) (by decide)) rfl (Nat.le_of_ble_eq_true rfl) (s_clTell hR hn hc4 hi9) (fun v hp9 hq => ?_)
      obtain ⟨rfl, rfl⟩ := hq
      refine wp_i2l dX0_addToDigest_25 ?_
      refine wp_ladd dX0_addToDigest_26 ?_
      refine wp_lstore dX0_addToDigest_27 (Nat.le_of_ble_eq_true rfl) ?_
      refine wp_iinc (v := nI (i + 1)) dX0_addToDigest_29 rfl (nI_1 _) ?_
      refine wp_goto (tgt := 6) dX0_addToDigest_32 (by decide) ?_
      exact ih (7 - (i + 1)) (by omega) (i + 1) rfl (by omega) _
/-- a client's digest -/
theorem s_clDigest (hR : Rep hp M) (hn : n < 2) (hc4 : c < 4) (hcnt : gV M 1 n c 0 2 = nI cnt) (h12 : cnt ≤ 12) : WM L xs (d + 2) mX0_addToDigest [.ref (xi 1 n c 0), .long s0, .int x] hp (fun v hp' => hp' = hp ∧ v = some (.long (dgC M n c cnt x s0))) := by
  refine WM.of [some (.ref _), some (.long s0), none, some (.int x), none, none, none, none] (by decide) rfl (Nat.le_of_ble_eq_true rfl) ?_
  refine wp_lload_n (i := 1) dX0_addToDigest_0 rfl rfl ?_
  refine wp_lstore dX0_addToDigest_1 (Nat.le_of_ble_eq_true rfl) ?_
  refine wp_iconst (v := 0) dX0_addToDigest_3 rfl ?_
  refine wp_istore dX0_addToDigest_4 (Nat.le_of_ble_eq_true rfl) ?_
  exact w_ad_6 hR hn hc4 hcnt h12 7 0 rfl (by decide) _
theorem w_at_41 (hR : Rep hp M) (hn : n < 2) {u r : Nat} (hk9 : (clk + (u + 1)) % 9 < 9) (hr : r < (gT M 2 n ((clk + (u + 1)) % 9)).length) (kk : WP L xs (d + 2) mX2_addThingsToDigest 70 [some (.ref (xi 0 n 0 0)), some (.long s0), none, some (.long (dgR M n ((clk + (u + 1)) % 9) r (dgS M n ((clk + (u + 1)) % 9) (dgT M n clk s0 u) r) 4)), none, some (.int (nI (u + 1))), some (.ref (xt 2 n ((clk + (u + 1)) % 9))), some (.int (nI r)), some (.int (nI 4))] [] hp (fun v hp' => retOk mX2_addThingsToDigest.2.2.2 v ∧ hp' = hp ∧ v = some (.long (dgT M n clk s0 8)))) : ∀ (m i : Nat), 4 - i = m → i ≤ 4 → WP L xs (d + 2) mX2_addThingsToDigest 41 [some (.ref (xi 0 n 0 0)), some (.long s0), none, some (.long (dgR M n ((clk + (u + 1)) % 9) r (dgS M n ((clk + (u + 1)) % 9) (dgT M n clk s0 u) r) i)), none, some (.int (nI (u + 1))), some (.ref (xt 2 n ((clk + (u + 1)) % 9))), some (.int (nI r)), some (.int (nI i))] [] hp (fun v hp' => retOk mX2_addThingsToDigest.2.2.2 v ∧ hp' = hp ∧ v = some (.long (dgT M n clk s0 8))) := by
  intro m
  induction m using Nat.strongRecOn with
  | ind m ih =>
    intro i hm hi0
    subst hm
    refine wp_iload dX2_addThingsToDigest_41 rfl ?_
    refine wp_iconst (v := 3) dX2_addThingsToDigest_43 rfl ?_
    refine wp_icmp_gt (tgt := 70) dX2_addThingsToDigest_44 (by decide) (fun c44 => ?_) (fun c44 => ?_)
    · skip
      have e9 : i = 4 := by
        have := (nI_ltI (show 3 < 2 ^ 31 by decide) (show i < 2 ^ 31 by omega)).mp c44
        omega
      subst e9
      exact kk
    · skip
      refine wp_lload_n (i := 3) dX2_addThingsToDigest_47 rfl rfl ?_
      refine wp_ldc2 dX2_addThingsToDigest_48 k_X2_72 ?_
      refine wp_lmul dX2_addThingsToDigest_51 ?_
      refine wp_aload dX2_addThingsToDigest_52 rfl ?_
      refine wp_iload dX2_addThingsToDigest_54 rfl ?_
      refine wp_iload dX2_addThingsToDigest_56 rfl ?_
      have hi9 : i < 4 := by
        rcases Nat.lt_or_ge i 4 with q | q
        · exact q
        · exact absurd (show nI 3 < nI i from nI_lt (by omega) (by omega)) c44
      refine wp_callV (N := mX4_get) (as := [.int (nI r), .int (nI i)]) dX2_addThingsToDigest_58 l_X2_69 v_X4_get rfl (hR.oT (vt2 hn hk9)) rfl (Nat.le_of_ble_eq_true rfl) (s_get hR (vt2 hn hk9) hr (c := i) (by show i < 8; omega)) (fun v hp9 hq => ?_)
      obtain ⟨rfl, rfl⟩ := hq
      refine wp_i2l dX2_addThingsToDigest_61 ?_
      refine wp_ladd dX2_addThingsToDigest_62 ?_
      refine wp_lstore_n (i := 3) dX2_addThingsToDigest_63 rfl (Nat.le_of_ble_eq_true rfl) ?_
      refine wp_iinc (v := nI (i + 1)) dX2_addThingsToDigest_64 rfl (nI_1 _) ?_
      refine wp_goto (tgt := 41) dX2_addThingsToDigest_67 (by decide) ?_
      exact ih (4 - (i + 1)) (by omega) (i + 1) rfl (by omega)
theorem w_at_28 (hR : Rep hp M) (hn : n < 2) {u : Nat} (hk9 : (clk + (u + 1)) % 9 < 9) (kk : ∀ (l7 l8 : Option Value), WP L xs (d + 2) mX2_addThingsToDigest 76 [some (.ref (xi 0 n 0 0)), some (.long s0), none, some (.long (dgS M n ((clk + (u + 1)) % 9) (dgT M n clk s0 u) (gT M 2 n ((clk + (u + 1)) % 9)).length)), none, some (.int (nI (u + 1))), some (.ref (xt 2 n ((clk + (u + 1)) % 9))), l7, l8] [] hp (fun v hp' => retOk mX2_addThingsToDigest.2.2.2 v ∧ hp' = hp ∧ v = some (.long (dgT M n clk s0 8)))) : ∀ (m r : Nat), (gT M 2 n ((clk + (u + 1)) % 9)).length - r = m → r ≤ (gT M 2 n ((clk + (u + 1)) % 9)).length → ∀ (l8 : Option Value), WP L xs (d + 2) mX2_addThingsToDigest 28 [some (.ref (xi 0 n 0 0)), some (.long s0), none, some (.long (dgS M n ((clk + (u + 1)) % 9) (dgT M n clk s0 u) r)), none, some (.int (nI (u + 1))), some (.ref (xt 2 n ((clk + (u + 1)) % 9))), some (.int (nI r)), l8] [] hp (fun v hp' => retOk mX2_addThingsToDigest.2.2.2 v ∧ hp' = hp ∧ v = some (.long (dgT M n clk s0 8))) := by
  have hlen : (gT M 2 n ((clk + (u + 1)) % 9)).length < 2 ^ 31 := by have := (hR.T (vt2 hn hk9)).2.2.2.2.2.2.2; omega
  intro m
  induction m using Nat.strongRecOn with
  | ind m ih =>
    intro r hm hr0 l8
    subst hm
    refine wp_iload dX2_addThingsToDigest_28 rfl ?_
    refine wp_aload dX2_addThingsToDigest_30 rfl ?_
    refine wr_rows dX2_addThingsToDigest_32 hR f_X2_59 (vt2 hn hk9) ?_
    refine wp_icmp_ge (tgt := 76) dX2_addThingsToDigest_35 (by decide) (fun c35 => ?_) (fun c35 => ?_)
    · skip
      have e9 : r = (gT M 2 n ((clk + (u + 1)) % 9)).length := by
        rcases Nat.lt_or_ge r (gT M 2 n ((clk + (u + 1)) % 9)).length with q | q
        · exact absurd (nI_lt q hlen) c35
        · omega
      rw [e9]
      exact kk _ _
    · skip
      refine wp_iconst (v := 0) dX2_addThingsToDigest_38 rfl ?_
      refine wp_istore dX2_addThingsToDigest_39 (Nat.le_of_ble_eq_true rfl) ?_
      have hr : r < (gT M 2 n ((clk + (u + 1)) % 9)).length := (nI_ltI (by omega) hlen).mp c35
      exact w_at_41 hR hn hk9 hr (by
        refine wp_iinc (v := nI (r + 1)) dX2_addThingsToDigest_70 rfl (nI_1 _) ?_
        refine wp_goto (tgt := 28) dX2_addThingsToDigest_73 (by decide) ?_
        exact ih (_ - (r + 1)) (by omega) (r + 1) rfl (by omega) _) 4 0 rfl (by decide)
theorem w_at_5 (hR : Rep hp M) (hn : n < 2) (hclk : gV M 0 n 0 0 0 = nI clk) (hb : clk < 1000) : ∀ (m u : Nat), 8 - u = m → u ≤ 8 → ∀ (l6 l7 l8 : Option Value), WP L xs (d + 2) mX2_addThingsToDigest 5 [some (.ref (xi 0 n 0 0)), some (.long s0), none, some (.long (dgT M n clk s0 u)), none, some (.int (nI (u + 1))), l6, l7, l8] [] hp (fun v hp' => retOk mX2_addThingsToDigest.2.2.2 v ∧ hp' = hp ∧ v = some (.long (dgT M n clk s0 8))) := by
  intro m
  induction m using Nat.strongRecOn with
  | ind m ih =>
    intro u hm hu0 l6 l7 l8
    have hk9 : (clk + (u + 1)) % 9 < 9 := Nat.mod_lt _ (by decide)
    subst hm
    refine wp_iload dX2_addThingsToDigest_5 rfl ?_
    refine wp_bipush (v := nI 8) dX2_addThingsToDigest_7 (by decide) ?_
    refine wp_icmp_gt (tgt := 82) dX2_addThingsToDigest_9 (by decide) (fun c9 => ?_) (fun c9 => ?_)
    · skip
      have e9 : u = 8 := by
        have := (nI_ltI (show 8 < 2 ^ 31 by decide) (show u + 1 < 2 ^ 31 by omega)).mp c9
        omega
      subst e9
      refine wp_lload_n (i := 3) dX2_addThingsToDigest_82 rfl rfl ?_
      refine wp_ret (v := some (.long _)) dX2_addThingsToDigest_83 rfl ?_
      exact ⟨trivial, rfl, rfl⟩
    · skip
      refine wp_aload_n (i := 0) dX2_addThingsToDigest_12 rfl rfl ?_
      refine wp_aload_n (i := 0) dX2_addThingsToDigest_13 rfl rfl ?_
      refine wr_get (g := 0) (n := n) (a := 0) (b := 0) (k := 0) dX2_addThingsToDigest_14 hR f_X2_62 (vs0 hn (by decide)) (by decide) (by decide) ?_
      refine wp_iload dX2_addThingsToDigest_17 rfl ?_
      refine wp_iadd dX2_addThingsToDigest_19 ?_
      have hu8 : u < 8 := by
        rcases Nat.lt_or_ge u 8 with q | q
        · exact q
        · exact absurd (show nI 8 < nI (u + 1) from nI_lt (by omega) (by omega)) c9
      rw [hclk, nI_add]
      refine wp_callV (N := mX2_slotAt) (as := [.int (nI (clk + (u + 1)))]) dX2_addThingsToDigest_20 l_X2_65 v_X2_slotAt rfl (hR.oo (vs0 hn (k := 0) (by decide)) (by decide)) rfl (by decide) (s_slotAt hR hn (by omega)) (fun v hp6 hq => ?_)
      obtain ⟨rfl, rfl⟩ := hq
      refine wp_astore dX2_addThingsToDigest_23 (Nat.le_of_ble_eq_true rfl) ?_
      refine wp_iconst (v := 0) dX2_addThingsToDigest_25 rfl ?_
      refine wp_istore dX2_addThingsToDigest_26 (Nat.le_of_ble_eq_true rfl) ?_
      exact w_at_28 hR hn hk9 (fun l7 l8 => (by
        refine wp_iinc (v := nI (u + 1 + 1)) dX2_addThingsToDigest_76 rfl (nI_1 _) ?_
        refine wp_goto (tgt := 5) dX2_addThingsToDigest_79 (by decide) ?_
        exact ih (8 - (u + 1)) (by omega) (u + 1) rfl (by omega) _ _ _)) _ 0 rfl (Nat.zero_le _) _
/-- the things' digest -/
theorem s_thDigest (hR : Rep hp M) (hn : n < 2) (hclk : gV M 0 n 0 0 0 = nI clk) (hb : clk < 1000) : WM L xs (d + 2) mX2_addThingsToDigest [.ref (xi 0 n 0 0), .long s0] hp (fun v hp' => hp' = hp ∧ v = some (.long (dgT M n clk s0 8))) := by
  refine WM.of [some (.ref _), some (.long s0), none, none, none, none, none, none, none] (by decide) rfl (Nat.le_of_ble_eq_true rfl) ?_
  refine wp_lload_n (i := 1) dX2_addThingsToDigest_0 rfl rfl ?_
  refine wp_lstore_n (i := 3) dX2_addThingsToDigest_1 rfl (Nat.le_of_ble_eq_true rfl) ?_
  refine wp_iconst (v := 1) dX2_addThingsToDigest_2 rfl ?_
  refine wp_istore dX2_addThingsToDigest_3 (Nat.le_of_ble_eq_true rfl) ?_
  exact w_at_5 hR hn hclk hb 8 0 rfl (by decide) _ _ _
end DIGEST
