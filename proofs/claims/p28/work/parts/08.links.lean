/-! ===== what the constant pools link, an entry each ===== -/
theorem o_X0_3 : oInit RX0 3 := ⟨inWall (by decide +kernel), inWall (by decide +kernel), inWall (by decide +kernel)⟩
theorem a_X0_9 : .classLink RX0 9 RX1 ∈ Wall := inWall (by decide +kernel)
theorem p_X0_11 {M : MD} (h : M.1.cls = RX0) (hi : M.1.name = "<init>") : fP M 11 0 0 := ⟨RX0, TX0, 12, rfl, by decide, rfl, Or.inl ⟨by rw [h]; exact inWall (by decide +kernel), Or.inr ⟨rfl, hi, h.symm⟩⟩⟩
theorem p_X0_17 {M : MD} (h : M.1.cls = RX0) (hi : M.1.name = "<init>") : fP M 17 0 1 := ⟨RX0, TX0, 12, rfl, by decide, rfl, Or.inl ⟨by rw [h]; exact inWall (by decide +kernel), Or.inr ⟨rfl, hi, h.symm⟩⟩⟩
theorem n_X0_21 : nC RX0 21 4 3 := ⟨RX4, TX4, rfl, inWall (by decide +kernel), inWall (by decide +kernel), inWall (by decide +kernel)⟩
theorem l_X0_23 : .methodLink RX0 23 yX4_init ∈ Wall ∨ (RX0, 23, yX4_init) ∈ nestM := Or.inl (inWall (by decide +kernel))
theorem p_X0_26 {M : MD} (h : M.1.cls = RX0) (hi : M.1.name = "<init>") : fP M 26 0 3 := ⟨RX0, TX0, 12, rfl, by decide, rfl, Or.inl ⟨by rw [h]; exact inWall (by decide +kernel), Or.inr ⟨rfl, hi, h.symm⟩⟩⟩
theorem p_X0_30 {M : MD} (h : M.1.cls = RX0) : fP M 30 0 4 := ⟨RX0, TX0, 12, rfl, by decide, rfl, Or.inl ⟨by rw [h]; exact inWall (by decide +kernel), Or.inl rfl⟩⟩
theorem f_X0_11 : fG RX0 11 0 0 := ⟨RX0, TX0, 12, rfl, by decide, rfl, Or.inl (inWall (by decide +kernel))⟩
theorem n_X0_9 : nC RX0 9 1 8 := ⟨RX1, TX1, rfl, inWall (by decide +kernel), inWall (by decide +kernel), inWall (by decide +kernel)⟩
theorem l_X0_34 : .methodLink RX0 34 yX1_init ∈ Wall ∨ (RX0, 34, yX1_init) ∈ nestM := Or.inr (by decide +kernel)
theorem p_X0_35 {M : MD} (h : M.1.cls = RX0) : fP M 35 0 6 := ⟨RX0, TX0, 12, rfl, by decide, rfl, Or.inl ⟨by rw [h]; exact inWall (by decide +kernel), Or.inl rfl⟩⟩
theorem p_X0_39 {M : MD} (h : M.1.cls = RX0) : fP M 39 1 6 := ⟨RX1, TX1, 8, rfl, by decide, rfl, Or.inr ⟨by rw [h]; decide +kernel, rfl⟩⟩
theorem p_X0_42 {M : MD} (h : M.1.cls = RX0) : fP M 42 1 7 := ⟨RX1, TX1, 8, rfl, by decide, rfl, Or.inr ⟨by rw [h]; decide +kernel, rfl⟩⟩
theorem p_X0_45 {M : MD} (h : M.1.cls = RX0) : fP M 45 1 3 := ⟨RX1, TX1, 8, rfl, by decide, rfl, Or.inr ⟨by rw [h]; decide +kernel, rfl⟩⟩
theorem l_X0_48 : .methodLink RX0 48 yX0_placeOf ∈ Wall := inWall (by decide +kernel)
theorem f_X0_52 : fG RX0 52 0 2 := ⟨RX0, TX0, 12, rfl, by decide, rfl, Or.inl (inWall (by decide +kernel))⟩
theorem p_X0_52 {M : MD} (h : M.1.cls = RX0) : fP M 52 0 2 := ⟨RX0, TX0, 12, rfl, by decide, rfl, Or.inl ⟨by rw [h]; exact inWall (by decide +kernel), Or.inl rfl⟩⟩
theorem f_X0_17 : fG RX0 17 0 1 := ⟨RX0, TX0, 12, rfl, by decide, rfl, Or.inl (inWall (by decide +kernel))⟩
theorem p_X0_55 {M : MD} (h : M.1.cls = RX0) : fP M 55 1 0 := ⟨RX1, TX1, 8, rfl, by decide, rfl, Or.inr ⟨by rw [h]; decide +kernel, rfl⟩⟩
theorem f_X0_58 : fG RX0 58 1 4 := ⟨RX1, TX1, 8, rfl, by decide, rfl, Or.inr (by decide +kernel)⟩
theorem f_X0_55 : fG RX0 55 1 0 := ⟨RX1, TX1, 8, rfl, by decide, rfl, Or.inr (by decide +kernel)⟩
theorem l_X0_61 : .methodLink RX0 61 yX0_makesRoom ∈ Wall := inWall (by decide +kernel)
theorem l_X0_65 : .methodLink RX0 65 yX1_beGiven ∈ Wall := inWall (by decide +kernel)
theorem l_X0_69 : .methodLink RX0 69 yX0_use ∈ Wall := inWall (by decide +kernel)
theorem l_X0_72 : .methodLink RX0 72 yX0_letGo ∈ Wall := inWall (by decide +kernel)
theorem f_X0_75 : fG RX0 75 0 10 := ⟨RX0, TX0, 12, rfl, by decide, rfl, Or.inl (inWall (by decide +kernel))⟩
theorem p_X0_75 {M : MD} (h : M.1.cls = RX0) : fP M 75 0 10 := ⟨RX0, TX0, 12, rfl, by decide, rfl, Or.inl ⟨by rw [h]; exact inWall (by decide +kernel), Or.inl rfl⟩⟩
theorem f_X0_78 : fG RX0 78 0 9 := ⟨RX0, TX0, 12, rfl, by decide, rfl, Or.inl (inWall (by decide +kernel))⟩
theorem p_X0_78 {M : MD} (h : M.1.cls = RX0) : fP M 78 0 9 := ⟨RX0, TX0, 12, rfl, by decide, rfl, Or.inl ⟨by rw [h]; exact inWall (by decide +kernel), Or.inl rfl⟩⟩
theorem f_X0_81 : fG RX0 81 0 5 := ⟨RX0, TX0, 12, rfl, by decide, rfl, Or.inl (inWall (by decide +kernel))⟩
theorem p_X0_84 {M : MD} (h : M.1.cls = RX0) : fP M 84 1 2 := ⟨RX1, TX1, 8, rfl, by decide, rfl, Or.inr ⟨by rw [h]; decide +kernel, rfl⟩⟩
theorem f_X0_87 : fG RX0 87 1 1 := ⟨RX1, TX1, 8, rfl, by decide, rfl, Or.inr (by decide +kernel)⟩
theorem l_X0_90 : .methodLink RX0 90 yX0_keepAside ∈ Wall := inWall (by decide +kernel)
theorem f_X0_26 : fG RX0 26 0 3 := ⟨RX0, TX0, 12, rfl, by decide, rfl, Or.inl (inWall (by decide +kernel))⟩
theorem f_X0_94 : fG RX0 94 4 2 := ⟨RX4, TX4, 3, rfl, by decide, rfl, Or.inr (by decide +kernel)⟩
theorem l_X0_97 : .methodLink RX0 97 yX4_dropFirst ∈ Wall := inWall (by decide +kernel)
theorem l_X0_100 : .methodLink RX0 100 yX4_addRow ∈ Wall := inWall (by decide +kernel)
theorem l_X0_104 : .methodLink RX0 104 yX4_put ∈ Wall := inWall (by decide +kernel)
theorem f_X0_42 : fG RX0 42 1 7 := ⟨RX1, TX1, 8, rfl, by decide, rfl, Or.inr (by decide +kernel)⟩
theorem f_X0_107 : fG RX0 107 1 5 := ⟨RX1, TX1, 8, rfl, by decide, rfl, Or.inr (by decide +kernel)⟩
theorem f_X0_110 : fG RX0 110 0 7 := ⟨RX0, TX0, 12, rfl, by decide, rfl, Or.inl (inWall (by decide +kernel))⟩
theorem f_X0_113 : fG RX0 113 0 8 := ⟨RX0, TX0, 12, rfl, by decide, rfl, Or.inl (inWall (by decide +kernel))⟩
theorem f_X0_116 : fG RX0 116 0 11 := ⟨RX0, TX0, 12, rfl, by decide, rfl, Or.inl (inWall (by decide +kernel))⟩
theorem f_X0_35 : fG RX0 35 0 6 := ⟨RX0, TX0, 12, rfl, by decide, rfl, Or.inl (inWall (by decide +kernel))⟩
theorem k_X0_119 : .constantLong RX0 119 31 ∈ Wall := inWall (by decide +kernel)
theorem l_X0_121 : .methodLink RX0 121 yX0_tell ∈ Wall := inWall (by decide +kernel)
theorem l_X0_124 : .methodLink RX0 124 yX1_tell ∈ Wall := inWall (by decide +kernel)
theorem l_X0_127 : .methodLink RX0 127 yX1_copyFrom ∈ Wall := inWall (by decide +kernel)
theorem l_X0_131 : .methodLink RX0 131 yX4_copyFrom ∈ Wall := inWall (by decide +kernel)
theorem f_X0_30 : fG RX0 30 0 4 := ⟨RX0, TX0, 12, rfl, by decide, rfl, Or.inl (inWall (by decide +kernel))⟩
theorem p_X0_81 {M : MD} (h : M.1.cls = RX0) : fP M 81 0 5 := ⟨RX0, TX0, 12, rfl, by decide, rfl, Or.inl ⟨by rw [h]; exact inWall (by decide +kernel), Or.inl rfl⟩⟩
theorem p_X0_110 {M : MD} (h : M.1.cls = RX0) : fP M 110 0 7 := ⟨RX0, TX0, 12, rfl, by decide, rfl, Or.inl ⟨by rw [h]; exact inWall (by decide +kernel), Or.inl rfl⟩⟩
theorem p_X0_113 {M : MD} (h : M.1.cls = RX0) : fP M 113 0 8 := ⟨RX0, TX0, 12, rfl, by decide, rfl, Or.inl ⟨by rw [h]; exact inWall (by decide +kernel), Or.inl rfl⟩⟩
theorem p_X0_116 {M : MD} (h : M.1.cls = RX0) : fP M 116 0 11 := ⟨RX0, TX0, 12, rfl, by decide, rfl, Or.inl ⟨by rw [h]; exact inWall (by decide +kernel), Or.inl rfl⟩⟩
theorem o_X1_3 : oInit RX1 3 := ⟨inWall (by decide +kernel), inWall (by decide +kernel), inWall (by decide +kernel)⟩
theorem p_X1_9 {M : MD} (h : M.1.cls = RX1) : fP M 9 1 3 := ⟨RX1, TX1, 8, rfl, by decide, rfl, Or.inl ⟨by rw [h]; exact inWall (by decide +kernel), Or.inl rfl⟩⟩
theorem f_X1_15 : fG RX1 15 1 0 := ⟨RX1, TX1, 8, rfl, by decide, rfl, Or.inl (inWall (by decide +kernel))⟩
theorem f_X1_19 : fG RX1 19 1 4 := ⟨RX1, TX1, 8, rfl, by decide, rfl, Or.inl (inWall (by decide +kernel))⟩
theorem f_X1_9 : fG RX1 9 1 3 := ⟨RX1, TX1, 8, rfl, by decide, rfl, Or.inl (inWall (by decide +kernel))⟩
theorem p_X1_22 {M : MD} (h : M.1.cls = RX1) : fP M 22 1 1 := ⟨RX1, TX1, 8, rfl, by decide, rfl, Or.inl ⟨by rw [h]; exact inWall (by decide +kernel), Or.inl rfl⟩⟩
theorem p_X1_19 {M : MD} (h : M.1.cls = RX1) : fP M 19 1 4 := ⟨RX1, TX1, 8, rfl, by decide, rfl, Or.inl ⟨by rw [h]; exact inWall (by decide +kernel), Or.inl rfl⟩⟩
theorem p_X1_25 {M : MD} (h : M.1.cls = RX1) : fP M 25 1 5 := ⟨RX1, TX1, 8, rfl, by decide, rfl, Or.inl ⟨by rw [h]; exact inWall (by decide +kernel), Or.inl rfl⟩⟩
theorem p_X1_15 {M : MD} (h : M.1.cls = RX1) : fP M 15 1 0 := ⟨RX1, TX1, 8, rfl, by decide, rfl, Or.inl ⟨by rw [h]; exact inWall (by decide +kernel), Or.inl rfl⟩⟩
theorem p_X1_28 {M : MD} (h : M.1.cls = RX1) : fP M 28 1 2 := ⟨RX1, TX1, 8, rfl, by decide, rfl, Or.inl ⟨by rw [h]; exact inWall (by decide +kernel), Or.inl rfl⟩⟩
theorem p_X1_31 {M : MD} (h : M.1.cls = RX1) : fP M 31 1 7 := ⟨RX1, TX1, 8, rfl, by decide, rfl, Or.inl ⟨by rw [h]; exact inWall (by decide +kernel), Or.inl rfl⟩⟩
theorem f_X1_22 : fG RX1 22 1 1 := ⟨RX1, TX1, 8, rfl, by decide, rfl, Or.inl (inWall (by decide +kernel))⟩
theorem f_X1_28 : fG RX1 28 1 2 := ⟨RX1, TX1, 8, rfl, by decide, rfl, Or.inl (inWall (by decide +kernel))⟩
theorem l_X1_34 : .methodLink RX1 34 yX1_isTrusted ∈ Wall := inWall (by decide +kernel)
theorem f_X1_38 : fG RX1 38 1 6 := ⟨RX1, TX1, 8, rfl, by decide, rfl, Or.inl (inWall (by decide +kernel))⟩
theorem f_X1_31 : fG RX1 31 1 7 := ⟨RX1, TX1, 8, rfl, by decide, rfl, Or.inl (inWall (by decide +kernel))⟩
theorem f_X1_25 : fG RX1 25 1 5 := ⟨RX1, TX1, 8, rfl, by decide, rfl, Or.inl (inWall (by decide +kernel))⟩
theorem p_X1_38 {M : MD} (h : M.1.cls = RX1) : fP M 38 1 6 := ⟨RX1, TX1, 8, rfl, by decide, rfl, Or.inl ⟨by rw [h]; exact inWall (by decide +kernel), Or.inl rfl⟩⟩
theorem o_X2_3 : oInit RX2 3 := ⟨inWall (by decide +kernel), inWall (by decide +kernel), inWall (by decide +kernel)⟩
theorem p_X2_9 {M : MD} (h : M.1.cls = RX2) : fP M 9 2 1 := ⟨RX2, TX2, 8, rfl, by decide, rfl, Or.inl ⟨by rw [h]; exact inWall (by decide +kernel), Or.inl rfl⟩⟩
theorem p_X2_15 {M : MD} (h : M.1.cls = RX2) : fP M 15 2 2 := ⟨RX2, TX2, 8, rfl, by decide, rfl, Or.inl ⟨by rw [h]; exact inWall (by decide +kernel), Or.inl rfl⟩⟩
theorem p_X2_18 {M : MD} (h : M.1.cls = RX2) : fP M 18 2 3 := ⟨RX2, TX2, 8, rfl, by decide, rfl, Or.inl ⟨by rw [h]; exact inWall (by decide +kernel), Or.inl rfl⟩⟩
theorem a_X2_21 : .classLink RX2 21 RX0 ∈ Wall := inWall (by decide +kernel)
theorem p_X2_23 {M : MD} (h : M.1.cls = RX2) (hi : M.1.name = "<init>") : fP M 23 2 5 := ⟨RX2, TX2, 8, rfl, by decide, rfl, Or.inl ⟨by rw [h]; exact inWall (by decide +kernel), Or.inr ⟨rfl, hi, h.symm⟩⟩⟩
theorem a_X2_27 : .classLink RX2 27 RX3 ∈ Wall := inWall (by decide +kernel)
theorem p_X2_29 {M : MD} (h : M.1.cls = RX2) (hi : M.1.name = "<init>") : fP M 29 2 6 := ⟨RX2, TX2, 8, rfl, by decide, rfl, Or.inl ⟨by rw [h]; exact inWall (by decide +kernel), Or.inr ⟨rfl, hi, h.symm⟩⟩⟩
theorem a_X2_33 : .classLink RX2 33 RX4 ∈ Wall := inWall (by decide +kernel)
theorem p_X2_35 {M : MD} (h : M.1.cls = RX2) (hi : M.1.name = "<init>") : fP M 35 2 7 := ⟨RX2, TX2, 8, rfl, by decide, rfl, Or.inl ⟨by rw [h]; exact inWall (by decide +kernel), Or.inr ⟨rfl, hi, h.symm⟩⟩⟩
theorem f_X2_23 : fG RX2 23 2 5 := ⟨RX2, TX2, 8, rfl, by decide, rfl, Or.inl (inWall (by decide +kernel))⟩
theorem n_X2_21 : nC RX2 21 0 12 := ⟨RX0, TX0, rfl, inWall (by decide +kernel), inWall (by decide +kernel), inWall (by decide +kernel)⟩
theorem l_X2_39 : .methodLink RX2 39 yX0_init ∈ Wall ∨ (RX2, 39, yX0_init) ∈ nestM := Or.inl (inWall (by decide +kernel))
theorem f_X2_29 : fG RX2 29 2 6 := ⟨RX2, TX2, 8, rfl, by decide, rfl, Or.inl (inWall (by decide +kernel))⟩
theorem n_X2_27 : nC RX2 27 3 5 := ⟨RX3, TX3, rfl, inWall (by decide +kernel), inWall (by decide +kernel), inWall (by decide +kernel)⟩
theorem l_X2_40 : .methodLink RX2 40 yX3_init ∈ Wall ∨ (RX2, 40, yX3_init) ∈ nestM := Or.inr (by decide +kernel)
theorem f_X2_35 : fG RX2 35 2 7 := ⟨RX2, TX2, 8, rfl, by decide, rfl, Or.inl (inWall (by decide +kernel))⟩
theorem n_X2_33 : nC RX2 33 4 3 := ⟨RX4, TX4, rfl, inWall (by decide +kernel), inWall (by decide +kernel), inWall (by decide +kernel)⟩
theorem l_X2_41 : .methodLink RX2 41 yX4_init ∈ Wall ∨ (RX2, 41, yX4_init) ∈ nestM := Or.inl (inWall (by decide +kernel))
theorem f_X2_44 : fG RX2 44 2 4 := ⟨RX2, TX2, 8, rfl, by decide, rfl, Or.inl (inWall (by decide +kernel))⟩
theorem p_X2_47 {M : MD} (h : M.1.cls = RX2) : fP M 47 0 4 := ⟨RX0, TX0, 12, rfl, by decide, rfl, Or.inr ⟨by rw [h]; decide +kernel, rfl⟩⟩
theorem p_X2_50 {M : MD} (h : M.1.cls = RX2) : fP M 50 0 5 := ⟨RX0, TX0, 12, rfl, by decide, rfl, Or.inr ⟨by rw [h]; decide +kernel, rfl⟩⟩
theorem p_X2_44 {M : MD} (h : M.1.cls = RX2) : fP M 44 2 4 := ⟨RX2, TX2, 8, rfl, by decide, rfl, Or.inl ⟨by rw [h]; exact inWall (by decide +kernel), Or.inl rfl⟩⟩
theorem l_X2_53 : .methodLink RX2 53 yJ9_floorMod_7cf53 ∈ Wall ∨ (RX2, 53, yJ9_floorMod_7cf53) ∈ nestM := Or.inl (inWall (by decide +kernel))
theorem f_X2_59 : fG RX2 59 4 2 := ⟨RX4, TX4, 3, rfl, by decide, rfl, Or.inr (by decide +kernel)⟩
theorem f_X2_62 : fG RX2 62 2 0 := ⟨RX2, TX2, 8, rfl, by decide, rfl, Or.inl (inWall (by decide +kernel))⟩
theorem l_X2_65 : .methodLink RX2 65 yX2_slotAt ∈ Wall := inWall (by decide +kernel)
theorem l_X2_69 : .methodLink RX2 69 yX4_get ∈ Wall := inWall (by decide +kernel)
theorem k_X2_72 : .constantLong RX2 72 31 ∈ Wall := inWall (by decide +kernel)
theorem f_X2_47 : fG RX2 47 0 4 := ⟨RX0, TX0, 12, rfl, by decide, rfl, Or.inr (by decide +kernel)⟩
theorem l_X2_74 : .methodLink RX2 74 yX4_addRow ∈ Wall := inWall (by decide +kernel)
theorem l_X2_78 : .methodLink RX2 78 yX4_put ∈ Wall := inWall (by decide +kernel)
theorem f_X2_82 : fG RX2 82 0 6 := ⟨RX0, TX0, 12, rfl, by decide, rfl, Or.inr (by decide +kernel)⟩
theorem f_X2_86 : fG RX2 86 0 0 := ⟨RX0, TX0, 12, rfl, by decide, rfl, Or.inr (by decide +kernel)⟩
theorem p_X2_90 {M : MD} (h : M.1.cls = RX2) : fP M 90 1 7 := ⟨RX1, TX1, 8, rfl, by decide, rfl, Or.inr ⟨by rw [h]; decide +kernel, rfl⟩⟩
theorem f_X2_95 : fG RX2 95 1 1 := ⟨RX1, TX1, 8, rfl, by decide, rfl, Or.inr (by decide +kernel)⟩
theorem f_X2_98 : fG RX2 98 1 2 := ⟨RX1, TX1, 8, rfl, by decide, rfl, Or.inr (by decide +kernel)⟩
theorem l_X2_101 : .methodLink RX2 101 yX2_send ∈ Wall := inWall (by decide +kernel)
theorem l_X2_105 : .methodLink RX2 105 yX1_isTrusted ∈ Wall := inWall (by decide +kernel)
theorem f_X2_109 : fG RX2 109 0 7 := ⟨RX0, TX0, 12, rfl, by decide, rfl, Or.inr (by decide +kernel)⟩
theorem p_X2_109 {M : MD} (h : M.1.cls = RX2) : fP M 109 0 7 := ⟨RX0, TX0, 12, rfl, by decide, rfl, Or.inr ⟨by rw [h]; decide +kernel, rfl⟩⟩
theorem l_X2_112 : .methodLink RX2 112 yX0_use ∈ Wall := inWall (by decide +kernel)
theorem f_X2_115 : fG RX2 115 0 8 := ⟨RX0, TX0, 12, rfl, by decide, rfl, Or.inr (by decide +kernel)⟩
theorem p_X2_115 {M : MD} (h : M.1.cls = RX2) : fP M 115 0 8 := ⟨RX0, TX0, 12, rfl, by decide, rfl, Or.inr ⟨by rw [h]; decide +kernel, rfl⟩⟩
theorem f_X2_118 : fG RX2 118 1 6 := ⟨RX1, TX1, 8, rfl, by decide, rfl, Or.inr (by decide +kernel)⟩
theorem p_X2_118 {M : MD} (h : M.1.cls = RX2) : fP M 118 1 6 := ⟨RX1, TX1, 8, rfl, by decide, rfl, Or.inr ⟨by rw [h]; decide +kernel, rfl⟩⟩
theorem p_X2_82 {M : MD} (h : M.1.cls = RX2) : fP M 82 0 6 := ⟨RX0, TX0, 12, rfl, by decide, rfl, Or.inr ⟨by rw [h]; decide +kernel, rfl⟩⟩
theorem l_X2_121 : .methodLink RX2 121 yX0_endLeases ∈ Wall := inWall (by decide +kernel)
theorem l_X2_124 : .methodLink RX2 124 yX0_longestDirty ∈ Wall := inWall (by decide +kernel)
theorem l_X2_127 : .methodLink RX2 127 yX2_sendStore ∈ Wall := inWall (by decide +kernel)
theorem f_X2_131 : fG RX2 131 1 4 := ⟨RX1, TX1, 8, rfl, by decide, rfl, Or.inr (by decide +kernel)⟩
theorem f_X2_90 : fG RX2 90 1 7 := ⟨RX1, TX1, 8, rfl, by decide, rfl, Or.inr (by decide +kernel)⟩
theorem f_X2_134 : fG RX2 134 1 5 := ⟨RX1, TX1, 8, rfl, by decide, rfl, Or.inr (by decide +kernel)⟩
theorem p_X2_62 {M : MD} (h : M.1.cls = RX2) : fP M 62 2 0 := ⟨RX2, TX2, 8, rfl, by decide, rfl, Or.inl ⟨by rw [h]; exact inWall (by decide +kernel), Or.inl rfl⟩⟩
theorem l_X2_137 : .methodLink RX2 137 yX2_bring ∈ Wall := inWall (by decide +kernel)
theorem p_X2_59 {M : MD} (h : M.1.cls = RX2) : fP M 59 4 2 := ⟨RX4, TX4, 3, rfl, by decide, rfl, Or.inr ⟨by rw [h]; decide +kernel, rfl⟩⟩
theorem l_X2_141 : .methodLink RX2 141 yX2_lookAtFirst ∈ Wall := inWall (by decide +kernel)
theorem f_X2_15 : fG RX2 15 2 2 := ⟨RX2, TX2, 8, rfl, by decide, rfl, Or.inl (inWall (by decide +kernel))⟩
theorem l_X2_144 : .methodLink RX2 144 yX2_sendDirty ∈ Wall := inWall (by decide +kernel)
theorem l_X2_147 : .methodLink RX2 147 yX2_isClient ∈ Wall := inWall (by decide +kernel)
theorem l_X2_151 : .methodLink RX2 151 yX5_isFile ∈ Wall ∨ (RX2, 151, yX5_isFile) ∈ nestM := Or.inr (by decide +kernel)
theorem f_X2_154 : fG RX2 154 0 11 := ⟨RX0, TX0, 12, rfl, by decide, rfl, Or.inr (by decide +kernel)⟩
theorem p_X2_154 {M : MD} (h : M.1.cls = RX2) : fP M 154 0 11 := ⟨RX0, TX0, 12, rfl, by decide, rfl, Or.inr ⟨by rw [h]; decide +kernel, rfl⟩⟩
theorem l_X2_157 : .methodLink RX2 157 yX3_addRequest ∈ Wall := inWall (by decide +kernel)
theorem f_X2_161 : fG RX2 161 3 2 := ⟨RX3, TX3, 5, rfl, by decide, rfl, Or.inr (by decide +kernel)⟩
theorem f_X2_18 : fG RX2 18 2 3 := ⟨RX2, TX2, 8, rfl, by decide, rfl, Or.inl (inWall (by decide +kernel))⟩
theorem l_X2_165 : .methodLink RX2 165 yX0_takeGiven ∈ Wall := inWall (by decide +kernel)
theorem l_X2_169 : .methodLink RX2 169 yX1_beStored ∈ Wall := inWall (by decide +kernel)
theorem l_X2_172 : .methodLink RX2 172 yX0_takeClash ∈ Wall := inWall (by decide +kernel)
theorem l_X2_176 : .methodLink RX2 176 yX0_takeCall ∈ Wall := inWall (by decide +kernel)
theorem f_X2_179 : fG RX2 179 3 3 := ⟨RX3, TX3, 5, rfl, by decide, rfl, Or.inr (by decide +kernel)⟩
theorem l_X2_183 : .methodLink RX2 183 yX2_callOthers ∈ Wall := inWall (by decide +kernel)
theorem l_X2_186 : .methodLink RX2 186 yX3_hasToWait ∈ Wall := inWall (by decide +kernel)
theorem l_X2_190 : .methodLink RX2 190 yX2_answer ∈ Wall := inWall (by decide +kernel)
theorem p_X2_193 {M : MD} (h : M.1.cls = RX2) : fP M 193 3 4 := ⟨RX3, TX3, 5, rfl, by decide, rfl, Or.inr ⟨by rw [h]; decide +kernel, rfl⟩⟩
theorem l_X2_196 : .methodLink RX2 196 yX4_dropFirst ∈ Wall := inWall (by decide +kernel)
theorem f_X2_193 : fG RX2 193 3 4 := ⟨RX3, TX3, 5, rfl, by decide, rfl, Or.inr (by decide +kernel)⟩
theorem l_X2_199 : .methodLink RX2 199 yX3_isLeased ∈ Wall := inWall (by decide +kernel)
theorem f_X2_202 : fG RX2 202 3 1 := ⟨RX3, TX3, 5, rfl, by decide, rfl, Or.inr (by decide +kernel)⟩
theorem f_X2_203 : fG RX2 203 3 0 := ⟨RX3, TX3, 5, rfl, by decide, rfl, Or.inr (by decide +kernel)⟩
theorem p_X2_203 {M : MD} (h : M.1.cls = RX2) : fP M 203 3 0 := ⟨RX3, TX3, 5, rfl, by decide, rfl, Or.inr ⟨by rw [h]; decide +kernel, rfl⟩⟩
theorem p_X2_202 {M : MD} (h : M.1.cls = RX2) : fP M 202 3 1 := ⟨RX3, TX3, 5, rfl, by decide, rfl, Or.inr ⟨by rw [h]; decide +kernel, rfl⟩⟩
theorem f_X2_9 : fG RX2 9 2 1 := ⟨RX2, TX2, 8, rfl, by decide, rfl, Or.inl (inWall (by decide +kernel))⟩
theorem l_X2_204 : .methodLink RX2 204 yX0_isClean ∈ Wall := inWall (by decide +kernel)
theorem l_X2_208 : .methodLink RX2 208 yX2_thingCount ∈ Wall := inWall (by decide +kernel)
theorem l_X2_211 : .methodLink RX2 211 yX0_copyFrom ∈ Wall := inWall (by decide +kernel)
theorem l_X2_215 : .methodLink RX2 215 yX3_copyFrom ∈ Wall := inWall (by decide +kernel)
theorem l_X2_218 : .methodLink RX2 218 yX4_copyFrom ∈ Wall := inWall (by decide +kernel)
theorem o_X3_3 : oInit RX3 3 := ⟨inWall (by decide +kernel), inWall (by decide +kernel), inWall (by decide +kernel)⟩
theorem p_X3_9 {M : MD} (h : M.1.cls = RX3) (hi : M.1.name = "<init>") : fP M 9 3 2 := ⟨RX3, TX3, 5, rfl, by decide, rfl, Or.inl ⟨by rw [h]; exact inWall (by decide +kernel), Or.inr ⟨rfl, hi, h.symm⟩⟩⟩
theorem n_X3_15 : nC RX3 15 4 3 := ⟨RX4, TX4, rfl, inWall (by decide +kernel), inWall (by decide +kernel), inWall (by decide +kernel)⟩
theorem l_X3_17 : .methodLink RX3 17 yX4_init ∈ Wall ∨ (RX3, 17, yX4_init) ∈ nestM := Or.inl (inWall (by decide +kernel))
theorem p_X3_20 {M : MD} (h : M.1.cls = RX3) (hi : M.1.name = "<init>") : fP M 20 3 3 := ⟨RX3, TX3, 5, rfl, by decide, rfl, Or.inl ⟨by rw [h]; exact inWall (by decide +kernel), Or.inr ⟨rfl, hi, h.symm⟩⟩⟩
theorem f_X3_9 : fG RX3 9 3 2 := ⟨RX3, TX3, 5, rfl, by decide, rfl, Or.inl (inWall (by decide +kernel))⟩
theorem f_X3_20 : fG RX3 20 3 3 := ⟨RX3, TX3, 5, rfl, by decide, rfl, Or.inl (inWall (by decide +kernel))⟩
theorem l_X3_24 : .methodLink RX3 24 yX4_get ∈ Wall := inWall (by decide +kernel)
theorem l_X3_28 : .methodLink RX3 28 yX3_isLeased ∈ Wall := inWall (by decide +kernel)
theorem l_X3_32 : .methodLink RX3 32 yX4_addRow ∈ Wall := inWall (by decide +kernel)
theorem l_X3_36 : .methodLink RX3 36 yX4_put ∈ Wall := inWall (by decide +kernel)
theorem f_X3_40 : fG RX3 40 3 0 := ⟨RX3, TX3, 5, rfl, by decide, rfl, Or.inl (inWall (by decide +kernel))⟩
theorem f_X3_44 : fG RX3 44 3 1 := ⟨RX3, TX3, 5, rfl, by decide, rfl, Or.inl (inWall (by decide +kernel))⟩
theorem f_X3_47 : fG RX3 47 4 2 := ⟨RX4, TX4, 3, rfl, by decide, rfl, Or.inr (by decide +kernel)⟩
theorem l_X3_50 : .methodLink RX3 50 yX3_leasedSet ∈ Wall := inWall (by decide +kernel)
theorem p_X3_40 {M : MD} (h : M.1.cls = RX3) : fP M 40 3 0 := ⟨RX3, TX3, 5, rfl, by decide, rfl, Or.inl ⟨by rw [h]; exact inWall (by decide +kernel), Or.inl rfl⟩⟩
theorem p_X3_44 {M : MD} (h : M.1.cls = RX3) : fP M 44 3 1 := ⟨RX3, TX3, 5, rfl, by decide, rfl, Or.inl ⟨by rw [h]; exact inWall (by decide +kernel), Or.inl rfl⟩⟩
theorem l_X3_54 : .methodLink RX3 54 yX4_copyFrom ∈ Wall := inWall (by decide +kernel)
theorem f_X3_58 : fG RX3 58 3 4 := ⟨RX3, TX3, 5, rfl, by decide, rfl, Or.inl (inWall (by decide +kernel))⟩
theorem p_X3_58 {M : MD} (h : M.1.cls = RX3) : fP M 58 3 4 := ⟨RX3, TX3, 5, rfl, by decide, rfl, Or.inl ⟨by rw [h]; exact inWall (by decide +kernel), Or.inl rfl⟩⟩
theorem o_X4_3 : oInit RX4 3 := ⟨inWall (by decide +kernel), inWall (by decide +kernel), inWall (by decide +kernel)⟩
theorem l_X4_9 : .methodLink RX4 9 yJ9_max_7cf53 ∈ Wall ∨ (RX4, 9, yJ9_max_7cf53) ∈ nestM := Or.inl (inWall (by decide +kernel))
theorem p_X4_15 {M : MD} (h : M.1.cls = RX4) (hi : M.1.name = "<init>") : fP M 15 4 0 := ⟨RX4, TX4, 3, rfl, by decide, rfl, Or.inl ⟨by rw [h]; exact inWall (by decide +kernel), Or.inr ⟨rfl, hi, h.symm⟩⟩⟩
theorem f_X4_15 : fG RX4 15 4 0 := ⟨RX4, TX4, 3, rfl, by decide, rfl, Or.inl (inWall (by decide +kernel))⟩
theorem p_X4_21 {M : MD} (h : M.1.cls = RX4) : fP M 21 4 1 := ⟨RX4, TX4, 3, rfl, by decide, rfl, Or.inl ⟨by rw [h]; exact inWall (by decide +kernel), Or.inl rfl⟩⟩
theorem f_X4_25 : fG RX4 25 4 2 := ⟨RX4, TX4, 3, rfl, by decide, rfl, Or.inl (inWall (by decide +kernel))⟩
theorem k_X4_28 : .constant RX4 28 65536 ∈ Wall := inWall (by decide +kernel)
theorem f_X4_21 : fG RX4 21 4 1 := ⟨RX4, TX4, 3, rfl, by decide, rfl, Or.inl (inWall (by decide +kernel))⟩
theorem o_X4_29 : acp RX4 29 := ⟨inWall (by decide +kernel), inWall (by decide +kernel), inWall (by decide +kernel), inWall (by decide +kernel)⟩
theorem p_X4_25 {M : MD} (h : M.1.cls = RX4) : fP M 25 4 2 := ⟨RX4, TX4, 3, rfl, by decide, rfl, Or.inl ⟨by rw [h]; exact inWall (by decide +kernel), Or.inl rfl⟩⟩
theorem l_X4_35 : .methodLink RX4 35 yX4_isCell ∈ Wall := inWall (by decide +kernel)
theorem o_X5_1 : oInit RX5 1 := ⟨inWall (by decide +kernel), inWall (by decide +kernel), inWall (by decide +kernel)⟩
theorem n_X5_7 : nC RX5 7 2 8 := ⟨RX2, TX2, rfl, inWall (by decide +kernel), inWall (by decide +kernel), inWall (by decide +kernel)⟩
theorem l_X5_9 : .methodLink RX5 9 yX2_init ∈ Wall ∨ (RX5, 9, yX2_init) ∈ nestM := Or.inl (inWall (by decide +kernel))
theorem p_X5_10 {M : MD} (h : M.1.cls = RX5) (hi : M.1.name = "<init>") : fP M 10 5 0 := ⟨RX5, TX5, 2, rfl, by decide, rfl, Or.inl ⟨by rw [h]; exact inWall (by decide +kernel), Or.inr ⟨rfl, hi, h.symm⟩⟩⟩
theorem p_X5_16 {M : MD} (h : M.1.cls = RX5) (hi : M.1.name = "<init>") : fP M 16 5 1 := ⟨RX5, TX5, 2, rfl, by decide, rfl, Or.inl ⟨by rw [h]; exact inWall (by decide +kernel), Or.inr ⟨rfl, hi, h.symm⟩⟩⟩
theorem f_X5_10 : fG RX5 10 5 0 := ⟨RX5, TX5, 2, rfl, by decide, rfl, Or.inl (inWall (by decide +kernel))⟩
theorem f_X5_26 : fG RX5 26 2 4 := ⟨RX2, TX2, 8, rfl, by decide, rfl, Or.inr (by decide +kernel)⟩
theorem l_X5_35 : .methodLink RX5 35 yX2_join ∈ Wall := inWall (by decide +kernel)
theorem f_X5_41 : fG RX5 41 2 1 := ⟨RX2, TX2, 8, rfl, by decide, rfl, Or.inr (by decide +kernel)⟩
theorem p_X5_41 {M : MD} (h : M.1.cls = RX5) : fP M 41 2 1 := ⟨RX2, TX2, 8, rfl, by decide, rfl, Or.inr ⟨by rw [h]; decide +kernel, rfl⟩⟩
theorem p_X5_44 {M : MD} (h : M.1.cls = RX5) : fP M 44 2 2 := ⟨RX2, TX2, 8, rfl, by decide, rfl, Or.inr ⟨by rw [h]; decide +kernel, rfl⟩⟩
theorem f_X5_49 : fG RX5 49 2 3 := ⟨RX2, TX2, 8, rfl, by decide, rfl, Or.inr (by decide +kernel)⟩
theorem p_X5_49 {M : MD} (h : M.1.cls = RX5) : fP M 49 2 3 := ⟨RX2, TX2, 8, rfl, by decide, rfl, Or.inr ⟨by rw [h]; decide +kernel, rfl⟩⟩
theorem l_X5_52 : .methodLink RX5 52 yX5_checkClient ∈ Wall := inWall (by decide +kernel)
theorem l_X5_56 : .methodLink RX5 56 yX2_mendLine ∈ Wall := inWall (by decide +kernel)
theorem f_X5_60 : fG RX5 60 2 5 := ⟨RX2, TX2, 8, rfl, by decide, rfl, Or.inr (by decide +kernel)⟩
theorem l_X5_64 : .methodLink RX5 64 yX0_cutLine ∈ Wall := inWall (by decide +kernel)
theorem l_X5_69 : .methodLink RX5 69 yX5_checkFile ∈ Wall ∨ (RX5, 69, yX5_checkFile) ∈ nestM := Or.inl (inWall (by decide +kernel))
theorem l_X5_72 : .methodLink RX5 72 yX2_reach ∈ Wall := inWall (by decide +kernel)
theorem f_X5_76 : fG RX5 76 0 0 := ⟨RX0, TX0, 12, rfl, by decide, rfl, Or.inr (by decide +kernel)⟩
theorem f_X5_80 : fG RX5 80 1 1 := ⟨RX1, TX1, 8, rfl, by decide, rfl, Or.inr (by decide +kernel)⟩
theorem f_X5_87 : fG RX5 87 2 0 := ⟨RX2, TX2, 8, rfl, by decide, rfl, Or.inr (by decide +kernel)⟩
theorem l_X5_90 : .methodLink RX5 90 yX1_putContent ∈ Wall := inWall (by decide +kernel)
theorem l_X5_94 : .methodLink RX5 94 yX2_sendDirty ∈ Wall := inWall (by decide +kernel)
theorem l_X5_97 : .methodLink RX5 97 yX5_checkTicks ∈ Wall ∨ (RX5, 97, yX5_checkTicks) ∈ nestM := Or.inl (inWall (by decide +kernel))
theorem l_X5_100 : .methodLink RX5 100 yX2_passTick ∈ Wall := inWall (by decide +kernel)
theorem l_X5_103 : .methodLink RX5 103 yX2_thingCount ∈ Wall := inWall (by decide +kernel)
theorem l_X5_107 : .methodLink RX5 107 yX5_checkWhat ∈ Wall ∨ (RX5, 107, yX5_checkWhat) ∈ nestM := Or.inl (inWall (by decide +kernel))
theorem f_X5_110 : fG RX5 110 2 6 := ⟨RX2, TX2, 8, rfl, by decide, rfl, Or.inr (by decide +kernel)⟩
theorem l_X5_114 : .methodLink RX5 114 yX3_tell ∈ Wall := inWall (by decide +kernel)
theorem l_X5_135 : .methodLink RX5 135 yX5_checkPlace ∈ Wall ∨ (RX5, 135, yX5_checkPlace) ∈ nestM := Or.inl (inWall (by decide +kernel))
theorem l_X5_141 : .methodLink RX5 141 yX2_tellThing ∈ Wall := inWall (by decide +kernel)
theorem f_X5_144 : fG RX5 144 0 6 := ⟨RX0, TX0, 12, rfl, by decide, rfl, Or.inr (by decide +kernel)⟩
theorem l_X5_148 : .methodLink RX5 148 yX1_tell ∈ Wall := inWall (by decide +kernel)
theorem f_X5_151 : fG RX5 151 0 2 := ⟨RX0, TX0, 12, rfl, by decide, rfl, Or.inr (by decide +kernel)⟩
theorem f_X5_154 : fG RX5 154 0 1 := ⟨RX0, TX0, 12, rfl, by decide, rfl, Or.inr (by decide +kernel)⟩
theorem l_X5_157 : .methodLink RX5 157 yX0_tell ∈ Wall := inWall (by decide +kernel)
theorem f_X5_162 : fG RX5 162 0 7 := ⟨RX0, TX0, 12, rfl, by decide, rfl, Or.inr (by decide +kernel)⟩
theorem f_X5_165 : fG RX5 165 0 8 := ⟨RX0, TX0, 12, rfl, by decide, rfl, Or.inr (by decide +kernel)⟩
theorem l_X5_168 : .methodLink RX5 168 yX2_staleCount ∈ Wall := inWall (by decide +kernel)
theorem f_X5_16 : fG RX5 16 5 1 := ⟨RX5, TX5, 2, rfl, by decide, rfl, Or.inl (inWall (by decide +kernel))⟩
theorem l_X5_171 : .methodLink RX5 171 yX2_copyFrom ∈ Wall := inWall (by decide +kernel)
theorem l_X5_175 : .methodLink RX5 175 yX2_isCalm ∈ Wall := inWall (by decide +kernel)
theorem f_X5_179 : fG RX5 179 3 0 := ⟨RX3, TX3, 5, rfl, by decide, rfl, Or.inr (by decide +kernel)⟩
theorem f_X5_180 : fG RX5 180 0 9 := ⟨RX0, TX0, 12, rfl, by decide, rfl, Or.inr (by decide +kernel)⟩
theorem k_X5_183 : .constantLong RX5 183 58077 ∈ Wall := inWall (by decide +kernel)
theorem k_X5_185 : .constantLong RX5 185 31 ∈ Wall := inWall (by decide +kernel)
theorem l_X5_187 : .methodLink RX5 187 yX0_addToDigest ∈ Wall := inWall (by decide +kernel)
theorem l_X5_191 : .methodLink RX5 191 yX2_addThingsToDigest ∈ Wall := inWall (by decide +kernel)
theorem l_X5_195 : .methodLink RX5 195 yX2_isClient ∈ Wall := inWall (by decide +kernel)
theorem l_X5_204 : .methodLink RX5 204 yX5_isFile ∈ Wall ∨ (RX5, 204, yX5_isFile) ∈ nestM := Or.inl (inWall (by decide +kernel))
theorem k_L_7 : .constant RL 7 2147483647 ∈ Wall := inWall (by decide +kernel)
theorem k_L_8 : .constant RL 8 790386105 ∈ Wall := inWall (by decide +kernel)
theorem n_L_9 : nC RL 9 5 2 := ⟨RX5, TX5, rfl, inWall (by decide +kernel), inWall (by decide +kernel), inWall (by decide +kernel)⟩
theorem l_L_11 : .methodLink RL 11 yX5_init ∈ Wall ∨ (RL, 11, yX5_init) ∈ nestM := Or.inl (inWall (by decide +kernel))
theorem l_L_12 : .methodLink RL 12 yL_cell ∈ Wall ∨ (RL, 12, yL_cell) ∈ nestM := Or.inl (inWall (by decide +kernel))
theorem l_L_18 : .methodLink RL 18 yL_below ∈ Wall ∨ (RL, 18, yL_below) ∈ nestM := Or.inl (inWall (by decide +kernel))
theorem l_L_22 : .methodLink RL 22 yX5_addClient ∈ Wall := inWall (by decide +kernel)
theorem l_L_25 : .methodLink RL 25 yX5_has ∈ Wall := inWall (by decide +kernel)
theorem l_L_29 : .methodLink RL 29 yX5_read ∈ Wall := inWall (by decide +kernel)
theorem l_L_32 : .methodLink RL 32 yX5_used ∈ Wall := inWall (by decide +kernel)
theorem l_L_35 : .methodLink RL 35 yX5_write ∈ Wall := inWall (by decide +kernel)
theorem l_L_39 : .methodLink RL 39 yX5_cut ∈ Wall := inWall (by decide +kernel)
theorem l_L_43 : .methodLink RL 43 yX5_told ∈ Wall := inWall (by decide +kernel)
theorem l_L_46 : .methodLink RL 46 yX5_flush ∈ Wall := inWall (by decide +kernel)
theorem l_L_50 : .methodLink RL 50 yX5_setTerm ∈ Wall := inWall (by decide +kernel)
theorem l_L_53 : .methodLink RL 53 yX5_setRoom ∈ Wall := inWall (by decide +kernel)
theorem l_L_56 : .methodLink RL 56 yL_isTicked ∈ Wall ∨ (RL, 56, yL_isTicked) ∈ nestM := Or.inl (inWall (by decide +kernel))
theorem l_L_60 : .methodLink RL 60 yL_areClientsRight ∈ Wall ∨ (RL, 60, yL_areClientsRight) ∈ nestM := Or.inl (inWall (by decide +kernel))
theorem l_L_64 : .methodLink RL 64 yX5_digest ∈ Wall := inWall (by decide +kernel)
theorem l_L_68 : .methodLink RL 68 yX5_calmIn ∈ Wall := inWall (by decide +kernel)
theorem l_L_71 : .methodLink RL 71 yX5_contentIn ∈ Wall := inWall (by decide +kernel)
theorem l_L_74 : .methodLink RL 74 yX5_conflictsIn ∈ Wall := inWall (by decide +kernel)
theorem l_L_77 : .methodLink RL 77 yL_isWayRight ∈ Wall ∨ (RL, 77, yL_isWayRight) ∈ nestM := Or.inl (inWall (by decide +kernel))
theorem l_L_81 : .methodLink RL 81 yX5_clock ∈ Wall := inWall (by decide +kernel)
theorem l_L_85 : .methodLink RL 85 yX5_server ∈ Wall := inWall (by decide +kernel)
theorem l_L_88 : .methodLink RL 88 yX5_tick ∈ Wall := inWall (by decide +kernel)
theorem l_L_91 : .methodLink RL 91 yX5_onTheWay ∈ Wall := inWall (by decide +kernel)
theorem l_L_94 : .methodLink RL 94 yX5_clients ∈ Wall := inWall (by decide +kernel)
theorem l_L_97 : .methodLink RL 97 yX5_luck ∈ Wall := inWall (by decide +kernel)
theorem l_L_101 : .methodLink RL 101 yL_areUsedRight ∈ Wall ∨ (RL, 101, yL_areUsedRight) ∈ nestM := Or.inl (inWall (by decide +kernel))
theorem l_L_105 : .methodLink RL 105 yX5_stale ∈ Wall := inWall (by decide +kernel)
theorem l_L_108 : .methodLink RL 108 yX5_way ∈ Wall := inWall (by decide +kernel)
theorem arrI_in : .arrayClass .int ∈ Wall := inWall (by decide +kernel)
theorem v_X0_init : mI mX0_init 0 := ⟨⟨inWall (by decide +kernel), inWall (by decide +kernel), by decide +kernel, by decide +kernel, by decide +kernel, by decide⟩, inWall (by decide +kernel), rfl, rfl⟩
theorem v_X1_init : mI mX1_init 0 := ⟨⟨inWall (by decide +kernel), inWall (by decide +kernel), by decide +kernel, by decide +kernel, by decide +kernel, by decide⟩, inWall (by decide +kernel), rfl, rfl⟩
theorem v_X2_init : mI mX2_init 0 := ⟨⟨inWall (by decide +kernel), inWall (by decide +kernel), by decide +kernel, by decide +kernel, by decide +kernel, by decide⟩, inWall (by decide +kernel), rfl, rfl⟩
theorem v_X3_init : mI mX3_init 0 := ⟨⟨inWall (by decide +kernel), inWall (by decide +kernel), by decide +kernel, by decide +kernel, by decide +kernel, by decide⟩, inWall (by decide +kernel), rfl, rfl⟩
theorem v_X4_init : mI mX4_init 1 := ⟨⟨inWall (by decide +kernel), inWall (by decide +kernel), by decide +kernel, by decide +kernel, by decide +kernel, by decide⟩, inWall (by decide +kernel), rfl, rfl⟩
theorem v_X5_init : mI mX5_init 0 := ⟨⟨inWall (by decide +kernel), inWall (by decide +kernel), by decide +kernel, by decide +kernel, by decide +kernel, by decide⟩, inWall (by decide +kernel), rfl, rfl⟩
theorem v_J9_floorMod_7cf53 : mS mJ9_floorMod_7cf53 2 := ⟨⟨inWall (by decide +kernel), inWall (by decide +kernel), by decide +kernel, by decide +kernel, by decide +kernel, by decide⟩, inWall (by decide +kernel)⟩
theorem v_J9_max_7cf53 : mS mJ9_max_7cf53 2 := ⟨⟨inWall (by decide +kernel), inWall (by decide +kernel), by decide +kernel, by decide +kernel, by decide +kernel, by decide⟩, inWall (by decide +kernel)⟩
theorem v_L_areClientsRight : mS mL_areClientsRight 3 := ⟨⟨inWall (by decide +kernel), inWall (by decide +kernel), by decide +kernel, by decide +kernel, by decide +kernel, by decide⟩, inWall (by decide +kernel)⟩
theorem v_L_areUsedRight : mS mL_areUsedRight 3 := ⟨⟨inWall (by decide +kernel), inWall (by decide +kernel), by decide +kernel, by decide +kernel, by decide +kernel, by decide⟩, inWall (by decide +kernel)⟩
theorem v_L_below : mS mL_below 2 := ⟨⟨inWall (by decide +kernel), inWall (by decide +kernel), by decide +kernel, by decide +kernel, by decide +kernel, by decide⟩, inWall (by decide +kernel)⟩
theorem v_L_cell : mS mL_cell 2 := ⟨⟨inWall (by decide +kernel), inWall (by decide +kernel), by decide +kernel, by decide +kernel, by decide +kernel, by decide⟩, inWall (by decide +kernel)⟩
theorem v_L_isTicked : mS mL_isTicked 2 := ⟨⟨inWall (by decide +kernel), inWall (by decide +kernel), by decide +kernel, by decide +kernel, by decide +kernel, by decide⟩, inWall (by decide +kernel)⟩
theorem v_L_isWayRight : mS mL_isWayRight 1 := ⟨⟨inWall (by decide +kernel), inWall (by decide +kernel), by decide +kernel, by decide +kernel, by decide +kernel, by decide⟩, inWall (by decide +kernel)⟩
theorem v_X5_checkFile : mS mX5_checkFile 1 := ⟨⟨inWall (by decide +kernel), inWall (by decide +kernel), by decide +kernel, by decide +kernel, by decide +kernel, by decide⟩, inWall (by decide +kernel)⟩
theorem v_X5_checkPlace : mS mX5_checkPlace 2 := ⟨⟨inWall (by decide +kernel), inWall (by decide +kernel), by decide +kernel, by decide +kernel, by decide +kernel, by decide⟩, inWall (by decide +kernel)⟩
theorem v_X5_checkTicks : mS mX5_checkTicks 2 := ⟨⟨inWall (by decide +kernel), inWall (by decide +kernel), by decide +kernel, by decide +kernel, by decide +kernel, by decide⟩, inWall (by decide +kernel)⟩
theorem v_X5_checkWhat : mS mX5_checkWhat 2 := ⟨⟨inWall (by decide +kernel), inWall (by decide +kernel), by decide +kernel, by decide +kernel, by decide +kernel, by decide⟩, inWall (by decide +kernel)⟩
theorem v_X5_isFile : mS mX5_isFile 1 := ⟨⟨inWall (by decide +kernel), inWall (by decide +kernel), by decide +kernel, by decide +kernel, by decide +kernel, by decide⟩, inWall (by decide +kernel)⟩
theorem v_X0_addToDigest : mV mX0_addToDigest 0 2 := ⟨⟨inWall (by decide +kernel), inWall (by decide +kernel), by decide +kernel, by decide +kernel, by decide +kernel, by decide⟩, rfl, inWall (by decide +kernel), inWall (by decide +kernel)⟩
theorem v_X0_copyFrom : mV mX0_copyFrom 0 1 := ⟨⟨inWall (by decide +kernel), inWall (by decide +kernel), by decide +kernel, by decide +kernel, by decide +kernel, by decide⟩, rfl, inWall (by decide +kernel), inWall (by decide +kernel)⟩
theorem v_X0_cutLine : mV mX0_cutLine 0 0 := ⟨⟨inWall (by decide +kernel), inWall (by decide +kernel), by decide +kernel, by decide +kernel, by decide +kernel, by decide⟩, rfl, inWall (by decide +kernel), inWall (by decide +kernel)⟩
theorem v_X0_endLeases : mV mX0_endLeases 0 0 := ⟨⟨inWall (by decide +kernel), inWall (by decide +kernel), by decide +kernel, by decide +kernel, by decide +kernel, by decide⟩, rfl, inWall (by decide +kernel), inWall (by decide +kernel)⟩
theorem v_X0_isClean : mV mX0_isClean 0 0 := ⟨⟨inWall (by decide +kernel), inWall (by decide +kernel), by decide +kernel, by decide +kernel, by decide +kernel, by decide⟩, rfl, inWall (by decide +kernel), inWall (by decide +kernel)⟩
theorem v_X0_keepAside : mV mX0_keepAside 0 2 := ⟨⟨inWall (by decide +kernel), inWall (by decide +kernel), by decide +kernel, by decide +kernel, by decide +kernel, by decide⟩, rfl, inWall (by decide +kernel), inWall (by decide +kernel)⟩
theorem v_X0_letGo : mV mX0_letGo 0 1 := ⟨⟨inWall (by decide +kernel), inWall (by decide +kernel), by decide +kernel, by decide +kernel, by decide +kernel, by decide⟩, rfl, inWall (by decide +kernel), inWall (by decide +kernel)⟩
theorem v_X0_longestDirty : mV mX0_longestDirty 0 0 := ⟨⟨inWall (by decide +kernel), inWall (by decide +kernel), by decide +kernel, by decide +kernel, by decide +kernel, by decide⟩, rfl, inWall (by decide +kernel), inWall (by decide +kernel)⟩
theorem v_X0_makesRoom : mV mX0_makesRoom 0 1 := ⟨⟨inWall (by decide +kernel), inWall (by decide +kernel), by decide +kernel, by decide +kernel, by decide +kernel, by decide⟩, rfl, inWall (by decide +kernel), inWall (by decide +kernel)⟩
theorem v_X0_placeOf : mV mX0_placeOf 0 1 := ⟨⟨inWall (by decide +kernel), inWall (by decide +kernel), by decide +kernel, by decide +kernel, by decide +kernel, by decide⟩, rfl, inWall (by decide +kernel), inWall (by decide +kernel)⟩
theorem v_X0_takeCall : mV mX0_takeCall 0 1 := ⟨⟨inWall (by decide +kernel), inWall (by decide +kernel), by decide +kernel, by decide +kernel, by decide +kernel, by decide⟩, rfl, inWall (by decide +kernel), inWall (by decide +kernel)⟩
theorem v_X0_takeClash : mV mX0_takeClash 0 3 := ⟨⟨inWall (by decide +kernel), inWall (by decide +kernel), by decide +kernel, by decide +kernel, by decide +kernel, by decide⟩, rfl, inWall (by decide +kernel), inWall (by decide +kernel)⟩
theorem v_X0_takeGiven : mV mX0_takeGiven 0 5 := ⟨⟨inWall (by decide +kernel), inWall (by decide +kernel), by decide +kernel, by decide +kernel, by decide +kernel, by decide⟩, rfl, inWall (by decide +kernel), inWall (by decide +kernel)⟩
theorem v_X0_tell : mV mX0_tell 0 1 := ⟨⟨inWall (by decide +kernel), inWall (by decide +kernel), by decide +kernel, by decide +kernel, by decide +kernel, by decide⟩, rfl, inWall (by decide +kernel), inWall (by decide +kernel)⟩
theorem v_X0_use : mV mX0_use 0 1 := ⟨⟨inWall (by decide +kernel), inWall (by decide +kernel), by decide +kernel, by decide +kernel, by decide +kernel, by decide⟩, rfl, inWall (by decide +kernel), inWall (by decide +kernel)⟩
theorem v_X1_beGiven : mV mX1_beGiven 1 3 := ⟨⟨inWall (by decide +kernel), inWall (by decide +kernel), by decide +kernel, by decide +kernel, by decide +kernel, by decide⟩, rfl, inWall (by decide +kernel), inWall (by decide +kernel)⟩
theorem v_X1_beStored : mV mX1_beStored 1 3 := ⟨⟨inWall (by decide +kernel), inWall (by decide +kernel), by decide +kernel, by decide +kernel, by decide +kernel, by decide⟩, rfl, inWall (by decide +kernel), inWall (by decide +kernel)⟩
theorem v_X1_copyFrom : mV mX1_copyFrom 1 1 := ⟨⟨inWall (by decide +kernel), inWall (by decide +kernel), by decide +kernel, by decide +kernel, by decide +kernel, by decide⟩, rfl, inWall (by decide +kernel), inWall (by decide +kernel)⟩
theorem v_X1_isTrusted : mV mX1_isTrusted 1 2 := ⟨⟨inWall (by decide +kernel), inWall (by decide +kernel), by decide +kernel, by decide +kernel, by decide +kernel, by decide⟩, rfl, inWall (by decide +kernel), inWall (by decide +kernel)⟩
theorem v_X1_putContent : mV mX1_putContent 1 2 := ⟨⟨inWall (by decide +kernel), inWall (by decide +kernel), by decide +kernel, by decide +kernel, by decide +kernel, by decide⟩, rfl, inWall (by decide +kernel), inWall (by decide +kernel)⟩
theorem v_X1_tell : mV mX1_tell 1 3 := ⟨⟨inWall (by decide +kernel), inWall (by decide +kernel), by decide +kernel, by decide +kernel, by decide +kernel, by decide⟩, rfl, inWall (by decide +kernel), inWall (by decide +kernel)⟩
theorem v_X2_addThingsToDigest : mV mX2_addThingsToDigest 2 1 := ⟨⟨inWall (by decide +kernel), inWall (by decide +kernel), by decide +kernel, by decide +kernel, by decide +kernel, by decide⟩, rfl, inWall (by decide +kernel), inWall (by decide +kernel)⟩
theorem v_X2_answer : mV mX2_answer 2 2 := ⟨⟨inWall (by decide +kernel), inWall (by decide +kernel), by decide +kernel, by decide +kernel, by decide +kernel, by decide⟩, rfl, inWall (by decide +kernel), inWall (by decide +kernel)⟩
theorem v_X2_bring : mV mX2_bring 2 2 := ⟨⟨inWall (by decide +kernel), inWall (by decide +kernel), by decide +kernel, by decide +kernel, by decide +kernel, by decide⟩, rfl, inWall (by decide +kernel), inWall (by decide +kernel)⟩
theorem v_X2_callOthers : mV mX2_callOthers 2 2 := ⟨⟨inWall (by decide +kernel), inWall (by decide +kernel), by decide +kernel, by decide +kernel, by decide +kernel, by decide⟩, rfl, inWall (by decide +kernel), inWall (by decide +kernel)⟩
theorem v_X2_copyFrom : mV mX2_copyFrom 2 1 := ⟨⟨inWall (by decide +kernel), inWall (by decide +kernel), by decide +kernel, by decide +kernel, by decide +kernel, by decide⟩, rfl, inWall (by decide +kernel), inWall (by decide +kernel)⟩
theorem v_X2_isCalm : mV mX2_isCalm 2 0 := ⟨⟨inWall (by decide +kernel), inWall (by decide +kernel), by decide +kernel, by decide +kernel, by decide +kernel, by decide⟩, rfl, inWall (by decide +kernel), inWall (by decide +kernel)⟩
theorem v_X2_isClient : mV mX2_isClient 2 1 := ⟨⟨inWall (by decide +kernel), inWall (by decide +kernel), by decide +kernel, by decide +kernel, by decide +kernel, by decide⟩, rfl, inWall (by decide +kernel), inWall (by decide +kernel)⟩
theorem v_X2_join : mV mX2_join 2 2 := ⟨⟨inWall (by decide +kernel), inWall (by decide +kernel), by decide +kernel, by decide +kernel, by decide +kernel, by decide⟩, rfl, inWall (by decide +kernel), inWall (by decide +kernel)⟩
theorem v_X2_lookAtFirst : mV mX2_lookAtFirst 2 1 := ⟨⟨inWall (by decide +kernel), inWall (by decide +kernel), by decide +kernel, by decide +kernel, by decide +kernel, by decide⟩, rfl, inWall (by decide +kernel), inWall (by decide +kernel)⟩
theorem v_X2_mendLine : mV mX2_mendLine 2 1 := ⟨⟨inWall (by decide +kernel), inWall (by decide +kernel), by decide +kernel, by decide +kernel, by decide +kernel, by decide⟩, rfl, inWall (by decide +kernel), inWall (by decide +kernel)⟩
theorem v_X2_passTick : mV mX2_passTick 2 0 := ⟨⟨inWall (by decide +kernel), inWall (by decide +kernel), by decide +kernel, by decide +kernel, by decide +kernel, by decide⟩, rfl, inWall (by decide +kernel), inWall (by decide +kernel)⟩
theorem v_X2_reach : mV mX2_reach 2 2 := ⟨⟨inWall (by decide +kernel), inWall (by decide +kernel), by decide +kernel, by decide +kernel, by decide +kernel, by decide⟩, rfl, inWall (by decide +kernel), inWall (by decide +kernel)⟩
theorem v_X2_send : mV mX2_send 2 6 := ⟨⟨inWall (by decide +kernel), inWall (by decide +kernel), by decide +kernel, by decide +kernel, by decide +kernel, by decide⟩, rfl, inWall (by decide +kernel), inWall (by decide +kernel)⟩
theorem v_X2_sendDirty : mV mX2_sendDirty 2 2 := ⟨⟨inWall (by decide +kernel), inWall (by decide +kernel), by decide +kernel, by decide +kernel, by decide +kernel, by decide⟩, rfl, inWall (by decide +kernel), inWall (by decide +kernel)⟩
theorem v_X2_sendStore : mV mX2_sendStore 2 2 := ⟨⟨inWall (by decide +kernel), inWall (by decide +kernel), by decide +kernel, by decide +kernel, by decide +kernel, by decide⟩, rfl, inWall (by decide +kernel), inWall (by decide +kernel)⟩
theorem v_X2_slotAt : mV mX2_slotAt 2 1 := ⟨⟨inWall (by decide +kernel), inWall (by decide +kernel), by decide +kernel, by decide +kernel, by decide +kernel, by decide⟩, rfl, inWall (by decide +kernel), inWall (by decide +kernel)⟩
theorem v_X2_staleCount : mV mX2_staleCount 2 0 := ⟨⟨inWall (by decide +kernel), inWall (by decide +kernel), by decide +kernel, by decide +kernel, by decide +kernel, by decide⟩, rfl, inWall (by decide +kernel), inWall (by decide +kernel)⟩
theorem v_X2_tellThing : mV mX2_tellThing 2 2 := ⟨⟨inWall (by decide +kernel), inWall (by decide +kernel), by decide +kernel, by decide +kernel, by decide +kernel, by decide⟩, rfl, inWall (by decide +kernel), inWall (by decide +kernel)⟩
theorem v_X2_thingCount : mV mX2_thingCount 2 0 := ⟨⟨inWall (by decide +kernel), inWall (by decide +kernel), by decide +kernel, by decide +kernel, by decide +kernel, by decide⟩, rfl, inWall (by decide +kernel), inWall (by decide +kernel)⟩
theorem v_X3_addRequest : mV mX3_addRequest 3 4 := ⟨⟨inWall (by decide +kernel), inWall (by decide +kernel), by decide +kernel, by decide +kernel, by decide +kernel, by decide⟩, rfl, inWall (by decide +kernel), inWall (by decide +kernel)⟩
theorem v_X3_copyFrom : mV mX3_copyFrom 3 1 := ⟨⟨inWall (by decide +kernel), inWall (by decide +kernel), by decide +kernel, by decide +kernel, by decide +kernel, by decide⟩, rfl, inWall (by decide +kernel), inWall (by decide +kernel)⟩
theorem v_X3_hasToWait : mV mX3_hasToWait 3 2 := ⟨⟨inWall (by decide +kernel), inWall (by decide +kernel), by decide +kernel, by decide +kernel, by decide +kernel, by decide⟩, rfl, inWall (by decide +kernel), inWall (by decide +kernel)⟩
theorem v_X3_isLeased : mV mX3_isLeased 3 2 := ⟨⟨inWall (by decide +kernel), inWall (by decide +kernel), by decide +kernel, by decide +kernel, by decide +kernel, by decide⟩, rfl, inWall (by decide +kernel), inWall (by decide +kernel)⟩
theorem v_X3_leasedSet : mV mX3_leasedSet 3 1 := ⟨⟨inWall (by decide +kernel), inWall (by decide +kernel), by decide +kernel, by decide +kernel, by decide +kernel, by decide⟩, rfl, inWall (by decide +kernel), inWall (by decide +kernel)⟩
theorem v_X3_tell : mV mX3_tell 3 2 := ⟨⟨inWall (by decide +kernel), inWall (by decide +kernel), by decide +kernel, by decide +kernel, by decide +kernel, by decide⟩, rfl, inWall (by decide +kernel), inWall (by decide +kernel)⟩
theorem v_X4_addRow : mV mX4_addRow 4 0 := ⟨⟨inWall (by decide +kernel), inWall (by decide +kernel), by decide +kernel, by decide +kernel, by decide +kernel, by decide⟩, rfl, inWall (by decide +kernel), inWall (by decide +kernel)⟩
theorem v_X4_copyFrom : mV mX4_copyFrom 4 1 := ⟨⟨inWall (by decide +kernel), inWall (by decide +kernel), by decide +kernel, by decide +kernel, by decide +kernel, by decide⟩, rfl, inWall (by decide +kernel), inWall (by decide +kernel)⟩
theorem v_X4_dropFirst : mV mX4_dropFirst 4 1 := ⟨⟨inWall (by decide +kernel), inWall (by decide +kernel), by decide +kernel, by decide +kernel, by decide +kernel, by decide⟩, rfl, inWall (by decide +kernel), inWall (by decide +kernel)⟩
theorem v_X4_get : mV mX4_get 4 2 := ⟨⟨inWall (by decide +kernel), inWall (by decide +kernel), by decide +kernel, by decide +kernel, by decide +kernel, by decide⟩, rfl, inWall (by decide +kernel), inWall (by decide +kernel)⟩
theorem v_X4_isCell : mV mX4_isCell 4 2 := ⟨⟨inWall (by decide +kernel), inWall (by decide +kernel), by decide +kernel, by decide +kernel, by decide +kernel, by decide⟩, rfl, inWall (by decide +kernel), inWall (by decide +kernel)⟩
theorem v_X4_put : mV mX4_put 4 3 := ⟨⟨inWall (by decide +kernel), inWall (by decide +kernel), by decide +kernel, by decide +kernel, by decide +kernel, by decide⟩, rfl, inWall (by decide +kernel), inWall (by decide +kernel)⟩
theorem v_X5_addClient : mV mX5_addClient 5 2 := ⟨⟨inWall (by decide +kernel), inWall (by decide +kernel), by decide +kernel, by decide +kernel, by decide +kernel, by decide⟩, rfl, inWall (by decide +kernel), inWall (by decide +kernel)⟩
theorem v_X5_calmIn : mV mX5_calmIn 5 1 := ⟨⟨inWall (by decide +kernel), inWall (by decide +kernel), by decide +kernel, by decide +kernel, by decide +kernel, by decide⟩, rfl, inWall (by decide +kernel), inWall (by decide +kernel)⟩
theorem v_X5_checkClient : mV mX5_checkClient 5 1 := ⟨⟨inWall (by decide +kernel), inWall (by decide +kernel), by decide +kernel, by decide +kernel, by decide +kernel, by decide⟩, rfl, inWall (by decide +kernel), inWall (by decide +kernel)⟩
theorem v_X5_clients : mV mX5_clients 5 0 := ⟨⟨inWall (by decide +kernel), inWall (by decide +kernel), by decide +kernel, by decide +kernel, by decide +kernel, by decide⟩, rfl, inWall (by decide +kernel), inWall (by decide +kernel)⟩
theorem v_X5_clock : mV mX5_clock 5 0 := ⟨⟨inWall (by decide +kernel), inWall (by decide +kernel), by decide +kernel, by decide +kernel, by decide +kernel, by decide⟩, rfl, inWall (by decide +kernel), inWall (by decide +kernel)⟩
theorem v_X5_conflictsIn : mV mX5_conflictsIn 5 2 := ⟨⟨inWall (by decide +kernel), inWall (by decide +kernel), by decide +kernel, by decide +kernel, by decide +kernel, by decide⟩, rfl, inWall (by decide +kernel), inWall (by decide +kernel)⟩
theorem v_X5_contentIn : mV mX5_contentIn 5 2 := ⟨⟨inWall (by decide +kernel), inWall (by decide +kernel), by decide +kernel, by decide +kernel, by decide +kernel, by decide⟩, rfl, inWall (by decide +kernel), inWall (by decide +kernel)⟩
theorem v_X5_cut : mV mX5_cut 5 2 := ⟨⟨inWall (by decide +kernel), inWall (by decide +kernel), by decide +kernel, by decide +kernel, by decide +kernel, by decide⟩, rfl, inWall (by decide +kernel), inWall (by decide +kernel)⟩
theorem v_X5_digest : mV mX5_digest 5 0 := ⟨⟨inWall (by decide +kernel), inWall (by decide +kernel), by decide +kernel, by decide +kernel, by decide +kernel, by decide⟩, rfl, inWall (by decide +kernel), inWall (by decide +kernel)⟩
theorem v_X5_flush : mV mX5_flush 5 1 := ⟨⟨inWall (by decide +kernel), inWall (by decide +kernel), by decide +kernel, by decide +kernel, by decide +kernel, by decide⟩, rfl, inWall (by decide +kernel), inWall (by decide +kernel)⟩
theorem v_X5_has : mV mX5_has 5 3 := ⟨⟨inWall (by decide +kernel), inWall (by decide +kernel), by decide +kernel, by decide +kernel, by decide +kernel, by decide⟩, rfl, inWall (by decide +kernel), inWall (by decide +kernel)⟩
theorem v_X5_luck : mV mX5_luck 5 1 := ⟨⟨inWall (by decide +kernel), inWall (by decide +kernel), by decide +kernel, by decide +kernel, by decide +kernel, by decide⟩, rfl, inWall (by decide +kernel), inWall (by decide +kernel)⟩
theorem v_X5_onTheWay : mV mX5_onTheWay 5 0 := ⟨⟨inWall (by decide +kernel), inWall (by decide +kernel), by decide +kernel, by decide +kernel, by decide +kernel, by decide⟩, rfl, inWall (by decide +kernel), inWall (by decide +kernel)⟩
theorem v_X5_read : mV mX5_read 5 2 := ⟨⟨inWall (by decide +kernel), inWall (by decide +kernel), by decide +kernel, by decide +kernel, by decide +kernel, by decide⟩, rfl, inWall (by decide +kernel), inWall (by decide +kernel)⟩
theorem v_X5_server : mV mX5_server 5 2 := ⟨⟨inWall (by decide +kernel), inWall (by decide +kernel), by decide +kernel, by decide +kernel, by decide +kernel, by decide⟩, rfl, inWall (by decide +kernel), inWall (by decide +kernel)⟩
theorem v_X5_setRoom : mV mX5_setRoom 5 1 := ⟨⟨inWall (by decide +kernel), inWall (by decide +kernel), by decide +kernel, by decide +kernel, by decide +kernel, by decide⟩, rfl, inWall (by decide +kernel), inWall (by decide +kernel)⟩
theorem v_X5_setTerm : mV mX5_setTerm 5 2 := ⟨⟨inWall (by decide +kernel), inWall (by decide +kernel), by decide +kernel, by decide +kernel, by decide +kernel, by decide⟩, rfl, inWall (by decide +kernel), inWall (by decide +kernel)⟩
theorem v_X5_stale : mV mX5_stale 5 0 := ⟨⟨inWall (by decide +kernel), inWall (by decide +kernel), by decide +kernel, by decide +kernel, by decide +kernel, by decide⟩, rfl, inWall (by decide +kernel), inWall (by decide +kernel)⟩
theorem v_X5_tick : mV mX5_tick 5 1 := ⟨⟨inWall (by decide +kernel), inWall (by decide +kernel), by decide +kernel, by decide +kernel, by decide +kernel, by decide⟩, rfl, inWall (by decide +kernel), inWall (by decide +kernel)⟩
theorem v_X5_told : mV mX5_told 5 2 := ⟨⟨inWall (by decide +kernel), inWall (by decide +kernel), by decide +kernel, by decide +kernel, by decide +kernel, by decide⟩, rfl, inWall (by decide +kernel), inWall (by decide +kernel)⟩
theorem v_X5_used : mV mX5_used 5 2 := ⟨⟨inWall (by decide +kernel), inWall (by decide +kernel), by decide +kernel, by decide +kernel, by decide +kernel, by decide⟩, rfl, inWall (by decide +kernel), inWall (by decide +kernel)⟩
theorem v_X5_way : mV mX5_way 5 2 := ⟨⟨inWall (by decide +kernel), inWall (by decide +kernel), by decide +kernel, by decide +kernel, by decide +kernel, by decide⟩, rfl, inWall (by decide +kernel), inWall (by decide +kernel)⟩
theorem v_X5_write : mV mX5_write 5 3 := ⟨⟨inWall (by decide +kernel), inWall (by decide +kernel), by decide +kernel, by decide +kernel, by decide +kernel, by decide⟩, rfl, inWall (by decide +kernel), inWall (by decide +kernel)⟩
