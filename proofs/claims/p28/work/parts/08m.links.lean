theorem fm_X2_53 : fmL RX2 53 := ⟨inWall (by decide +kernel), inWall (by decide +kernel), inWall (by decide +kernel), inWall (by decide +kernel)⟩
theorem mx_X4_9 : mxL RX4 9 := ⟨inWall (by decide +kernel), inWall (by decide +kernel), inWall (by decide +kernel), inWall (by decide +kernel)⟩
