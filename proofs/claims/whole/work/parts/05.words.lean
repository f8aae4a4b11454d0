theorem T0_p {w : Cond} (h : w ∈ k2_sels lw_privs) (hg : goodWord w = true) : w ∈ T0 := List.mem_filter.mpr ⟨List.mem_append_left _ h, hg⟩
theorem T0_1 (i : Nat) {w : Cond} (h : tables_1_1[i]? = some w) (hg : goodWord w = true) : w ∈ T0 := List.mem_filter.mpr ⟨List.mem_append_right _ (List.mem_append_left _ (List.mem_of_getElem? h)), hg⟩
theorem T0_2 (i : Nat) {w : Cond} (h : tables_1_2[i]? = some w) (hg : goodWord w = true) : w ∈ T0 := List.mem_filter.mpr ⟨List.mem_append_right _ (List.mem_append_right _ (List.mem_append_left _ (List.mem_of_getElem? h))), hg⟩
theorem T0_3 (i : Nat) {w : Cond} (h : tables_1_3[i]? = some w) (hg : goodWord w = true) : w ∈ T0 := List.mem_filter.mpr ⟨List.mem_append_right _ (List.mem_append_right _ (List.mem_append_right _ (List.mem_append_left _ (List.mem_of_getElem? h)))), hg⟩
theorem T0_4 (i : Nat) {w : Cond} (h : tables_1_4[i]? = some w) (hg : goodWord w = true) : w ∈ T0 := List.mem_filter.mpr ⟨List.mem_append_right _ (List.mem_append_right _ (List.mem_append_right _ (List.mem_append_right _ (List.mem_append_left _ (List.mem_of_getElem? h))))), hg⟩
theorem T0_5 (i : Nat) {w : Cond} (h : tables_1_5[i]? = some w) (hg : goodWord w = true) : w ∈ T0 := List.mem_filter.mpr ⟨List.mem_append_right _ (List.mem_append_right _ (List.mem_append_right _ (List.mem_append_right _ (List.mem_append_right _ (List.mem_append_left _ (List.mem_of_getElem? h)))))), hg⟩
theorem T0_6 (i : Nat) {w : Cond} (h : tables_1_6[i]? = some w) (hg : goodWord w = true) : w ∈ T0 := List.mem_filter.mpr ⟨List.mem_append_right _ (List.mem_append_right _ (List.mem_append_right _ (List.mem_append_right _ (List.mem_append_right _ (List.mem_append_right _ (List.mem_of_getElem? h)))))), hg⟩
theorem inT0 : ∀ w ∈ u_ws RX0 TX0 4, w ∈ T0 := by decide +kernel
theorem ini_RX5 : Cond.initialized RX5 ∈ T0 := T0_1 6 (by decide +kernel) rfl
theorem ini_RJ13 : Cond.initialized RJ13 ∈ T0 := T0_1 15 (by decide +kernel) rfl
theorem ini_RJ9 : Cond.initialized RJ9 ∈ T0 := T0_1 14 (by decide +kernel) rfl
theorem ini_RJ2 : Cond.initialized RJ2 ∈ T0 := T0_1 13 (by decide +kernel) rfl
theorem ini_RJ3 : Cond.initialized RJ3 ∈ T0 := T0_1 12 (by decide +kernel) rfl
theorem ini_RJ1 : Cond.initialized RJ1 ∈ T0 := T0_1 11 (by decide +kernel) rfl
theorem ini_RJ0 : Cond.initialized RJ0 ∈ T0 := T0_1 10 (by decide +kernel) rfl
theorem ini_RJ6 : Cond.initialized RJ6 ∈ T0 := T0_1 9 (by decide +kernel) rfl
theorem ini_RJ7 : Cond.initialized RJ7 ∈ T0 := T0_1 7 (by decide +kernel) rfl
theorem ini_RX2 : Cond.initialized RX2 ∈ T0 := T0_1 5 (by decide +kernel) rfl
theorem ini_RX0 : Cond.initialized RX0 ∈ T0 := T0_1 4 (by decide +kernel) rfl
theorem ini_RX3 : Cond.initialized RX3 ∈ T0 := T0_1 3 (by decide +kernel) rfl
theorem ini_RX1 : Cond.initialized RX1 ∈ T0 := T0_1 2 (by decide +kernel) rfl
theorem ini_RX4 : Cond.initialized RX4 ∈ T0 := T0_1 1 (by decide +kernel) rfl
theorem inT1 : ∀ w ∈ u_ws RX1 TX1 12, w ∈ T0 := by decide +kernel
theorem inT2 : ∀ w ∈ u_ws RX2 TX2 5, w ∈ T0 := by decide +kernel
theorem inT3 : ∀ w ∈ u_ws RX3 TX3 5, w ∈ T0 := by decide +kernel
theorem inT4 : ∀ w ∈ u_ws RX4 TX4 9, w ∈ T0 := by decide +kernel
theorem inT5 : ∀ w ∈ u_ws RX5 TX5 27, w ∈ T0 := by decide +kernel
theorem ml_RX1_9 : Cond.fieldLink RX1 9 (TX1 0).1 (TX1 0).2.1 (TX1 0).2.2.1 ∈ T0 := T0_1 30 (by decide +kernel) rfl
theorem fk_RX1_9 : FOk RX1 9 1 0 := ⟨_, _, _, rfl, Nat.le_of_ble_eq_true rfl, ml_RX1_9, inT1⟩
theorem pk_RX1_9 : POk RX1 9 1 0 .int := ⟨_, _, _, tyX1, rfl, Nat.le_of_ble_eq_true rfl, ml_RX1_9, inT1, tyX1_ok, nmX1, rfl, by decide +kernel⟩
theorem ml_RX3_92 : Cond.fieldLink RX3 92 (TX1 0).1 (TX1 0).2.1 (TX1 0).2.2.1 ∈ T0 := T0_1 31 (by decide +kernel) rfl
theorem fk_RX3_92 : FOk RX3 92 1 0 := ⟨_, _, _, rfl, Nat.le_of_ble_eq_true rfl, ml_RX3_92, inT1⟩
theorem pk_RX3_92 : POk RX3 92 1 0 .int := ⟨_, _, _, tyX1, rfl, Nat.le_of_ble_eq_true rfl, ml_RX3_92, inT1, tyX1_ok, nmX1, rfl, by decide +kernel⟩
theorem ml_RX4_132 : Cond.fieldLink RX4 132 (TX1 0).1 (TX1 0).2.1 (TX1 0).2.2.1 ∈ T0 := T0_1 32 (by decide +kernel) rfl
theorem fk_RX4_132 : FOk RX4 132 1 0 := ⟨_, _, _, rfl, Nat.le_of_ble_eq_true rfl, ml_RX4_132, inT1⟩
theorem pk_RX4_132 : POk RX4 132 1 0 .int := ⟨_, _, _, tyX1, rfl, Nat.le_of_ble_eq_true rfl, ml_RX4_132, inT1, tyX1_ok, nmX1, rfl, by decide +kernel⟩
theorem ml_RX1_41 : Cond.fieldLink RX1 41 (TX1 1).1 (TX1 1).2.1 (TX1 1).2.2.1 ∈ T0 := T0_1 33 (by decide +kernel) rfl
theorem fk_RX1_41 : FOk RX1 41 1 1 := ⟨_, _, _, rfl, Nat.le_of_ble_eq_true rfl, ml_RX1_41, inT1⟩
theorem pk_RX1_41 : POk RX1 41 1 1 .int := ⟨_, _, _, tyX1, rfl, Nat.le_of_ble_eq_true rfl, ml_RX1_41, inT1, tyX1_ok, nmX1, rfl, by decide +kernel⟩
theorem ml_RX4_146 : Cond.fieldLink RX4 146 (TX1 1).1 (TX1 1).2.1 (TX1 1).2.2.1 ∈ T0 := T0_1 34 (by decide +kernel) rfl
theorem fk_RX4_146 : FOk RX4 146 1 1 := ⟨_, _, _, rfl, Nat.le_of_ble_eq_true rfl, ml_RX4_146, inT1⟩
theorem pk_RX4_146 : POk RX4 146 1 1 .int := ⟨_, _, _, tyX1, rfl, Nat.le_of_ble_eq_true rfl, ml_RX4_146, inT1, tyX1_ok, nmX1, rfl, by decide +kernel⟩
theorem ml_RX1_15 : Cond.fieldLink RX1 15 (TX1 2).1 (TX1 2).2.1 (TX1 2).2.2.1 ∈ T0 := T0_1 35 (by decide +kernel) rfl
theorem fk_RX1_15 : FOk RX1 15 1 2 := ⟨_, _, _, rfl, Nat.le_of_ble_eq_true rfl, ml_RX1_15, inT1⟩
theorem ml_RX4_113 : Cond.fieldLink RX4 113 (TX1 2).1 (TX1 2).2.1 (TX1 2).2.2.1 ∈ T0 := T0_1 36 (by decide +kernel) rfl
theorem fk_RX4_113 : FOk RX4 113 1 2 := ⟨_, _, _, rfl, Nat.le_of_ble_eq_true rfl, ml_RX4_113, inT1⟩
theorem ml_RX1_19 : Cond.fieldLink RX1 19 (TX1 3).1 (TX1 3).2.1 (TX1 3).2.2.1 ∈ T0 := T0_1 37 (by decide +kernel) rfl
theorem fk_RX1_19 : FOk RX1 19 1 3 := ⟨_, _, _, rfl, Nat.le_of_ble_eq_true rfl, ml_RX1_19, inT1⟩
theorem ml_RX4_119 : Cond.fieldLink RX4 119 (TX1 3).1 (TX1 3).2.1 (TX1 3).2.2.1 ∈ T0 := T0_1 38 (by decide +kernel) rfl
theorem fk_RX4_119 : FOk RX4 119 1 3 := ⟨_, _, _, rfl, Nat.le_of_ble_eq_true rfl, ml_RX4_119, inT1⟩
theorem ml_RX1_22 : Cond.fieldLink RX1 22 (TX1 4).1 (TX1 4).2.1 (TX1 4).2.2.1 ∈ T0 := T0_1 39 (by decide +kernel) rfl
theorem fk_RX1_22 : FOk RX1 22 1 4 := ⟨_, _, _, rfl, Nat.le_of_ble_eq_true rfl, ml_RX1_22, inT1⟩
theorem ml_RX4_122 : Cond.fieldLink RX4 122 (TX1 4).1 (TX1 4).2.1 (TX1 4).2.2.1 ∈ T0 := T0_1 40 (by decide +kernel) rfl
theorem fk_RX4_122 : FOk RX4 122 1 4 := ⟨_, _, _, rfl, Nat.le_of_ble_eq_true rfl, ml_RX4_122, inT1⟩
theorem ml_RX1_44 : Cond.fieldLink RX1 44 (TX1 5).1 (TX1 5).2.1 (TX1 5).2.2.1 ∈ T0 := T0_1 41 (by decide +kernel) rfl
theorem fk_RX1_44 : FOk RX1 44 1 5 := ⟨_, _, _, rfl, Nat.le_of_ble_eq_true rfl, ml_RX1_44, inT1⟩
theorem pk_RX1_44 : POk RX1 44 1 5 .int := ⟨_, _, _, tyX1, rfl, Nat.le_of_ble_eq_true rfl, ml_RX1_44, inT1, tyX1_ok, nmX1, rfl, by decide +kernel⟩
theorem ml_RX0_51 : Cond.fieldLink RX0 51 (TX1 5).1 (TX1 5).2.1 (TX1 5).2.2.1 ∈ T0 := T0_1 42 (by decide +kernel) rfl
theorem fk_RX0_51 : FOk RX0 51 1 5 := ⟨_, _, _, rfl, Nat.le_of_ble_eq_true rfl, ml_RX0_51, inT1⟩
theorem pk_RX0_51 : POk RX0 51 1 5 .int := ⟨_, _, _, tyX1, rfl, Nat.le_of_ble_eq_true rfl, ml_RX0_51, inT1, tyX1_ok, nmX1, rfl, by decide +kernel⟩
theorem ml_RX4_149 : Cond.fieldLink RX4 149 (TX1 5).1 (TX1 5).2.1 (TX1 5).2.2.1 ∈ T0 := T0_1 43 (by decide +kernel) rfl
theorem fk_RX4_149 : FOk RX4 149 1 5 := ⟨_, _, _, rfl, Nat.le_of_ble_eq_true rfl, ml_RX4_149, inT1⟩
theorem pk_RX4_149 : POk RX4 149 1 5 .int := ⟨_, _, _, tyX1, rfl, Nat.le_of_ble_eq_true rfl, ml_RX4_149, inT1, tyX1_ok, nmX1, rfl, by decide +kernel⟩
theorem ml_RX1_47 : Cond.fieldLink RX1 47 (TX1 6).1 (TX1 6).2.1 (TX1 6).2.2.1 ∈ T0 := T0_1 44 (by decide +kernel) rfl
theorem fk_RX1_47 : FOk RX1 47 1 6 := ⟨_, _, _, rfl, Nat.le_of_ble_eq_true rfl, ml_RX1_47, inT1⟩
theorem pk_RX1_47 : POk RX1 47 1 6 .int := ⟨_, _, _, tyX1, rfl, Nat.le_of_ble_eq_true rfl, ml_RX1_47, inT1, tyX1_ok, nmX1, rfl, by decide +kernel⟩
theorem ml_RX4_256 : Cond.fieldLink RX4 256 (TX1 6).1 (TX1 6).2.1 (TX1 6).2.2.1 ∈ T0 := T0_1 45 (by decide +kernel) rfl
theorem fk_RX4_256 : FOk RX4 256 1 6 := ⟨_, _, _, rfl, Nat.le_of_ble_eq_true rfl, ml_RX4_256, inT1⟩
theorem pk_RX4_256 : POk RX4 256 1 6 .int := ⟨_, _, _, tyX1, rfl, Nat.le_of_ble_eq_true rfl, ml_RX4_256, inT1, tyX1_ok, nmX1, rfl, by decide +kernel⟩
theorem ml_RX1_50 : Cond.fieldLink RX1 50 (TX1 7).1 (TX1 7).2.1 (TX1 7).2.2.1 ∈ T0 := T0_1 46 (by decide +kernel) rfl
theorem fk_RX1_50 : FOk RX1 50 1 7 := ⟨_, _, _, rfl, Nat.le_of_ble_eq_true rfl, ml_RX1_50, inT1⟩
theorem pk_RX1_50 : POk RX1 50 1 7 .int := ⟨_, _, _, tyX1, rfl, Nat.le_of_ble_eq_true rfl, ml_RX1_50, inT1, tyX1_ok, nmX1, rfl, by decide +kernel⟩
theorem ml_RX4_275 : Cond.fieldLink RX4 275 (TX1 7).1 (TX1 7).2.1 (TX1 7).2.2.1 ∈ T0 := T0_1 47 (by decide +kernel) rfl
theorem fk_RX4_275 : FOk RX4 275 1 7 := ⟨_, _, _, rfl, Nat.le_of_ble_eq_true rfl, ml_RX4_275, inT1⟩
theorem pk_RX4_275 : POk RX4 275 1 7 .int := ⟨_, _, _, tyX1, rfl, Nat.le_of_ble_eq_true rfl, ml_RX4_275, inT1, tyX1_ok, nmX1, rfl, by decide +kernel⟩
theorem ml_RX1_56 : Cond.fieldLink RX1 56 (TX1 8).1 (TX1 8).2.1 (TX1 8).2.2.1 ∈ T0 := T0_1 48 (by decide +kernel) rfl
theorem fk_RX1_56 : FOk RX1 56 1 8 := ⟨_, _, _, rfl, Nat.le_of_ble_eq_true rfl, ml_RX1_56, inT1⟩
theorem pk_RX1_56 : POk RX1 56 1 8 .int := ⟨_, _, _, tyX1, rfl, Nat.le_of_ble_eq_true rfl, ml_RX1_56, inT1, tyX1_ok, nmX1, rfl, by decide +kernel⟩
theorem ml_RX4_191 : Cond.fieldLink RX4 191 (TX1 8).1 (TX1 8).2.1 (TX1 8).2.2.1 ∈ T0 := T0_1 49 (by decide +kernel) rfl
theorem fk_RX4_191 : FOk RX4 191 1 8 := ⟨_, _, _, rfl, Nat.le_of_ble_eq_true rfl, ml_RX4_191, inT1⟩
theorem pk_RX4_191 : POk RX4 191 1 8 .int := ⟨_, _, _, tyX1, rfl, Nat.le_of_ble_eq_true rfl, ml_RX4_191, inT1, tyX1_ok, nmX1, rfl, by decide +kernel⟩
theorem ml_RX1_53 : Cond.fieldLink RX1 53 (TX1 9).1 (TX1 9).2.1 (TX1 9).2.2.1 ∈ T0 := T0_1 50 (by decide +kernel) rfl
theorem fk_RX1_53 : FOk RX1 53 1 9 := ⟨_, _, _, rfl, Nat.le_of_ble_eq_true rfl, ml_RX1_53, inT1⟩
theorem pk_RX1_53 : POk RX1 53 1 9 .int := ⟨_, _, _, tyX1, rfl, Nat.le_of_ble_eq_true rfl, ml_RX1_53, inT1, tyX1_ok, nmX1, rfl, by decide +kernel⟩
theorem ml_RX4_272 : Cond.fieldLink RX4 272 (TX1 9).1 (TX1 9).2.1 (TX1 9).2.2.1 ∈ T0 := T0_1 51 (by decide +kernel) rfl
theorem fk_RX4_272 : FOk RX4 272 1 9 := ⟨_, _, _, rfl, Nat.le_of_ble_eq_true rfl, ml_RX4_272, inT1⟩
theorem pk_RX4_272 : POk RX4 272 1 9 .int := ⟨_, _, _, tyX1, rfl, Nat.le_of_ble_eq_true rfl, ml_RX4_272, inT1, tyX1_ok, nmX1, rfl, by decide +kernel⟩
theorem ml_RX1_25 : Cond.fieldLink RX1 25 (TX1 10).1 (TX1 10).2.1 (TX1 10).2.2.1 ∈ T0 := T0_1 52 (by decide +kernel) rfl
theorem fk_RX1_25 : FOk RX1 25 1 10 := ⟨_, _, _, rfl, Nat.le_of_ble_eq_true rfl, ml_RX1_25, inT1⟩
theorem pk_RX1_25 : POk RX1 25 1 10 .int := ⟨_, _, _, tyX1, rfl, Nat.le_of_ble_eq_true rfl, ml_RX1_25, inT1, tyX1_ok, nmX1, rfl, by decide +kernel⟩
theorem ml_RX0_40 : Cond.fieldLink RX0 40 (TX1 10).1 (TX1 10).2.1 (TX1 10).2.2.1 ∈ T0 := T0_1 53 (by decide +kernel) rfl
theorem fk_RX0_40 : FOk RX0 40 1 10 := ⟨_, _, _, rfl, Nat.le_of_ble_eq_true rfl, ml_RX0_40, inT1⟩
theorem pk_RX0_40 : POk RX0 40 1 10 .int := ⟨_, _, _, tyX1, rfl, Nat.le_of_ble_eq_true rfl, ml_RX0_40, inT1, tyX1_ok, nmX1, rfl, by decide +kernel⟩
theorem ml_RX1_28 : Cond.fieldLink RX1 28 (TX1 11).1 (TX1 11).2.1 (TX1 11).2.2.1 ∈ T0 := T0_1 54 (by decide +kernel) rfl
theorem fk_RX1_28 : FOk RX1 28 1 11 := ⟨_, _, _, rfl, Nat.le_of_ble_eq_true rfl, ml_RX1_28, inT1⟩
theorem pk_RX1_28 : POk RX1 28 1 11 .int := ⟨_, _, _, tyX1, rfl, Nat.le_of_ble_eq_true rfl, ml_RX1_28, inT1, tyX1_ok, nmX1, rfl, by decide +kernel⟩
theorem ml_RX4_302 : Cond.fieldLink RX4 302 (TX1 11).1 (TX1 11).2.1 (TX1 11).2.2.1 ∈ T0 := T0_1 55 (by decide +kernel) rfl
theorem fk_RX4_302 : FOk RX4 302 1 11 := ⟨_, _, _, rfl, Nat.le_of_ble_eq_true rfl, ml_RX4_302, inT1⟩
theorem pk_RX4_302 : POk RX4 302 1 11 .int := ⟨_, _, _, tyX1, rfl, Nat.le_of_ble_eq_true rfl, ml_RX4_302, inT1, tyX1_ok, nmX1, rfl, by decide +kernel⟩
theorem ml_RX3_9 : Cond.fieldLink RX3 9 (TX3 0).1 (TX3 0).2.1 (TX3 0).2.2.1 ∈ T0 := T0_1 90 (by decide +kernel) rfl
theorem fk_RX3_9 : FOk RX3 9 3 0 := ⟨_, _, _, rfl, Nat.le_of_ble_eq_true rfl, ml_RX3_9, inT3⟩
theorem ml_RX3_15 : Cond.fieldLink RX3 15 (TX3 1).1 (TX3 1).2.1 (TX3 1).2.2.1 ∈ T0 := T0_1 91 (by decide +kernel) rfl
theorem fk_RX3_15 : FOk RX3 15 3 1 := ⟨_, _, _, rfl, Nat.le_of_ble_eq_true rfl, ml_RX3_15, inT3⟩
theorem pk_RX3_15 : POk RX3 15 3 1 .int := ⟨_, _, _, tyX3, rfl, Nat.le_of_ble_eq_true rfl, ml_RX3_15, inT3, tyX3_ok, nmX3, rfl, by decide +kernel⟩
theorem ml_RX4_165 : Cond.fieldLink RX4 165 (TX3 1).1 (TX3 1).2.1 (TX3 1).2.2.1 ∈ T0 := T0_1 92 (by decide +kernel) rfl
theorem fk_RX4_165 : FOk RX4 165 3 1 := ⟨_, _, _, rfl, Nat.le_of_ble_eq_true rfl, ml_RX4_165, inT3⟩
theorem pk_RX4_165 : POk RX4 165 3 1 .int := ⟨_, _, _, tyX3, rfl, Nat.le_of_ble_eq_true rfl, ml_RX4_165, inT3, tyX3_ok, nmX3, rfl, by decide +kernel⟩
theorem ml_RX3_105 : Cond.fieldLink RX3 105 (TX3 2).1 (TX3 2).2.1 (TX3 2).2.2.1 ∈ T0 := T0_1 93 (by decide +kernel) rfl
theorem fk_RX3_105 : FOk RX3 105 3 2 := ⟨_, _, _, rfl, Nat.le_of_ble_eq_true rfl, ml_RX3_105, inT3⟩
theorem pk_RX3_105 : POk RX3 105 3 2 .int := ⟨_, _, _, tyX3, rfl, Nat.le_of_ble_eq_true rfl, ml_RX3_105, inT3, tyX3_ok, nmX3, rfl, by decide +kernel⟩
theorem ml_RX4_178 : Cond.fieldLink RX4 178 (TX3 2).1 (TX3 2).2.1 (TX3 2).2.2.1 ∈ T0 := T0_1 94 (by decide +kernel) rfl
theorem fk_RX4_178 : FOk RX4 178 3 2 := ⟨_, _, _, rfl, Nat.le_of_ble_eq_true rfl, ml_RX4_178, inT3⟩
theorem pk_RX4_178 : POk RX4 178 3 2 .int := ⟨_, _, _, tyX3, rfl, Nat.le_of_ble_eq_true rfl, ml_RX4_178, inT3, tyX3_ok, nmX3, rfl, by decide +kernel⟩
theorem ml_RX3_19 : Cond.fieldLink RX3 19 (TX3 3).1 (TX3 3).2.1 (TX3 3).2.2.1 ∈ T0 := T0_1 95 (by decide +kernel) rfl
theorem fk_RX3_19 : FOk RX3 19 3 3 := ⟨_, _, _, rfl, Nat.le_of_ble_eq_true rfl, ml_RX3_19, inT3⟩
theorem pk_RX3_19 : POk RX3 19 3 3 .int := ⟨_, _, _, tyX3, rfl, Nat.le_of_ble_eq_true rfl, ml_RX3_19, inT3, tyX3_ok, nmX3, rfl, by decide +kernel⟩
theorem ml_RX3_25 : Cond.fieldLink RX3 25 (TX3 4).1 (TX3 4).2.1 (TX3 4).2.2.1 ∈ T0 := T0_1 96 (by decide +kernel) rfl
theorem fk_RX3_25 : FOk RX3 25 3 4 := ⟨_, _, _, rfl, Nat.le_of_ble_eq_true rfl, ml_RX3_25, inT3⟩
theorem pk_RX3_25 : POk RX3 25 3 4 .int := ⟨_, _, _, tyX3, rfl, Nat.le_of_ble_eq_true rfl, ml_RX3_25, inT3, tyX3_ok, nmX3, rfl, by decide +kernel⟩
theorem ml_RX0_11 : Cond.fieldLink RX0 11 (TX0 0).1 (TX0 0).2.1 (TX0 0).2.2.1 ∈ T0 := T0_1 117 (by decide +kernel) rfl
theorem fk_RX0_11 : FOk RX0 11 0 0 := ⟨_, _, _, rfl, Nat.le_of_ble_eq_true rfl, ml_RX0_11, inT0⟩
theorem ml_RX0_18 : Cond.fieldLink RX0 18 (TX0 1).1 (TX0 1).2.1 (TX0 1).2.2.1 ∈ T0 := T0_1 118 (by decide +kernel) rfl
theorem fk_RX0_18 : FOk RX0 18 0 1 := ⟨_, _, _, rfl, Nat.le_of_ble_eq_true rfl, ml_RX0_18, inT0⟩
theorem pk_RX0_18 : POk RX0 18 0 1 .long := ⟨_, _, _, tyX0, rfl, Nat.le_of_ble_eq_true rfl, ml_RX0_18, inT0, tyX0_ok, nmX0, rfl, by decide +kernel⟩
theorem ml_RX0_22 : Cond.fieldLink RX0 22 (TX0 2).1 (TX0 2).2.1 (TX0 2).2.2.1 ∈ T0 := T0_1 119 (by decide +kernel) rfl
theorem fk_RX0_22 : FOk RX0 22 0 2 := ⟨_, _, _, rfl, Nat.le_of_ble_eq_true rfl, ml_RX0_22, inT0⟩
theorem pk_RX0_22 : POk RX0 22 0 2 .long := ⟨_, _, _, tyX0, rfl, Nat.le_of_ble_eq_true rfl, ml_RX0_22, inT0, tyX0_ok, nmX0, rfl, by decide +kernel⟩
theorem ml_RX0_25 : Cond.fieldLink RX0 25 (TX0 3).1 (TX0 3).2.1 (TX0 3).2.2.1 ∈ T0 := T0_1 120 (by decide +kernel) rfl
theorem fk_RX0_25 : FOk RX0 25 0 3 := ⟨_, _, _, rfl, Nat.le_of_ble_eq_true rfl, ml_RX0_25, inT0⟩
theorem pk_RX0_25 : POk RX0 25 0 3 .long := ⟨_, _, _, tyX0, rfl, Nat.le_of_ble_eq_true rfl, ml_RX0_25, inT0, tyX0_ok, nmX0, rfl, by decide +kernel⟩
theorem ml_RX2_11 : Cond.fieldLink RX2 11 (TX2 0).1 (TX2 0).2.1 (TX2 0).2.2.1 ∈ T0 := T0_1 135 (by decide +kernel) rfl
theorem fk_RX2_11 : FOk RX2 11 2 0 := ⟨_, _, _, rfl, Nat.le_of_ble_eq_true rfl, ml_RX2_11, inT2⟩
theorem pk_RX2_11 : POk RX2 11 2 0 .int := ⟨_, _, _, tyX2, rfl, Nat.le_of_ble_eq_true rfl, ml_RX2_11, inT2, tyX2_ok, nmX2, rfl, by decide +kernel⟩
theorem ml_RX4_84 : Cond.fieldLink RX4 84 (TX2 0).1 (TX2 0).2.1 (TX2 0).2.2.1 ∈ T0 := T0_1 136 (by decide +kernel) rfl
theorem fk_RX4_84 : FOk RX4 84 2 0 := ⟨_, _, _, rfl, Nat.le_of_ble_eq_true rfl, ml_RX4_84, inT2⟩
theorem pk_RX4_84 : POk RX4 84 2 0 .int := ⟨_, _, _, tyX2, rfl, Nat.le_of_ble_eq_true rfl, ml_RX4_84, inT2, tyX2_ok, nmX2, rfl, by decide +kernel⟩
theorem ml_RX2_19 : Cond.fieldLink RX2 19 (TX2 1).1 (TX2 1).2.1 (TX2 1).2.2.1 ∈ T0 := T0_1 137 (by decide +kernel) rfl
theorem fk_RX2_19 : FOk RX2 19 2 1 := ⟨_, _, _, rfl, Nat.le_of_ble_eq_true rfl, ml_RX2_19, inT2⟩
theorem pk_RX2_19 : POk RX2 19 2 1 .int := ⟨_, _, _, tyX2, rfl, Nat.le_of_ble_eq_true rfl, ml_RX2_19, inT2, tyX2_ok, nmX2, rfl, by decide +kernel⟩
theorem ml_RX4_76 : Cond.fieldLink RX4 76 (TX2 1).1 (TX2 1).2.1 (TX2 1).2.2.1 ∈ T0 := T0_1 138 (by decide +kernel) rfl
theorem fk_RX4_76 : FOk RX4 76 2 1 := ⟨_, _, _, rfl, Nat.le_of_ble_eq_true rfl, ml_RX4_76, inT2⟩
theorem pk_RX4_76 : POk RX4 76 2 1 .int := ⟨_, _, _, tyX2, rfl, Nat.le_of_ble_eq_true rfl, ml_RX4_76, inT2, tyX2_ok, nmX2, rfl, by decide +kernel⟩
theorem ml_RX2_22 : Cond.fieldLink RX2 22 (TX2 2).1 (TX2 2).2.1 (TX2 2).2.2.1 ∈ T0 := T0_1 139 (by decide +kernel) rfl
theorem fk_RX2_22 : FOk RX2 22 2 2 := ⟨_, _, _, rfl, Nat.le_of_ble_eq_true rfl, ml_RX2_22, inT2⟩
theorem pk_RX2_22 : POk RX2 22 2 2 .int := ⟨_, _, _, tyX2, rfl, Nat.le_of_ble_eq_true rfl, ml_RX2_22, inT2, tyX2_ok, nmX2, rfl, by decide +kernel⟩
theorem ml_RX4_324 : Cond.fieldLink RX4 324 (TX2 2).1 (TX2 2).2.1 (TX2 2).2.2.1 ∈ T0 := T0_1 140 (by decide +kernel) rfl
theorem fk_RX4_324 : FOk RX4 324 2 2 := ⟨_, _, _, rfl, Nat.le_of_ble_eq_true rfl, ml_RX4_324, inT2⟩
theorem pk_RX4_324 : POk RX4 324 2 2 .int := ⟨_, _, _, tyX2, rfl, Nat.le_of_ble_eq_true rfl, ml_RX4_324, inT2, tyX2_ok, nmX2, rfl, by decide +kernel⟩
theorem ml_RX2_31 : Cond.fieldLink RX2 31 (TX2 3).1 (TX2 3).2.1 (TX2 3).2.2.1 ∈ T0 := T0_1 141 (by decide +kernel) rfl
theorem fk_RX2_31 : FOk RX2 31 2 3 := ⟨_, _, _, rfl, Nat.le_of_ble_eq_true rfl, ml_RX2_31, inT2⟩
theorem pk_RX2_31 : POk RX2 31 2 3 .int := ⟨_, _, _, tyX2, rfl, Nat.le_of_ble_eq_true rfl, ml_RX2_31, inT2, tyX2_ok, nmX2, rfl, by decide +kernel⟩
theorem ml_RX4_97 : Cond.fieldLink RX4 97 (TX2 3).1 (TX2 3).2.1 (TX2 3).2.2.1 ∈ T0 := T0_1 142 (by decide +kernel) rfl
theorem fk_RX4_97 : FOk RX4 97 2 3 := ⟨_, _, _, rfl, Nat.le_of_ble_eq_true rfl, ml_RX4_97, inT2⟩
theorem pk_RX4_97 : POk RX4 97 2 3 .int := ⟨_, _, _, tyX2, rfl, Nat.le_of_ble_eq_true rfl, ml_RX4_97, inT2, tyX2_ok, nmX2, rfl, by decide +kernel⟩
theorem ml_RX2_15 : Cond.fieldLink RX2 15 (TX2 4).1 (TX2 4).2.1 (TX2 4).2.2.1 ∈ T0 := T0_1 143 (by decide +kernel) rfl
theorem fk_RX2_15 : FOk RX2 15 2 4 := ⟨_, _, _, rfl, Nat.le_of_ble_eq_true rfl, ml_RX2_15, inT2⟩
theorem ml_RX4_72 : Cond.fieldLink RX4 72 (TX2 4).1 (TX2 4).2.1 (TX2 4).2.2.1 ∈ T0 := T0_1 144 (by decide +kernel) rfl
theorem fk_RX4_72 : FOk RX4 72 2 4 := ⟨_, _, _, rfl, Nat.le_of_ble_eq_true rfl, ml_RX4_72, inT2⟩
theorem ml_RX4_12 : Cond.fieldLink RX4 12 (TX4 0).1 (TX4 0).2.1 (TX4 0).2.2.1 ∈ T0 := T0_1 157 (by decide +kernel) rfl
theorem fk_RX4_12 : FOk RX4 12 4 0 := ⟨_, _, _, rfl, Nat.le_of_ble_eq_true rfl, ml_RX4_12, inT4⟩
theorem ml_RX4_16 : Cond.fieldLink RX4 16 (TX4 1).1 (TX4 1).2.1 (TX4 1).2.2.1 ∈ T0 := T0_1 158 (by decide +kernel) rfl
theorem fk_RX4_16 : FOk RX4 16 4 1 := ⟨_, _, _, rfl, Nat.le_of_ble_eq_true rfl, ml_RX4_16, inT4⟩
theorem ml_RX4_19 : Cond.fieldLink RX4 19 (TX4 2).1 (TX4 2).2.1 (TX4 2).2.2.1 ∈ T0 := T0_1 159 (by decide +kernel) rfl
theorem fk_RX4_19 : FOk RX4 19 4 2 := ⟨_, _, _, rfl, Nat.le_of_ble_eq_true rfl, ml_RX4_19, inT4⟩
theorem ml_RX4_305 : Cond.fieldLink RX4 305 (TX4 3).1 (TX4 3).2.1 (TX4 3).2.2.1 ∈ T0 := T0_1 160 (by decide +kernel) rfl
theorem fk_RX4_305 : FOk RX4 305 4 3 := ⟨_, _, _, rfl, Nat.le_of_ble_eq_true rfl, ml_RX4_305, inT4⟩
theorem pk_RX4_305 : POk RX4 305 4 3 .boolean := ⟨_, _, _, tyX4, rfl, Nat.le_of_ble_eq_true rfl, ml_RX4_305, inT4, tyX4_ok, nmX4, rfl, by decide +kernel⟩
theorem ml_RX4_24 : Cond.fieldLink RX4 24 (TX4 4).1 (TX4 4).2.1 (TX4 4).2.2.1 ∈ T0 := T0_1 161 (by decide +kernel) rfl
theorem fk_RX4_24 : FOk RX4 24 4 4 := ⟨_, _, _, rfl, Nat.le_of_ble_eq_true rfl, ml_RX4_24, inT4⟩
theorem ml_RX4_31 : Cond.fieldLink RX4 31 (TX4 5).1 (TX4 5).2.1 (TX4 5).2.2.1 ∈ T0 := T0_1 162 (by decide +kernel) rfl
theorem fk_RX4_31 : FOk RX4 31 4 5 := ⟨_, _, _, rfl, Nat.le_of_ble_eq_true rfl, ml_RX4_31, inT4⟩
theorem ml_RX4_38 : Cond.fieldLink RX4 38 (TX4 6).1 (TX4 6).2.1 (TX4 6).2.2.1 ∈ T0 := T0_1 163 (by decide +kernel) rfl
theorem fk_RX4_38 : FOk RX4 38 4 6 := ⟨_, _, _, rfl, Nat.le_of_ble_eq_true rfl, ml_RX4_38, inT4⟩
theorem ml_RX4_42 : Cond.fieldLink RX4 42 (TX4 7).1 (TX4 7).2.1 (TX4 7).2.2.1 ∈ T0 := T0_1 164 (by decide +kernel) rfl
theorem fk_RX4_42 : FOk RX4 42 4 7 := ⟨_, _, _, rfl, Nat.le_of_ble_eq_true rfl, ml_RX4_42, inT4⟩
theorem ml_RX4_46 : Cond.fieldLink RX4 46 (TX4 8).1 (TX4 8).2.1 (TX4 8).2.2.1 ∈ T0 := T0_1 165 (by decide +kernel) rfl
theorem fk_RX4_46 : FOk RX4 46 4 8 := ⟨_, _, _, rfl, Nat.le_of_ble_eq_true rfl, ml_RX4_46, inT4⟩
theorem ml_RX5_53 : Cond.fieldLink RX5 53 (TX5 0).1 (TX5 0).2.1 (TX5 0).2.2.1 ∈ T0 := T0_4 129 (by decide +kernel) rfl
theorem fk_RX5_53 : FOk RX5 53 5 0 := ⟨_, _, _, rfl, Nat.le_of_ble_eq_true rfl, ml_RX5_53, inT5⟩
theorem pk_RX5_53 : POk RX5 53 5 0 .int := ⟨_, _, _, tyX5, rfl, Nat.le_of_ble_eq_true rfl, ml_RX5_53, inT5, tyX5_ok, nmX5, rfl, by decide +kernel⟩
theorem ml_RX5_60 : Cond.fieldLink RX5 60 (TX5 1).1 (TX5 1).2.1 (TX5 1).2.2.1 ∈ T0 := T0_4 130 (by decide +kernel) rfl
theorem fk_RX5_60 : FOk RX5 60 5 1 := ⟨_, _, _, rfl, Nat.le_of_ble_eq_true rfl, ml_RX5_60, inT5⟩
theorem pk_RX5_60 : POk RX5 60 5 1 .int := ⟨_, _, _, tyX5, rfl, Nat.le_of_ble_eq_true rfl, ml_RX5_60, inT5, tyX5_ok, nmX5, rfl, by decide +kernel⟩
theorem ml_RX5_7 : Cond.fieldLink RX5 7 (TX5 2).1 (TX5 2).2.1 (TX5 2).2.2.1 ∈ T0 := T0_4 131 (by decide +kernel) rfl
theorem fk_RX5_7 : FOk RX5 7 5 2 := ⟨_, _, _, rfl, Nat.le_of_ble_eq_true rfl, ml_RX5_7, inT5⟩
theorem ml_RX5_13 : Cond.fieldLink RX5 13 (TX5 3).1 (TX5 3).2.1 (TX5 3).2.2.1 ∈ T0 := T0_4 132 (by decide +kernel) rfl
theorem fk_RX5_13 : FOk RX5 13 5 3 := ⟨_, _, _, rfl, Nat.le_of_ble_eq_true rfl, ml_RX5_13, inT5⟩
theorem ml_RX5_16 : Cond.fieldLink RX5 16 (TX5 4).1 (TX5 4).2.1 (TX5 4).2.2.1 ∈ T0 := T0_4 133 (by decide +kernel) rfl
theorem fk_RX5_16 : FOk RX5 16 5 4 := ⟨_, _, _, rfl, Nat.le_of_ble_eq_true rfl, ml_RX5_16, inT5⟩
theorem ml_RX5_109 : Cond.fieldLink RX5 109 (TX5 5).1 (TX5 5).2.1 (TX5 5).2.2.1 ∈ T0 := T0_4 134 (by decide +kernel) rfl
theorem fk_RX5_109 : FOk RX5 109 5 5 := ⟨_, _, _, rfl, Nat.le_of_ble_eq_true rfl, ml_RX5_109, inT5⟩
theorem pk_RX5_109 : POk RX5 109 5 5 .int := ⟨_, _, _, tyX5, rfl, Nat.le_of_ble_eq_true rfl, ml_RX5_109, inT5, tyX5_ok, nmX5, rfl, by decide +kernel⟩
theorem ml_RX5_19 : Cond.fieldLink RX5 19 (TX5 6).1 (TX5 6).2.1 (TX5 6).2.2.1 ∈ T0 := T0_4 135 (by decide +kernel) rfl
theorem fk_RX5_19 : FOk RX5 19 5 6 := ⟨_, _, _, rfl, Nat.le_of_ble_eq_true rfl, ml_RX5_19, inT5⟩
theorem ml_RX5_57 : Cond.fieldLink RX5 57 (TX5 7).1 (TX5 7).2.1 (TX5 7).2.2.1 ∈ T0 := T0_4 136 (by decide +kernel) rfl
theorem fk_RX5_57 : FOk RX5 57 5 7 := ⟨_, _, _, rfl, Nat.le_of_ble_eq_true rfl, ml_RX5_57, inT5⟩
theorem pk_RX5_57 : POk RX5 57 5 7 .int := ⟨_, _, _, tyX5, rfl, Nat.le_of_ble_eq_true rfl, ml_RX5_57, inT5, tyX5_ok, nmX5, rfl, by decide +kernel⟩
theorem ml_RX5_119 : Cond.fieldLink RX5 119 (TX5 8).1 (TX5 8).2.1 (TX5 8).2.2.1 ∈ T0 := T0_4 137 (by decide +kernel) rfl
theorem fk_RX5_119 : FOk RX5 119 5 8 := ⟨_, _, _, rfl, Nat.le_of_ble_eq_true rfl, ml_RX5_119, inT5⟩
theorem pk_RX5_119 : POk RX5 119 5 8 .int := ⟨_, _, _, tyX5, rfl, Nat.le_of_ble_eq_true rfl, ml_RX5_119, inT5, tyX5_ok, nmX5, rfl, by decide +kernel⟩
theorem ml_RX5_22 : Cond.fieldLink RX5 22 (TX5 9).1 (TX5 9).2.1 (TX5 9).2.2.1 ∈ T0 := T0_4 138 (by decide +kernel) rfl
theorem fk_RX5_22 : FOk RX5 22 5 9 := ⟨_, _, _, rfl, Nat.le_of_ble_eq_true rfl, ml_RX5_22, inT5⟩
theorem ml_RX5_125 : Cond.fieldLink RX5 125 (TX5 10).1 (TX5 10).2.1 (TX5 10).2.2.1 ∈ T0 := T0_4 139 (by decide +kernel) rfl
theorem fk_RX5_125 : FOk RX5 125 5 10 := ⟨_, _, _, rfl, Nat.le_of_ble_eq_true rfl, ml_RX5_125, inT5⟩
theorem pk_RX5_125 : POk RX5 125 5 10 .int := ⟨_, _, _, tyX5, rfl, Nat.le_of_ble_eq_true rfl, ml_RX5_125, inT5, tyX5_ok, nmX5, rfl, by decide +kernel⟩
theorem ml_RX5_122 : Cond.fieldLink RX5 122 (TX5 11).1 (TX5 11).2.1 (TX5 11).2.2.1 ∈ T0 := T0_4 140 (by decide +kernel) rfl
theorem fk_RX5_122 : FOk RX5 122 5 11 := ⟨_, _, _, rfl, Nat.le_of_ble_eq_true rfl, ml_RX5_122, inT5⟩
theorem pk_RX5_122 : POk RX5 122 5 11 .int := ⟨_, _, _, tyX5, rfl, Nat.le_of_ble_eq_true rfl, ml_RX5_122, inT5, tyX5_ok, nmX5, rfl, by decide +kernel⟩
theorem ml_RX5_128 : Cond.fieldLink RX5 128 (TX5 12).1 (TX5 12).2.1 (TX5 12).2.2.1 ∈ T0 := T0_4 141 (by decide +kernel) rfl
theorem fk_RX5_128 : FOk RX5 128 5 12 := ⟨_, _, _, rfl, Nat.le_of_ble_eq_true rfl, ml_RX5_128, inT5⟩
theorem pk_RX5_128 : POk RX5 128 5 12 .int := ⟨_, _, _, tyX5, rfl, Nat.le_of_ble_eq_true rfl, ml_RX5_128, inT5, tyX5_ok, nmX5, rfl, by decide +kernel⟩
theorem ml_RX5_137 : Cond.fieldLink RX5 137 (TX5 13).1 (TX5 13).2.1 (TX5 13).2.2.1 ∈ T0 := T0_4 142 (by decide +kernel) rfl
theorem fk_RX5_137 : FOk RX5 137 5 13 := ⟨_, _, _, rfl, Nat.le_of_ble_eq_true rfl, ml_RX5_137, inT5⟩
theorem pk_RX5_137 : POk RX5 137 5 13 .int := ⟨_, _, _, tyX5, rfl, Nat.le_of_ble_eq_true rfl, ml_RX5_137, inT5, tyX5_ok, nmX5, rfl, by decide +kernel⟩
theorem ml_RX5_25 : Cond.fieldLink RX5 25 (TX5 14).1 (TX5 14).2.1 (TX5 14).2.2.1 ∈ T0 := T0_4 143 (by decide +kernel) rfl
theorem fk_RX5_25 : FOk RX5 25 5 14 := ⟨_, _, _, rfl, Nat.le_of_ble_eq_true rfl, ml_RX5_25, inT5⟩
theorem ml_RX5_28 : Cond.fieldLink RX5 28 (TX5 15).1 (TX5 15).2.1 (TX5 15).2.2.1 ∈ T0 := T0_4 144 (by decide +kernel) rfl
theorem fk_RX5_28 : FOk RX5 28 5 15 := ⟨_, _, _, rfl, Nat.le_of_ble_eq_true rfl, ml_RX5_28, inT5⟩
theorem ml_RX5_31 : Cond.fieldLink RX5 31 (TX5 16).1 (TX5 16).2.1 (TX5 16).2.2.1 ∈ T0 := T0_4 145 (by decide +kernel) rfl
theorem fk_RX5_31 : FOk RX5 31 5 16 := ⟨_, _, _, rfl, Nat.le_of_ble_eq_true rfl, ml_RX5_31, inT5⟩
theorem ml_RX5_35 : Cond.fieldLink RX5 35 (TX5 17).1 (TX5 17).2.1 (TX5 17).2.2.1 ∈ T0 := T0_4 146 (by decide +kernel) rfl
theorem fk_RX5_35 : FOk RX5 35 5 17 := ⟨_, _, _, rfl, Nat.le_of_ble_eq_true rfl, ml_RX5_35, inT5⟩
theorem ml_RX5_353 : Cond.fieldLink RX5 353 (TX5 18).1 (TX5 18).2.1 (TX5 18).2.2.1 ∈ T0 := T0_4 147 (by decide +kernel) rfl
theorem fk_RX5_353 : FOk RX5 353 5 18 := ⟨_, _, _, rfl, Nat.le_of_ble_eq_true rfl, ml_RX5_353, inT5⟩
theorem pk_RX5_353 : POk RX5 353 5 18 .boolean := ⟨_, _, _, tyX5, rfl, Nat.le_of_ble_eq_true rfl, ml_RX5_353, inT5, tyX5_ok, nmX5, rfl, by decide +kernel⟩
theorem ml_RX5_38 : Cond.fieldLink RX5 38 (TX5 19).1 (TX5 19).2.1 (TX5 19).2.2.1 ∈ T0 := T0_4 148 (by decide +kernel) rfl
theorem fk_RX5_38 : FOk RX5 38 5 19 := ⟨_, _, _, rfl, Nat.le_of_ble_eq_true rfl, ml_RX5_38, inT5⟩
theorem ml_RX5_41 : Cond.fieldLink RX5 41 (TX5 20).1 (TX5 20).2.1 (TX5 20).2.2.1 ∈ T0 := T0_4 149 (by decide +kernel) rfl
theorem fk_RX5_41 : FOk RX5 41 5 20 := ⟨_, _, _, rfl, Nat.le_of_ble_eq_true rfl, ml_RX5_41, inT5⟩
theorem ml_RX5_44 : Cond.fieldLink RX5 44 (TX5 21).1 (TX5 21).2.1 (TX5 21).2.2.1 ∈ T0 := T0_4 150 (by decide +kernel) rfl
theorem fk_RX5_44 : FOk RX5 44 5 21 := ⟨_, _, _, rfl, Nat.le_of_ble_eq_true rfl, ml_RX5_44, inT5⟩
theorem ml_RX5_219 : Cond.fieldLink RX5 219 (TX5 22).1 (TX5 22).2.1 (TX5 22).2.2.1 ∈ T0 := T0_4 151 (by decide +kernel) rfl
theorem fk_RX5_219 : FOk RX5 219 5 22 := ⟨_, _, _, rfl, Nat.le_of_ble_eq_true rfl, ml_RX5_219, inT5⟩
theorem pk_RX5_219 : POk RX5 219 5 22 .int := ⟨_, _, _, tyX5, rfl, Nat.le_of_ble_eq_true rfl, ml_RX5_219, inT5, tyX5_ok, nmX5, rfl, by decide +kernel⟩
theorem ml_RX5_47 : Cond.fieldLink RX5 47 (TX5 23).1 (TX5 23).2.1 (TX5 23).2.2.1 ∈ T0 := T0_4 152 (by decide +kernel) rfl
theorem fk_RX5_47 : FOk RX5 47 5 23 := ⟨_, _, _, rfl, Nat.le_of_ble_eq_true rfl, ml_RX5_47, inT5⟩
theorem ml_RX5_50 : Cond.fieldLink RX5 50 (TX5 24).1 (TX5 24).2.1 (TX5 24).2.2.1 ∈ T0 := T0_4 153 (by decide +kernel) rfl
theorem fk_RX5_50 : FOk RX5 50 5 24 := ⟨_, _, _, rfl, Nat.le_of_ble_eq_true rfl, ml_RX5_50, inT5⟩
theorem ml_RX5_312 : Cond.fieldLink RX5 312 (TX5 25).1 (TX5 25).2.1 (TX5 25).2.2.1 ∈ T0 := T0_4 154 (by decide +kernel) rfl
theorem fk_RX5_312 : FOk RX5 312 5 25 := ⟨_, _, _, rfl, Nat.le_of_ble_eq_true rfl, ml_RX5_312, inT5⟩
theorem pk_RX5_312 : POk RX5 312 5 25 .long := ⟨_, _, _, tyX5, rfl, Nat.le_of_ble_eq_true rfl, ml_RX5_312, inT5, tyX5_ok, nmX5, rfl, by decide +kernel⟩
theorem ml_RX5_308 : Cond.fieldLink RX5 308 (TX5 26).1 (TX5 26).2.1 (TX5 26).2.2.1 ∈ T0 := T0_4 155 (by decide +kernel) rfl
theorem fk_RX5_308 : FOk RX5 308 5 26 := ⟨_, _, _, rfl, Nat.le_of_ble_eq_true rfl, ml_RX5_308, inT5⟩
theorem pk_RX5_308 : POk RX5 308 5 26 .long := ⟨_, _, _, tyX5, rfl, Nat.le_of_ble_eq_true rfl, ml_RX5_308, inT5, tyX5_ok, nmX5, rfl, by decide +kernel⟩
theorem mk_RL_9 : Cond.methodLink RL 9 yX4_init ∈ T0 := T0_1 18 (by decide +kernel) rfl
theorem mk_RX4_37 : Cond.methodLink RX4 37 yX0_init ∈ T0 := T0_1 110 (by decide +kernel) rfl
theorem mk_RL_13 : Cond.methodLink RL 13 yX4_row ∈ T0 := T0_1 185 (by decide +kernel) rfl
theorem mk_RX4_50 : Cond.methodLink RX4 50 yX4_isShelf ∈ T0 := T0_1 189 (by decide +kernel) rfl
theorem mk_RX4_54 : Cond.methodLink RX4 54 yX4_isElementCount ∈ T0 := T0_1 192 (by decide +kernel) rfl
theorem mk_RX4_57 : Cond.methodLink RX4 57 yX4_refuse ∈ T0 := T0_1 195 (by decide +kernel) rfl
theorem mk_RX4_61 : Cond.methodLink RX4 61 yX2_takeRow ∈ T0 := T0_1 199 (by decide +kernel) rfl
theorem mk_RX2_25 : Cond.methodLink RX2 25 yJ7_fill_d0a16 ∈ T0 := T0_1 203 (by decide +kernel) rfl
theorem mk_RL_20 : Cond.methodLink RL 20 yX4_set ∈ T0 := T0_1 206 (by decide +kernel) rfl
theorem mk_RX4_65 : Cond.methodLink RX4 65 yX4_rowRefusal ∈ T0 := T0_1 210 (by decide +kernel) rfl
theorem mk_RX4_69 : Cond.methodLink RX4 69 yX2_hasPlace ∈ T0 := T0_1 214 (by decide +kernel) rfl
theorem mk_RX4_80 : Cond.methodLink RX4 80 yX4_narrowed ∈ T0 := T0_1 218 (by decide +kernel) rfl
theorem mk_RL_25 : Cond.methodLink RL 25 yX4_copy ∈ T0 := T0_1 221 (by decide +kernel) rfl
theorem mk_RX4_87 : Cond.methodLink RX4 87 yX2_hasPlaces ∈ T0 := T0_1 225 (by decide +kernel) rfl
theorem mk_RX4_91 : Cond.methodLink RX4 91 arraycopyName ∈ T0 := T0_1 229 (by decide +kernel) rfl
theorem mk_RL_30 : Cond.methodLink RL 30 yX4_element ∈ T0 := T0_1 232 (by decide +kernel) rfl
theorem mk_RL_35 : Cond.methodLink RL 35 yX4_holds ∈ T0 := T0_1 236 (by decide +kernel) rfl
theorem mk_RL_40 : Cond.methodLink RL 40 yX4_show ∈ T0 := T0_2 0 (by decide +kernel) rfl
theorem mk_RX4_100 : Cond.methodLink RX4 100 yX4_isMote ∈ T0 := T0_2 4 (by decide +kernel) rfl
theorem mk_RX4_103 : Cond.methodLink RX4 103 yX2_clear ∈ T0 := T0_2 8 (by decide +kernel) rfl
theorem mk_RX4_106 : Cond.methodLink RX4 106 yX2_takeMote ∈ T0 := T0_2 12 (by decide +kernel) rfl
theorem mk_RL_45 : Cond.methodLink RL 45 yX4_says ∈ T0 := T0_2 16 (by decide +kernel) rfl
theorem mk_RX4_110 : Cond.methodLink RX4 110 yX4_isKind ∈ T0 := T0_2 20 (by decide +kernel) rfl
theorem mk_RX4_116 : Cond.methodLink RX4 116 yX4_isUnder ∈ T0 := T0_2 23 (by decide +kernel) rfl
theorem mk_RX4_125 : Cond.methodLink RX4 125 yX1_next ∈ T0 := T0_2 26 (by decide +kernel) rfl
theorem mk_RX1_94 : Cond.methodLink RX1 94 yX1_nextOfHeavy ∈ T0 := T0_2 30 (by decide +kernel) rfl
theorem mk_RX1_110 : Cond.methodLink RX1 110 yX1_pushedByDoors ∈ T0 := T0_2 34 (by decide +kernel) rfl
theorem mk_RX1_113 : Cond.methodLink RX1 113 yX1_pushedByFan ∈ T0 := T0_2 38 (by decide +kernel) rfl
theorem mk_RX1_97 : Cond.methodLink RX1 97 yX1_lowered ∈ T0 := T0_2 42 (by decide +kernel) rfl
theorem mk_RX1_100 : Cond.methodLink RX1 100 yX1_isLit ∈ T0 := T0_2 46 (by decide +kernel) rfl
theorem mk_RX1_116 : Cond.methodLink RX1 116 yX1_beamColumn ∈ T0 := T0_2 50 (by decide +kernel) rfl
theorem mk_RX1_104 : Cond.methodLink RX1 104 yX1_nextOfMote ∈ T0 := T0_2 54 (by decide +kernel) rfl
theorem mk_RX1_107 : Cond.methodLink RX1 107 yX1_towardsBeam ∈ T0 := T0_2 58 (by decide +kernel) rfl
theorem mk_RX1_119 : Cond.methodLink RX1 119 yJ6_compare_7cf53 ∈ T0 := T0_2 62 (by decide +kernel) rfl
theorem mk_RL_49 : Cond.methodLink RL 49 yX4_side ∈ T0 := T0_2 65 (by decide +kernel) rfl
theorem mk_RX4_129 : Cond.methodLink RX4 129 yX1_maySide ∈ T0 := T0_2 69 (by decide +kernel) rfl
theorem mk_RL_53 : Cond.methodLink RL 53 yX4_mote ∈ T0 := T0_2 73 (by decide +kernel) rfl
theorem mk_RX4_135 : Cond.methodLink RX4 135 yX1_isCell ∈ T0 := T0_2 77 (by decide +kernel) rfl
theorem mk_RX4_138 : Cond.methodLink RX4 138 yX1_hasRoom ∈ T0 := T0_2 81 (by decide +kernel) rfl
theorem mk_RX4_142 : Cond.methodLink RX4 142 yX1_add ∈ T0 := T0_2 85 (by decide +kernel) rfl
theorem mk_RX1_59 : Cond.methodLink RX1 59 yX1_hasRoom ∈ T0 := T0_2 89 (by decide +kernel) rfl
theorem mk_RL_57 : Cond.methodLink RL 57 yX4_put ∈ T0 := T0_2 90 (by decide +kernel) rfl
theorem mk_RL_61 : Cond.methodLink RL 61 yX4_door ∈ T0 := T0_2 94 (by decide +kernel) rfl
theorem mk_RX4_152 : Cond.methodLink RX4 152 yX1_setDoor ∈ T0 := T0_2 98 (by decide +kernel) rfl
theorem mk_RL_66 : Cond.methodLink RL 66 yX4_tell ∈ T0 := T0_2 102 (by decide +kernel) rfl
theorem mk_RX4_156 : Cond.methodLink RX4 156 yX1_mayTell ∈ T0 := T0_2 106 (by decide +kernel) rfl
theorem mk_RX1_63 : Cond.methodLink RX1 63 yX1_mostTold ∈ T0 := T0_2 109 (by decide +kernel) rfl
theorem mk_RX4_159 : Cond.methodLink RX4 159 yX1_told ∈ T0 := T0_2 112 (by decide +kernel) rfl
theorem mk_RX4_162 : Cond.methodLink RX4 162 yX1_becomes ∈ T0 := T0_2 116 (by decide +kernel) rfl
theorem mk_RL_70 : Cond.methodLink RL 70 yX4_feed ∈ T0 := T0_2 120 (by decide +kernel) rfl
theorem mk_RX4_168 : Cond.methodLink RX4 168 yX3_add ∈ T0 := T0_2 124 (by decide +kernel) rfl
theorem mk_RL_74 : Cond.methodLink RL 74 yX4_wipe ∈ T0 := T0_2 128 (by decide +kernel) rfl
theorem mk_RL_79 : Cond.methodLink RL 79 yX4_hall ∈ T0 := T0_2 132 (by decide +kernel) rfl
theorem mk_RX4_170 : Cond.methodLink RX4 170 yX1_takeOver ∈ T0 := T0_2 136 (by decide +kernel) rfl
theorem mk_RX1_31 : Cond.methodLink RX1 31 arraycopyName ∈ T0 := T0_2 140 (by decide +kernel) rfl
theorem mk_RX1_37 : Cond.methodLink RX1 37 yX1_takePlaces ∈ T0 := T0_2 141 (by decide +kernel) rfl
theorem mk_RX4_174 : Cond.methodLink RX4 174 yX3_read ∈ T0 := T0_2 145 (by decide +kernel) rfl
theorem mk_RX3_22 : Cond.methodLink RX3 22 yX3_readToken ∈ T0 := T0_2 149 (by decide +kernel) rfl
theorem mk_RX3_117 : Cond.methodLink RX3 117 yX3_sortOf ∈ T0 := T0_2 153 (by decide +kernel) rfl
theorem mk_RX3_28 : Cond.methodLink RX3 28 yX3_readStatement ∈ T0 := T0_2 156 (by decide +kernel) rfl
theorem mk_RX3_34 : Cond.methodLink RX3 34 yX3_isWord ∈ T0 := T0_2 161 (by decide +kernel) rfl
theorem mk_RX3_108 : Cond.methodLink RX3 108 yJ0_length_8abf5 ∈ T0 := T0_2 165 (by decide +kernel) rfl
theorem mk_RJ0_335 : Cond.methodLink RJ0 335 yJ0_coder_7d493 ∈ T0 := T0_2 169 (by decide +kernel) rfl
theorem mk_RX3_113 : Cond.methodLink RX3 113 yJ0_charAt_5068e ∈ T0 := T0_2 175 (by decide +kernel) rfl
theorem mk_RJ0_492 : Cond.methodLink RJ0 492 yJ0_isLatin1_aae02 ∈ T0 := T0_2 179 (by decide +kernel) rfl
theorem mk_RJ0_495 : Cond.methodLink RJ0 495 yJ1_charAt_3b067 ∈ T0 := T0_2 183 (by decide +kernel) rfl
theorem mk_RJ1_9 : Cond.methodLink RJ1 9 yJ0_checkIndex_df160 ∈ T0 := T0_2 186 (by decide +kernel) rfl
theorem mk_RJ0_1059 : Cond.methodLink RJ0 1059 yJ3_checkIndex_8e157 ∈ T0 := T0_2 191 (by decide +kernel) rfl
theorem mk_RJ0_498 : Cond.methodLink RJ0 498 yJ2_charAt_3b067 ∈ T0 := T0_2 194 (by decide +kernel) rfl
theorem mk_RJ2_67 : Cond.methodLink RJ2 67 yJ2_checkIndex_2214a ∈ T0 := T0_2 197 (by decide +kernel) rfl
theorem mk_RJ2_48 : Cond.methodLink RJ2 48 yJ2_length_9d52b ∈ T0 := T0_2 200 (by decide +kernel) rfl
theorem mk_RJ2_414 : Cond.methodLink RJ2 414 yJ0_checkIndex_df160 ∈ T0 := T0_2 203 (by decide +kernel) rfl
theorem mk_RJ2_71 : Cond.methodLink RJ2 71 yJ2_getChar_3b067 ∈ T0 := T0_2 204 (by decide +kernel) rfl
theorem mk_RX3_38 : Cond.methodLink RX3 38 yX3_readSide ∈ T0 := T0_2 213 (by decide +kernel) rfl
theorem mk_RX3_68 : Cond.methodLink RX3 68 yX3_readNumber ∈ T0 := T0_2 217 (by decide +kernel) rfl
theorem mk_RX3_72 : Cond.methodLink RX3 72 yX3_tokenValue ∈ T0 := T0_2 221 (by decide +kernel) rfl
theorem mk_RX3_89 : Cond.methodLink RX3 89 yX1_maySide ∈ T0 := T0_2 225 (by decide +kernel) rfl
theorem mk_RX3_43 : Cond.methodLink RX3 43 yX1_hasRoom ∈ T0 := T0_2 227 (by decide +kernel) rfl
theorem mk_RX3_49 : Cond.methodLink RX3 49 yX3_readMote ∈ T0 := T0_2 228 (by decide +kernel) rfl
theorem mk_RX3_94 : Cond.methodLink RX3 94 yX1_isCell ∈ T0 := T0_2 232 (by decide +kernel) rfl
theorem mk_RX3_97 : Cond.methodLink RX3 97 yX1_add ∈ T0 := T0_2 233 (by decide +kernel) rfl
theorem mk_RX3_54 : Cond.methodLink RX3 54 yX3_readDoor ∈ T0 := T0_2 235 (by decide +kernel) rfl
theorem mk_RX3_101 : Cond.methodLink RX3 101 yX1_setDoor ∈ T0 := T0_2 239 (by decide +kernel) rfl
theorem mk_RX3_60 : Cond.methodLink RX3 60 yX3_toldWord ∈ T0 := T0_3 1 (by decide +kernel) rfl
theorem mk_RX3_64 : Cond.methodLink RX3 64 yX1_mostTold ∈ T0 := T0_3 10 (by decide +kernel) rfl
theorem mk_RX3_75 : Cond.methodLink RX3 75 yX1_becomes ∈ T0 := T0_3 11 (by decide +kernel) rfl
theorem mk_RL_83 : Cond.methodLink RL 83 yX4_moteOf ∈ T0 := T0_3 13 (by decide +kernel) rfl
theorem mk_RX4_181 : Cond.methodLink RX4 181 yX1_isLit ∈ T0 := T0_3 17 (by decide +kernel) rfl
theorem mk_RX4_184 : Cond.methodLink RX4 184 yX4_bit ∈ T0 := T0_3 18 (by decide +kernel) rfl
theorem mk_RX4_188 : Cond.methodLink RX4 188 yX4_power ∈ T0 := T0_3 21 (by decide +kernel) rfl
theorem mk_RX4_328 : Cond.methodLink RX4 328 yX4_countSetsWithout ∈ T0 := T0_3 25 (by decide +kernel) rfl
theorem mk_RX4_331 : Cond.methodLink RX4 331 yJ7_fill_53178 ∈ T0 := T0_3 29 (by decide +kernel) rfl
theorem mk_RX4_309 : Cond.methodLink RX4 309 yX1_weightInAll ∈ T0 := T0_3 32 (by decide +kernel) rfl
theorem mk_RL_87 : Cond.methodLink RL 87 yX4_lit ∈ T0 := T0_3 36 (by decide +kernel) rfl
theorem mk_RL_131 : Cond.methodLink RL 131 yX4_first ∈ T0 := T0_3 40 (by decide +kernel) rfl
theorem mk_RL_199 : Cond.methodLink RL 199 yX4_ofKind ∈ T0 := T0_3 44 (by decide +kernel) rfl
theorem mk_RL_91 : Cond.methodLink RL 91 yX4_where ∈ T0 := T0_3 48 (by decide +kernel) rfl
theorem mk_RX4_194 : Cond.methodLink RX4 194 yX4_isTime ∈ T0 := T0_3 52 (by decide +kernel) rfl
theorem mk_RX4_197 : Cond.methodLink RX4 197 yX4_walked ∈ T0 := T0_3 55 (by decide +kernel) rfl
theorem mk_RX4_325 : Cond.methodLink RX4 325 yX1_passHour ∈ T0 := T0_3 59 (by decide +kernel) rfl
theorem mk_RX1_74 : Cond.methodLink RX1 74 yJ9_min_7cf53 ∈ T0 := T0_3 63 (by decide +kernel) rfl
theorem mk_RL_95 : Cond.methodLink RL 95 yX4_votes ∈ T0 := T0_3 66 (by decide +kernel) rfl
theorem mk_RX4_201 : Cond.methodLink RX4 201 yX4_lookAhead ∈ T0 := T0_3 70 (by decide +kernel) rfl
theorem mk_RX4_229 : Cond.methodLink RX4 229 yX1_goOn ∈ T0 := T0_3 74 (by decide +kernel) rfl
theorem mk_RX1_67 : Cond.methodLink RX1 67 yX1_next ∈ T0 := T0_3 78 (by decide +kernel) rfl
theorem mk_RX1_71 : Cond.methodLink RX1 71 yX1_passHour ∈ T0 := T0_3 79 (by decide +kernel) rfl
theorem mk_RX4_204 : Cond.methodLink RX4 204 yX1_litWeight ∈ T0 := T0_3 80 (by decide +kernel) rfl
theorem mk_RX4_208 : Cond.methodLink RX4 208 yX1_carries ∈ T0 := T0_3 84 (by decide +kernel) rfl
theorem mk_RX1_124 : Cond.methodLink RX1 124 yX1_litWeight ∈ T0 := T0_3 88 (by decide +kernel) rfl
theorem mk_RX1_127 : Cond.methodLink RX1 127 yX1_weightInAll ∈ T0 := T0_3 89 (by decide +kernel) rfl
theorem mk_RX4_211 : Cond.methodLink RX4 211 yX1_litCount ∈ T0 := T0_3 90 (by decide +kernel) rfl
theorem mk_RL_99 : Cond.methodLink RL 99 yX4_when ∈ T0 := T0_3 94 (by decide +kernel) rfl
theorem mk_RX4_214 : Cond.methodLink RX4 214 yX4_firstCarried ∈ T0 := T0_3 98 (by decide +kernel) rfl
theorem mk_RX4_217 : Cond.methodLink RX4 217 yX4_bestTime ∈ T0 := T0_3 102 (by decide +kernel) rfl
theorem mk_RL_115 : Cond.methodLink RL 115 yX4_centre ∈ T0 := T0_3 106 (by decide +kernel) rfl
theorem mk_RX4_220 : Cond.methodLink RX4 220 yX1_spread ∈ T0 := T0_3 110 (by decide +kernel) rfl
theorem mk_RX1_130 : Cond.methodLink RX1 130 yJ9_abs_0f7a4 ∈ T0 := T0_3 114 (by decide +kernel) rfl
theorem mk_RX1_133 : Cond.methodLink RX1 133 yJ9_max_7cf53 ∈ T0 := T0_3 117 (by decide +kernel) rfl
theorem mk_RX4_223 : Cond.methodLink RX4 223 yX1_middle ∈ T0 := T0_3 120 (by decide +kernel) rfl
theorem mk_RL_135 : Cond.methodLink RL 135 yX4_crowd ∈ T0 := T0_3 124 (by decide +kernel) rfl
theorem mk_RX4_226 : Cond.methodLink RX4 226 yX1_countIn ∈ T0 := T0_3 128 (by decide +kernel) rfl
theorem mk_RL_139 : Cond.methodLink RL 139 yX4_thick ∈ T0 := T0_3 132 (by decide +kernel) rfl
theorem mk_RL_143 : Cond.methodLink RL 143 yX4_arrives ∈ T0 := T0_3 136 (by decide +kernel) rfl
theorem mk_RL_147 : Cond.methodLink RL 147 yX4_lights ∈ T0 := T0_3 140 (by decide +kernel) rfl
theorem mk_RL_151 : Cond.methodLink RL 151 yX4_meet ∈ T0 := T0_3 144 (by decide +kernel) rfl
theorem mk_RX4_232 : Cond.methodLink RX4 232 yX4_areTwoMotes ∈ T0 := T0_3 148 (by decide +kernel) rfl
theorem mk_RL_175 : Cond.methodLink RL 175 yX4_together ∈ T0 := T0_3 152 (by decide +kernel) rfl
theorem mk_RL_171 : Cond.methodLink RL 171 yX4_runs ∈ T0 := T0_3 156 (by decide +kernel) rfl
theorem mk_RL_179 : Cond.methodLink RL 179 yX4_round ∈ T0 := T0_3 160 (by decide +kernel) rfl
theorem mk_RX4_235 : Cond.methodLink RX4 235 yX1_standsAs ∈ T0 := T0_3 164 (by decide +kernel) rfl
theorem mk_RL_183 : Cond.methodLink RL 183 yX4_way ∈ T0 := T0_3 168 (by decide +kernel) rfl
theorem mk_RX4_239 : Cond.methodLink RX4 239 yJ13_bitCount_95d88 ∈ T0 := T0_3 172 (by decide +kernel) rfl
theorem kk_RJ13_314 : Cond.constantLong RJ13 314 6148914691236517205 ∈ T0 := T0_3 175 (by decide +kernel) rfl
theorem kk_RJ13_316 : Cond.constantLong RJ13 316 3689348814741910323 ∈ T0 := T0_3 176 (by decide +kernel) rfl
theorem kk_RJ13_318 : Cond.constantLong RJ13 318 1085102592571150095 ∈ T0 := T0_3 177 (by decide +kernel) rfl
theorem mk_RL_187 : Cond.methodLink RL 187 yX4_walled ∈ T0 := T0_3 178 (by decide +kernel) rfl
theorem mk_RX4_245 : Cond.methodLink RX4 245 yX1_isAtWall ∈ T0 := T0_3 182 (by decide +kernel) rfl
theorem mk_RL_195 : Cond.methodLink RL 195 yX4_stirred ∈ T0 := T0_3 186 (by decide +kernel) rfl
theorem mk_RL_111 : Cond.methodLink RL 111 yX4_kinds ∈ T0 := T0_3 190 (by decide +kernel) rfl
theorem mk_RX4_248 : Cond.methodLink RX4 248 yX4_goesSo ∈ T0 := T0_3 194 (by decide +kernel) rfl
theorem mk_RL_103 : Cond.methodLink RL 103 yX4_setting ∈ T0 := T0_3 198 (by decide +kernel) rfl
theorem mk_RX4_252 : Cond.methodLink RX4 252 yJ6_bitCount_0f7a4 ∈ T0 := T0_3 202 (by decide +kernel) rfl
theorem kk_RJ6_265 : Cond.constant RJ6 265 1431655765 ∈ T0 := T0_3 205 (by decide +kernel) rfl
theorem kk_RJ6_266 : Cond.constant RJ6 266 858993459 ∈ T0 := T0_3 206 (by decide +kernel) rfl
theorem kk_RJ6_267 : Cond.constant RJ6 267 252645135 ∈ T0 := T0_3 207 (by decide +kernel) rfl
theorem mk_RX4_259 : Cond.methodLink RX4 259 yX4_lookAheadBy ∈ T0 := T0_3 208 (by decide +kernel) rfl
theorem mk_RL_167 : Cond.methodLink RL 167 yX4_many ∈ T0 := T0_3 212 (by decide +kernel) rfl
theorem mk_RL_107 : Cond.methodLink RL 107 yX4_which ∈ T0 := T0_3 216 (by decide +kernel) rfl
theorem mk_RX4_262 : Cond.methodLink RX4 262 yX1_standsAsTold ∈ T0 := T0_3 220 (by decide +kernel) rfl
theorem mk_RL_119 : Cond.methodLink RL 119 yX4_whips ∈ T0 := T0_3 224 (by decide +kernel) rfl
theorem mk_RX4_266 : Cond.methodLink RX4 266 yX4_leastDoor ∈ T0 := T0_3 228 (by decide +kernel) rfl
theorem mk_RX4_269 : Cond.methodLink RX4 269 yX4_turned ∈ T0 := T0_3 232 (by decide +kernel) rfl
theorem mk_RL_123 : Cond.methodLink RL 123 yX4_answer ∈ T0 := T0_3 236 (by decide +kernel) rfl
theorem mk_RL_191 : Cond.methodLink RL 191 yX4_doorFor ∈ T0 := T0_4 0 (by decide +kernel) rfl
theorem mk_RL_155 : Cond.methodLink RL 155 yX4_beamFor ∈ T0 := T0_4 4 (by decide +kernel) rfl
theorem mk_RL_159 : Cond.methodLink RL 159 yX4_warmthFor ∈ T0 := T0_4 8 (by decide +kernel) rfl
theorem mk_RL_163 : Cond.methodLink RL 163 yX4_bestCell ∈ T0 := T0_4 12 (by decide +kernel) rfl
theorem mk_RL_127 : Cond.methodLink RL 127 yX4_odds ∈ T0 := T0_4 16 (by decide +kernel) rfl
theorem mk_RX4_278 : Cond.methodLink RX4 278 yX0_reckon ∈ T0 := T0_4 20 (by decide +kernel) rfl
theorem mk_RX0_28 : Cond.methodLink RX0 28 yX1_takeOver ∈ T0 := T0_4 24 (by decide +kernel) rfl
theorem mk_RX0_32 : Cond.methodLink RX0 32 yX0_branch ∈ T0 := T0_4 25 (by decide +kernel) rfl
theorem mk_RX0_36 : Cond.methodLink RX0 36 yX0_tally ∈ T0 := T0_4 28 (by decide +kernel) rfl
theorem mk_RX0_58 : Cond.methodLink RX0 58 yX1_litWeight ∈ T0 := T0_4 32 (by decide +kernel) rfl
theorem mk_RX0_62 : Cond.methodLink RX0 62 yX1_weightInAll ∈ T0 := T0_4 33 (by decide +kernel) rfl
theorem mk_RX0_44 : Cond.methodLink RX0 44 yX0_waysOf ∈ T0 := T0_4 34 (by decide +kernel) rfl
theorem mk_RX0_48 : Cond.methodLink RX0 48 yX1_takePlaces ∈ T0 := T0_4 37 (by decide +kernel) rfl
theorem mk_RX0_54 : Cond.methodLink RX0 54 yX1_goOn ∈ T0 := T0_4 38 (by decide +kernel) rfl
theorem mk_RX4_282 : Cond.methodLink RX4 282 yX0_carriedOfMillion ∈ T0 := T0_4 39 (by decide +kernel) rfl
theorem kk_RX0_65 : Cond.constantLong RX0 65 1000000 ∈ T0 := T0_4 43 (by decide +kernel) rfl
theorem mk_RX4_285 : Cond.methodLink RX4 285 yX0_thousandfoldMean ∈ T0 := T0_4 44 (by decide +kernel) rfl
theorem kk_RX0_67 : Cond.constantLong RX0 67 1000 ∈ T0 := T0_4 48 (by decide +kernel) rfl
theorem mk_RL_203 : Cond.methodLink RL 203 yX4_judge ∈ T0 := T0_4 49 (by decide +kernel) rfl
theorem mk_RX4_288 : Cond.methodLink RX4 288 yX4_wrongAt ∈ T0 := T0_4 53 (by decide +kernel) rfl
theorem mk_RX4_337 : Cond.methodLink RX4 337 yX4_isSetting ∈ T0 := T0_4 57 (by decide +kernel) rfl
theorem kk_RX4_318 : Cond.constantLong RX4 318 10 ∈ T0 := T0_4 60 (by decide +kernel) rfl
theorem kk_RX4_320 : Cond.constantLong RX4 320 16 ∈ T0 := T0_4 61 (by decide +kernel) rfl
theorem kk_RX4_322 : Cond.constantLong RX4 322 4 ∈ T0 := T0_4 62 (by decide +kernel) rfl
theorem mk_RL_207 : Cond.methodLink RL 207 yX4_behind ∈ T0 := T0_4 63 (by decide +kernel) rfl
theorem mk_RX4_291 : Cond.methodLink RX4 291 yX4_sessionRefusal ∈ T0 := T0_4 67 (by decide +kernel) rfl
theorem mk_RX4_295 : Cond.methodLink RX4 295 yX1_goThrough ∈ T0 := T0_4 71 (by decide +kernel) rfl
theorem kk_RX1_79 : Cond.constantLong RX1 79 10 ∈ T0 := T0_4 75 (by decide +kernel) rfl
theorem mk_RX1_81 : Cond.methodLink RX1 81 yX1_goOn ∈ T0 := T0_4 76 (by decide +kernel) rfl
theorem mk_RL_211 : Cond.methodLink RL 211 yX4_done ∈ T0 := T0_4 77 (by decide +kernel) rfl
theorem mk_RL_215 : Cond.methodLink RL 215 yX4_steps ∈ T0 := T0_4 81 (by decide +kernel) rfl
theorem mk_RL_219 : Cond.methodLink RL 219 yX4_hours ∈ T0 := T0_4 85 (by decide +kernel) rfl
theorem mk_RX4_299 : Cond.methodLink RX4 299 yX1_drawDoors ∈ T0 := T0_4 89 (by decide +kernel) rfl
theorem mk_RX1_85 : Cond.methodLink RX1 85 yX1_draw ∈ T0 := T0_4 93 (by decide +kernel) rfl
theorem kk_RX1_93 : Cond.constant RX1 93 1103515245 ∈ T0 := T0_4 97 (by decide +kernel) rfl
theorem mk_RX1_89 : Cond.methodLink RX1 89 yX1_setDoor ∈ T0 := T0_4 98 (by decide +kernel) rfl
theorem mk_RL_223 : Cond.methodLink RL 223 yX4_seed ∈ T0 := T0_4 99 (by decide +kernel) rfl
theorem mk_RL_227 : Cond.methodLink RL 227 yX4_image ∈ T0 := T0_4 103 (by decide +kernel) rfl
theorem mk_RL_231 : Cond.methodLink RL 231 yX4_back ∈ T0 := T0_4 107 (by decide +kernel) rfl
theorem mk_RL_235 : Cond.methodLink RL 235 yX4_status ∈ T0 := T0_4 111 (by decide +kernel) rfl
theorem mk_RX4_312 : Cond.methodLink RX4 312 yX4_filledShelves ∈ T0 := T0_4 115 (by decide +kernel) rfl
theorem mk_RX4_315 : Cond.methodLink RX4 315 yX4_refused ∈ T0 := T0_4 119 (by decide +kernel) rfl
theorem mk_RL_12 : Cond.methodLink RL 12 yX5_init ∈ T0 := T0_4 125 (by decide +kernel) rfl
theorem mk_RL_17 : Cond.methodLink RL 17 yX5_row ∈ T0 := T0_4 211 (by decide +kernel) rfl
theorem mk_RX5_73 : Cond.methodLink RX5 73 yX5_isShelf ∈ T0 := T0_4 215 (by decide +kernel) rfl
theorem mk_RX5_63 : Cond.methodLink RX5 63 yX5_within ∈ T0 := T0_4 218 (by decide +kernel) rfl
theorem mk_RX5_77 : Cond.methodLink RX5 77 yX5_no ∈ T0 := T0_4 221 (by decide +kernel) rfl
theorem mk_RL_24 : Cond.methodLink RL 24 yX5_set ∈ T0 := T0_4 225 (by decide +kernel) rfl
theorem mk_RX5_81 : Cond.methodLink RX5 81 yX5_isRow ∈ T0 := T0_4 229 (by decide +kernel) rfl
theorem mk_RX5_84 : Cond.methodLink RX5 84 yX5_noRow ∈ T0 := T0_4 233 (by decide +kernel) rfl
theorem mk_RX5_87 : Cond.methodLink RX5 87 yX5_kept ∈ T0 := T0_4 237 (by decide +kernel) rfl
theorem mk_RL_29 : Cond.methodLink RL 29 yX5_copy ∈ T0 := T0_5 0 (by decide +kernel) rfl
theorem mk_RL_34 : Cond.methodLink RL 34 yX5_element ∈ T0 := T0_5 4 (by decide +kernel) rfl
theorem mk_RL_39 : Cond.methodLink RL 39 yX5_holds ∈ T0 := T0_5 8 (by decide +kernel) rfl
theorem mk_RL_44 : Cond.methodLink RL 44 yX5_show ∈ T0 := T0_5 12 (by decide +kernel) rfl
theorem mk_RX5_91 : Cond.methodLink RX5 91 yX5_isMote ∈ T0 := T0_5 16 (by decide +kernel) rfl
theorem mk_RL_48 : Cond.methodLink RL 48 yX5_says ∈ T0 := T0_5 20 (by decide +kernel) rfl
theorem mk_RX5_94 : Cond.methodLink RX5 94 yX5_isUnder ∈ T0 := T0_5 24 (by decide +kernel) rfl
theorem mk_RX5_98 : Cond.methodLink RX5 98 yX5_goes ∈ T0 := T0_5 27 (by decide +kernel) rfl
theorem mk_RX5_207 : Cond.methodLink RX5 207 yX5_asHeavy ∈ T0 := T0_5 31 (by decide +kernel) rfl
theorem mk_RX5_198 : Cond.methodLink RX5 198 yX5_byAll ∈ T0 := T0_5 35 (by decide +kernel) rfl
theorem mk_RX5_192 : Cond.methodLink RX5 192 yX5_byDoors ∈ T0 := T0_5 39 (by decide +kernel) rfl
theorem mk_RX5_189 : Cond.methodLink RX5 189 yX5_pushed ∈ T0 := T0_5 43 (by decide +kernel) rfl
theorem mk_RX5_201 : Cond.methodLink RX5 201 yX5_isLit ∈ T0 := T0_5 47 (by decide +kernel) rfl
theorem mk_RX5_195 : Cond.methodLink RX5 195 yX5_beamIn ∈ T0 := T0_5 51 (by decide +kernel) rfl
theorem mk_RX5_204 : Cond.methodLink RX5 204 yX5_asMote ∈ T0 := T0_5 55 (by decide +kernel) rfl
theorem mk_RX5_210 : Cond.methodLink RX5 210 yX5_asSpark ∈ T0 := T0_5 59 (by decide +kernel) rfl
theorem mk_RL_52 : Cond.methodLink RL 52 yX5_side ∈ T0 := T0_5 63 (by decide +kernel) rfl
theorem mk_RL_56 : Cond.methodLink RL 56 yX5_mote ∈ T0 := T0_5 67 (by decide +kernel) rfl
theorem mk_RX5_102 : Cond.methodLink RX5 102 yX5_isCell ∈ T0 := T0_5 71 (by decide +kernel) rfl
theorem mk_RX5_105 : Cond.methodLink RX5 105 yX5_newMote ∈ T0 := T0_5 75 (by decide +kernel) rfl
theorem mk_RL_60 : Cond.methodLink RL 60 yX5_put ∈ T0 := T0_5 79 (by decide +kernel) rfl
theorem mk_RL_65 : Cond.methodLink RL 65 yX5_door ∈ T0 := T0_5 83 (by decide +kernel) rfl
theorem mk_RX5_112 : Cond.methodLink RX5 112 yX5_opens ∈ T0 := T0_5 87 (by decide +kernel) rfl
theorem mk_RL_69 : Cond.methodLink RL 69 yX5_tell ∈ T0 := T0_5 91 (by decide +kernel) rfl
theorem mk_RX5_116 : Cond.methodLink RX5 116 yX5_highest ∈ T0 := T0_5 95 (by decide +kernel) rfl
theorem mk_RL_73 : Cond.methodLink RL 73 yX5_feed ∈ T0 := T0_5 98 (by decide +kernel) rfl
theorem mk_RL_78 : Cond.methodLink RL 78 yX5_wipe ∈ T0 := T0_5 102 (by decide +kernel) rfl
theorem mk_RL_82 : Cond.methodLink RL 82 yX5_hall ∈ T0 := T0_5 106 (by decide +kernel) rfl
theorem mk_RX5_178 : Cond.methodLink RX5 178 yX5_keep ∈ T0 := T0_5 110 (by decide +kernel) rfl
theorem mk_RX5_150 : Cond.methodLink RX5 150 yX5_next ∈ T0 := T0_5 114 (by decide +kernel) rfl
theorem mk_RX5_131 : Cond.methodLink RX5 131 yX5_isLetter ∈ T0 := T0_5 118 (by decide +kernel) rfl
theorem mk_RX5_134 : Cond.methodLink RX5 134 yX5_isDigit ∈ T0 := T0_5 121 (by decide +kernel) rfl
theorem mk_RX5_182 : Cond.methodLink RX5 182 yX5_statement ∈ T0 := T0_5 124 (by decide +kernel) rfl
theorem mk_RX5_155 : Cond.methodLink RX5 155 yX5_isWord ∈ T0 := T0_5 129 (by decide +kernel) rfl
theorem mk_RX5_140 : Cond.methodLink RX5 140 yJ0_length_8abf5 ∈ T0 := T0_5 133 (by decide +kernel) rfl
theorem mk_RX5_146 : Cond.methodLink RX5 146 yJ0_charAt_5068e ∈ T0 := T0_5 134 (by decide +kernel) rfl
theorem mk_RX5_159 : Cond.methodLink RX5 159 yX5_number ∈ T0 := T0_5 135 (by decide +kernel) rfl
theorem mk_RX5_186 : Cond.methodLink RX5 186 yX5_again ∈ T0 := T0_5 147 (by decide +kernel) rfl
theorem mk_RL_86 : Cond.methodLink RL 86 yX5_moteOf ∈ T0 := T0_5 151 (by decide +kernel) rfl
theorem mk_RX5_238 : Cond.methodLink RX5 238 yX5_powerOf ∈ T0 := T0_5 155 (by decide +kernel) rfl
theorem mk_RX5_216 : Cond.methodLink RX5 216 yX5_allWeight ∈ T0 := T0_5 159 (by decide +kernel) rfl
theorem mk_RL_90 : Cond.methodLink RL 90 yX5_lit ∈ T0 := T0_5 163 (by decide +kernel) rfl
theorem mk_RL_94 : Cond.methodLink RL 94 yX5_where ∈ T0 := T0_5 167 (by decide +kernel) rfl
theorem mk_RX5_241 : Cond.methodLink RX5 241 yX5_isTime ∈ T0 := T0_5 171 (by decide +kernel) rfl
theorem mk_RX5_228 : Cond.methodLink RX5 228 yX5_goesOn ∈ T0 := T0_5 174 (by decide +kernel) rfl
theorem mk_RX5_222 : Cond.methodLink RX5 222 yX5_begins ∈ T0 := T0_5 178 (by decide +kernel) rfl
theorem mk_RX5_225 : Cond.methodLink RX5 225 yX5_step ∈ T0 := T0_5 182 (by decide +kernel) rfl
theorem mk_RX5_232 : Cond.methodLink RX5 232 yX5_ends ∈ T0 := T0_5 186 (by decide +kernel) rfl
theorem mk_RL_98 : Cond.methodLink RL 98 yX5_votes ∈ T0 := T0_5 190 (by decide +kernel) rfl
theorem mk_RX5_213 : Cond.methodLink RX5 213 yX5_votesNow ∈ T0 := T0_5 194 (by decide +kernel) rfl
theorem mk_RX5_244 : Cond.methodLink RX5 244 yX5_doesCarry ∈ T0 := T0_5 198 (by decide +kernel) rfl
theorem mk_RX5_247 : Cond.methodLink RX5 247 yX5_litNow ∈ T0 := T0_5 202 (by decide +kernel) rfl
theorem mk_RL_102 : Cond.methodLink RL 102 yX5_when ∈ T0 := T0_5 206 (by decide +kernel) rfl
theorem mk_RX5_235 : Cond.methodLink RX5 235 yX5_votesBehind ∈ T0 := T0_5 210 (by decide +kernel) rfl
theorem mk_RL_106 : Cond.methodLink RL 106 yX5_setting ∈ T0 := T0_5 214 (by decide +kernel) rfl
theorem mk_RX5_255 : Cond.methodLink RX5 255 yX5_settingNow ∈ T0 := T0_5 218 (by decide +kernel) rfl
theorem mk_RX5_258 : Cond.methodLink RX5 258 yX5_isSetting ∈ T0 := T0_5 222 (by decide +kernel) rfl
theorem kk_RX5_67 : Cond.constantLong RX5 67 10 ∈ T0 := T0_5 225 (by decide +kernel) rfl
theorem kk_RX5_69 : Cond.constantLong RX5 69 16 ∈ T0 := T0_5 226 (by decide +kernel) rfl
theorem kk_RX5_71 : Cond.constantLong RX5 71 5 ∈ T0 := T0_5 227 (by decide +kernel) rfl
theorem mk_RX5_262 : Cond.methodLink RX5 262 yX5_unlike ∈ T0 := T0_5 228 (by decide +kernel) rfl
theorem mk_RX5_250 : Cond.methodLink RX5 250 yJ6_bitCount_0f7a4 ∈ T0 := T0_5 231 (by decide +kernel) rfl
theorem mk_RX5_265 : Cond.methodLink RX5 265 yX5_sets ∈ T0 := T0_5 232 (by decide +kernel) rfl
theorem mk_RX5_268 : Cond.methodLink RX5 268 yX5_carriesBehind ∈ T0 := T0_5 236 (by decide +kernel) rfl
theorem mk_RL_110 : Cond.methodLink RL 110 yX5_which ∈ T0 := T0_6 0 (by decide +kernel) rfl
theorem mk_RX5_275 : Cond.methodLink RX5 275 yX5_noTold ∈ T0 := T0_6 4 (by decide +kernel) rfl
theorem mk_RX5_278 : Cond.methodLink RX5 278 yX5_comesTo ∈ T0 := T0_6 8 (by decide +kernel) rfl
theorem mk_RX5_271 : Cond.methodLink RX5 271 yX5_toldAt ∈ T0 := T0_6 12 (by decide +kernel) rfl
theorem mk_RL_114 : Cond.methodLink RL 114 yX5_kinds ∈ T0 := T0_6 16 (by decide +kernel) rfl
theorem mk_RX5_281 : Cond.methodLink RX5 281 yX5_goesSo ∈ T0 := T0_6 20 (by decide +kernel) rfl
theorem mk_RL_118 : Cond.methodLink RL 118 yX5_centre ∈ T0 := T0_6 24 (by decide +kernel) rfl
theorem mk_RX5_295 : Cond.methodLink RX5 295 yX5_spread ∈ T0 := T0_6 28 (by decide +kernel) rfl
theorem mk_RX5_289 : Cond.methodLink RX5 289 yX5_apart ∈ T0 := T0_6 32 (by decide +kernel) rfl
theorem mk_RX5_284 : Cond.methodLink RX5 284 yJ9_abs_0f7a4 ∈ T0 := T0_6 35 (by decide +kernel) rfl
theorem mk_RX5_292 : Cond.methodLink RX5 292 yJ9_max_7cf53 ∈ T0 := T0_6 36 (by decide +kernel) rfl
theorem mk_RX5_298 : Cond.methodLink RX5 298 yX5_sumOf ∈ T0 := T0_6 37 (by decide +kernel) rfl
theorem mk_RL_122 : Cond.methodLink RL 122 yX5_whips ∈ T0 := T0_6 41 (by decide +kernel) rfl
theorem mk_RX5_301 : Cond.methodLink RX5 301 yX5_turns ∈ T0 := T0_6 45 (by decide +kernel) rfl
theorem mk_RX5_305 : Cond.methodLink RX5 305 yX5_turnedVotes ∈ T0 := T0_6 49 (by decide +kernel) rfl
theorem mk_RL_126 : Cond.methodLink RL 126 yX5_answer ∈ T0 := T0_6 53 (by decide +kernel) rfl
theorem mk_RL_194 : Cond.methodLink RL 194 yX5_doorFor ∈ T0 := T0_6 57 (by decide +kernel) rfl
theorem mk_RL_130 : Cond.methodLink RL 130 yX5_odds ∈ T0 := T0_6 61 (by decide +kernel) rfl
theorem mk_RX5_315 : Cond.methodLink RX5 315 yX5_draughts ∈ T0 := T0_6 65 (by decide +kernel) rfl
theorem kk_RX5_319 : Cond.constantLong RX5 319 12 ∈ T0 := T0_6 69 (by decide +kernel) rfl
theorem kk_RX5_321 : Cond.constantLong RX5 321 1000000 ∈ T0 := T0_6 70 (by decide +kernel) rfl
theorem kk_RX5_323 : Cond.constantLong RX5 323 1000 ∈ T0 := T0_6 71 (by decide +kernel) rfl
theorem mk_RL_134 : Cond.methodLink RL 134 yX5_first ∈ T0 := T0_6 72 (by decide +kernel) rfl
theorem mk_RL_138 : Cond.methodLink RL 138 yX5_crowd ∈ T0 := T0_6 76 (by decide +kernel) rfl
theorem mk_RX5_325 : Cond.methodLink RX5 325 yX5_crowdIn ∈ T0 := T0_6 80 (by decide +kernel) rfl
theorem mk_RL_142 : Cond.methodLink RL 142 yX5_thick ∈ T0 := T0_6 84 (by decide +kernel) rfl
theorem mk_RL_146 : Cond.methodLink RL 146 yX5_arrives ∈ T0 := T0_6 88 (by decide +kernel) rfl
theorem mk_RL_150 : Cond.methodLink RL 150 yX5_lights ∈ T0 := T0_6 92 (by decide +kernel) rfl
theorem mk_RL_154 : Cond.methodLink RL 154 yX5_meet ∈ T0 := T0_6 96 (by decide +kernel) rfl
theorem mk_RX5_328 : Cond.methodLink RX5 328 yX5_areTwo ∈ T0 := T0_6 100 (by decide +kernel) rfl
theorem mk_RL_158 : Cond.methodLink RL 158 yX5_beamFor ∈ T0 := T0_6 104 (by decide +kernel) rfl
theorem mk_RL_162 : Cond.methodLink RL 162 yX5_warmthFor ∈ T0 := T0_6 108 (by decide +kernel) rfl
theorem mk_RL_166 : Cond.methodLink RL 166 yX5_bestCell ∈ T0 := T0_6 112 (by decide +kernel) rfl
theorem mk_RL_170 : Cond.methodLink RL 170 yX5_many ∈ T0 := T0_6 116 (by decide +kernel) rfl
theorem mk_RL_174 : Cond.methodLink RL 174 yX5_runs ∈ T0 := T0_6 120 (by decide +kernel) rfl
theorem mk_RL_178 : Cond.methodLink RL 178 yX5_together ∈ T0 := T0_6 124 (by decide +kernel) rfl
theorem mk_RL_182 : Cond.methodLink RL 182 yX5_round ∈ T0 := T0_6 128 (by decide +kernel) rfl
theorem mk_RL_186 : Cond.methodLink RL 186 yX5_way ∈ T0 := T0_6 132 (by decide +kernel) rfl
theorem mk_RX5_331 : Cond.methodLink RX5 331 yJ13_bitCount_95d88 ∈ T0 := T0_6 136 (by decide +kernel) rfl
theorem mk_RL_190 : Cond.methodLink RL 190 yX5_walled ∈ T0 := T0_6 137 (by decide +kernel) rfl
theorem mk_RX5_336 : Cond.methodLink RX5 336 yX5_isWalled ∈ T0 := T0_6 141 (by decide +kernel) rfl
theorem mk_RL_198 : Cond.methodLink RL 198 yX5_stirred ∈ T0 := T0_6 145 (by decide +kernel) rfl
theorem mk_RL_202 : Cond.methodLink RL 202 yX5_ofKind ∈ T0 := T0_6 149 (by decide +kernel) rfl
theorem mk_RL_206 : Cond.methodLink RL 206 yX5_judge ∈ T0 := T0_6 153 (by decide +kernel) rfl
theorem mk_RX5_339 : Cond.methodLink RX5 339 yX5_wrong ∈ T0 := T0_6 157 (by decide +kernel) rfl
theorem mk_RL_210 : Cond.methodLink RL 210 yX5_behind ∈ T0 := T0_6 161 (by decide +kernel) rfl
theorem mk_RX5_342 : Cond.methodLink RX5 342 yX5_noSession ∈ T0 := T0_6 165 (by decide +kernel) rfl
theorem mk_RX5_345 : Cond.methodLink RX5 345 yX5_happens ∈ T0 := T0_6 169 (by decide +kernel) rfl
theorem mk_RL_214 : Cond.methodLink RL 214 yX5_done ∈ T0 := T0_6 173 (by decide +kernel) rfl
theorem mk_RL_218 : Cond.methodLink RL 218 yX5_steps ∈ T0 := T0_6 177 (by decide +kernel) rfl
theorem mk_RL_222 : Cond.methodLink RL 222 yX5_hours ∈ T0 := T0_6 181 (by decide +kernel) rfl
theorem mk_RX5_350 : Cond.methodLink RX5 350 yX5_draw ∈ T0 := T0_6 185 (by decide +kernel) rfl
theorem kk_RX5_349 : Cond.constant RX5 349 1103515245 ∈ T0 := T0_6 189 (by decide +kernel) rfl
theorem mk_RL_226 : Cond.methodLink RL 226 yX5_seed ∈ T0 := T0_6 190 (by decide +kernel) rfl
theorem mk_RL_230 : Cond.methodLink RL 230 yX5_image ∈ T0 := T0_6 194 (by decide +kernel) rfl
theorem mk_RL_234 : Cond.methodLink RL 234 yX5_back ∈ T0 := T0_6 198 (by decide +kernel) rfl
theorem mk_RL_238 : Cond.methodLink RL 238 yX5_status ∈ T0 := T0_6 202 (by decide +kernel) rfl
theorem kk_RL_18 : Cond.constantLong RL 18 4294967295 ∈ T0 := T0_6 206 (by decide +kernel) rfl
theorem wk_acp_n : Cond.native arraycopyName ∈ T0 := T0_1 231 (by decide +kernel) rfl
theorem wk_acp_s : Cond.static arraycopyName ∈ T0 := T0_1 230 (by decide +kernel) rfl
theorem wk_acp_i : Cond.initialized "java/lang/System" ∈ T0 := T0_1 8 (by decide +kernel) rfl
set_option maxRecDepth 100000 in
theorem ck_yX4_init : Cond.code yX4_init cX4_init 2 none ∈ T0 := T0_1 20 (rfl) rfl
set_option maxRecDepth 100000 in
theorem ck_yX1_init : Cond.code yX1_init cX1_init 1 none ∈ T0 := T0_1 28 (rfl) rfl
set_option maxRecDepth 100000 in
theorem ck_yX3_init : Cond.code yX3_init cX3_init 1 none ∈ T0 := T0_1 88 (rfl) rfl
set_option maxRecDepth 100000 in
theorem ck_yX0_init : Cond.code yX0_init cX0_init 2 none ∈ T0 := T0_1 112 (rfl) rfl
set_option maxRecDepth 100000 in
theorem ck_yX2_init : Cond.code yX2_init cX2_init 1 none ∈ T0 := T0_1 133 (rfl) rfl
set_option maxRecDepth 100000 in
theorem ck_yX4_row : Cond.code yX4_row cX4_row 4 (some .int) ∈ T0 := T0_1 188 (rfl) rfl
theorem ok_yX4_row : MOkV yX4_row cX4_row 4 (some .int) 3 := ⟨⟨ck_yX4_row, ini_RX4, by decide +kernel, by decide +kernel, by decide +kernel⟩, T0_1 186 (by decide +kernel) rfl, T0_1 187 (by decide +kernel) rfl⟩
set_option maxRecDepth 100000 in
theorem ck_yX4_isShelf : Cond.code yX4_isShelf cX4_isShelf 1 (some .boolean) ∈ T0 := T0_1 191 (rfl) rfl
theorem ok_yX4_isShelf : MOkS yX4_isShelf cX4_isShelf 1 (some .boolean) 1 := ⟨⟨ck_yX4_isShelf, ini_RX4, by decide +kernel, by decide +kernel, by decide +kernel⟩, T0_1 190 (by decide +kernel) rfl⟩
set_option maxRecDepth 100000 in
theorem ck_yX4_isElementCount : Cond.code yX4_isElementCount cX4_isElementCount 1 (some .boolean) ∈ T0 := T0_1 194 (rfl) rfl
theorem ok_yX4_isElementCount : MOkS yX4_isElementCount cX4_isElementCount 1 (some .boolean) 1 := ⟨⟨ck_yX4_isElementCount, ini_RX4, by decide +kernel, by decide +kernel, by decide +kernel⟩, T0_1 193 (by decide +kernel) rfl⟩
set_option maxRecDepth 100000 in
theorem ck_yX4_refuse : Cond.code yX4_refuse cX4_refuse 3 (some .int) ∈ T0 := T0_1 198 (rfl) rfl
theorem ok_yX4_refuse : MOkV yX4_refuse cX4_refuse 3 (some .int) 1 := ⟨⟨ck_yX4_refuse, ini_RX4, by decide +kernel, by decide +kernel, by decide +kernel⟩, T0_1 197 (by decide +kernel) rfl, T0_p (List.mem_of_getElem? (i := 0) (by decide +kernel)) rfl⟩
set_option maxRecDepth 100000 in
theorem ck_yX2_takeRow : Cond.code yX2_takeRow cX2_takeRow 3 none ∈ T0 := T0_1 202 (rfl) rfl
theorem ok_yX2_takeRow : MOkV yX2_takeRow cX2_takeRow 3 none 2 := ⟨⟨ck_yX2_takeRow, ini_RX2, by decide +kernel, by decide +kernel, by decide +kernel⟩, T0_1 200 (by decide +kernel) rfl, T0_1 201 (by decide +kernel) rfl⟩
set_option maxRecDepth 100000 in
theorem ck_yJ7_fill_d0a16 : Cond.code yJ7_fill_d0a16 cJ7_fill_d0a16 5 none ∈ T0 := T0_1 205 (rfl) rfl
theorem ok_yJ7_fill_d0a16 : MOkS yJ7_fill_d0a16 cJ7_fill_d0a16 5 none 2 := ⟨⟨ck_yJ7_fill_d0a16, ini_RJ7, by decide +kernel, by decide +kernel, by decide +kernel⟩, T0_1 204 (by decide +kernel) rfl⟩
set_option maxRecDepth 100000 in
theorem ck_yX4_set : Cond.code yX4_set cX4_set 7 (some .int) ∈ T0 := T0_1 209 (rfl) rfl
theorem ok_yX4_set : MOkV yX4_set cX4_set 7 (some .int) 3 := ⟨⟨ck_yX4_set, ini_RX4, by decide +kernel, by decide +kernel, by decide +kernel⟩, T0_1 207 (by decide +kernel) rfl, T0_1 208 (by decide +kernel) rfl⟩
set_option maxRecDepth 100000 in
theorem ck_yX4_rowRefusal : Cond.code yX4_rowRefusal cX4_rowRefusal 5 (some .int) ∈ T0 := T0_1 213 (rfl) rfl
theorem ok_yX4_rowRefusal : MOkV yX4_rowRefusal cX4_rowRefusal 5 (some .int) 3 := ⟨⟨ck_yX4_rowRefusal, ini_RX4, by decide +kernel, by decide +kernel, by decide +kernel⟩, T0_1 212 (by decide +kernel) rfl, T0_p (List.mem_of_getElem? (i := 1) (by decide +kernel)) rfl⟩
set_option maxRecDepth 100000 in
theorem ck_yX2_hasPlace : Cond.code yX2_hasPlace cX2_hasPlace 2 (some .boolean) ∈ T0 := T0_1 217 (rfl) rfl
theorem ok_yX2_hasPlace : MOkV yX2_hasPlace cX2_hasPlace 2 (some .boolean) 1 := ⟨⟨ck_yX2_hasPlace, ini_RX2, by decide +kernel, by decide +kernel, by decide +kernel⟩, T0_1 215 (by decide +kernel) rfl, T0_1 216 (by decide +kernel) rfl⟩
set_option maxRecDepth 100000 in
theorem ck_yX4_narrowed : Cond.code yX4_narrowed cX4_narrowed 3 (some .long) ∈ T0 := T0_1 220 (rfl) rfl
theorem ok_yX4_narrowed : MOkS yX4_narrowed cX4_narrowed 3 (some .long) 2 := ⟨⟨ck_yX4_narrowed, ini_RX4, by decide +kernel, by decide +kernel, by decide +kernel⟩, T0_1 219 (by decide +kernel) rfl⟩
set_option maxRecDepth 100000 in
theorem ck_yX4_copy : Cond.code yX4_copy cX4_copy 9 (some .int) ∈ T0 := T0_1 224 (rfl) rfl
theorem ok_yX4_copy : MOkV yX4_copy cX4_copy 9 (some .int) 5 := ⟨⟨ck_yX4_copy, ini_RX4, by decide +kernel, by decide +kernel, by decide +kernel⟩, T0_1 222 (by decide +kernel) rfl, T0_1 223 (by decide +kernel) rfl⟩
set_option maxRecDepth 100000 in
theorem ck_yX2_hasPlaces : Cond.code yX2_hasPlaces cX2_hasPlaces 3 (some .boolean) ∈ T0 := T0_1 228 (rfl) rfl
theorem ok_yX2_hasPlaces : MOkV yX2_hasPlaces cX2_hasPlaces 3 (some .boolean) 2 := ⟨⟨ck_yX2_hasPlaces, ini_RX2, by decide +kernel, by decide +kernel, by decide +kernel⟩, T0_1 226 (by decide +kernel) rfl, T0_1 227 (by decide +kernel) rfl⟩
set_option maxRecDepth 100000 in
theorem ck_yX4_element : Cond.code yX4_element cX4_element 3 (some .long) ∈ T0 := T0_1 235 (rfl) rfl
theorem ok_yX4_element : MOkV yX4_element cX4_element 3 (some .long) 2 := ⟨⟨ck_yX4_element, ini_RX4, by decide +kernel, by decide +kernel, by decide +kernel⟩, T0_1 233 (by decide +kernel) rfl, T0_1 234 (by decide +kernel) rfl⟩
set_option maxRecDepth 100000 in
theorem ck_yX4_holds : Cond.code yX4_holds cX4_holds 3 (some .int) ∈ T0 := T0_1 239 (rfl) rfl
theorem ok_yX4_holds : MOkV yX4_holds cX4_holds 3 (some .int) 1 := ⟨⟨ck_yX4_holds, ini_RX4, by decide +kernel, by decide +kernel, by decide +kernel⟩, T0_1 237 (by decide +kernel) rfl, T0_1 238 (by decide +kernel) rfl⟩
set_option maxRecDepth 100000 in
theorem ck_yX4_show : Cond.code yX4_show cX4_show 3 (some .int) ∈ T0 := T0_2 3 (rfl) rfl
theorem ok_yX4_show : MOkV yX4_show cX4_show 3 (some .int) 2 := ⟨⟨ck_yX4_show, ini_RX4, by decide +kernel, by decide +kernel, by decide +kernel⟩, T0_2 1 (by decide +kernel) rfl, T0_2 2 (by decide +kernel) rfl⟩
set_option maxRecDepth 100000 in
theorem ck_yX4_isMote : Cond.code yX4_isMote cX4_isMote 2 (some .boolean) ∈ T0 := T0_2 7 (rfl) rfl
theorem ok_yX4_isMote : MOkV yX4_isMote cX4_isMote 2 (some .boolean) 1 := ⟨⟨ck_yX4_isMote, ini_RX4, by decide +kernel, by decide +kernel, by decide +kernel⟩, T0_2 6 (by decide +kernel) rfl, T0_p (List.mem_of_getElem? (i := 2) (by decide +kernel)) rfl⟩
set_option maxRecDepth 100000 in
theorem ck_yX2_clear : Cond.code yX2_clear cX2_clear 1 none ∈ T0 := T0_2 11 (rfl) rfl
theorem ok_yX2_clear : MOkV yX2_clear cX2_clear 1 none 0 := ⟨⟨ck_yX2_clear, ini_RX2, by decide +kernel, by decide +kernel, by decide +kernel⟩, T0_2 9 (by decide +kernel) rfl, T0_2 10 (by decide +kernel) rfl⟩
set_option maxRecDepth 100000 in
theorem ck_yX2_takeMote : Cond.code yX2_takeMote cX2_takeMote 2 none ∈ T0 := T0_2 15 (rfl) rfl
theorem ok_yX2_takeMote : MOkV yX2_takeMote cX2_takeMote 2 none 1 := ⟨⟨ck_yX2_takeMote, ini_RX2, by decide +kernel, by decide +kernel, by decide +kernel⟩, T0_2 13 (by decide +kernel) rfl, T0_2 14 (by decide +kernel) rfl⟩
set_option maxRecDepth 100000 in
theorem ck_yX4_says : Cond.code yX4_says cX4_says 5 (some .int) ∈ T0 := T0_2 19 (rfl) rfl
theorem ok_yX4_says : MOkV yX4_says cX4_says 5 (some .int) 2 := ⟨⟨ck_yX4_says, ini_RX4, by decide +kernel, by decide +kernel, by decide +kernel⟩, T0_2 17 (by decide +kernel) rfl, T0_2 18 (by decide +kernel) rfl⟩
set_option maxRecDepth 100000 in
theorem ck_yX4_isKind : Cond.code yX4_isKind cX4_isKind 1 (some .boolean) ∈ T0 := T0_2 22 (rfl) rfl
theorem ok_yX4_isKind : MOkS yX4_isKind cX4_isKind 1 (some .boolean) 1 := ⟨⟨ck_yX4_isKind, ini_RX4, by decide +kernel, by decide +kernel, by decide +kernel⟩, T0_2 21 (by decide +kernel) rfl⟩
set_option maxRecDepth 100000 in
theorem ck_yX4_isUnder : Cond.code yX4_isUnder cX4_isUnder 2 (some .boolean) ∈ T0 := T0_2 25 (rfl) rfl
theorem ok_yX4_isUnder : MOkS yX4_isUnder cX4_isUnder 2 (some .boolean) 2 := ⟨⟨ck_yX4_isUnder, ini_RX4, by decide +kernel, by decide +kernel, by decide +kernel⟩, T0_2 24 (by decide +kernel) rfl⟩
set_option maxRecDepth 100000 in
theorem ck_yX1_next : Cond.code yX1_next cX1_next 3 (some .int) ∈ T0 := T0_2 29 (rfl) rfl
theorem ok_yX1_next : MOkV yX1_next cX1_next 3 (some .int) 2 := ⟨⟨ck_yX1_next, ini_RX1, by decide +kernel, by decide +kernel, by decide +kernel⟩, T0_2 27 (by decide +kernel) rfl, T0_2 28 (by decide +kernel) rfl⟩
set_option maxRecDepth 100000 in
theorem ck_yX1_nextOfHeavy : Cond.code yX1_nextOfHeavy cX1_nextOfHeavy 2 (some .int) ∈ T0 := T0_2 33 (rfl) rfl
theorem ok_yX1_nextOfHeavy : MOkV yX1_nextOfHeavy cX1_nextOfHeavy 2 (some .int) 1 := ⟨⟨ck_yX1_nextOfHeavy, ini_RX1, by decide +kernel, by decide +kernel, by decide +kernel⟩, T0_2 32 (by decide +kernel) rfl, T0_p (List.mem_of_getElem? (i := 3) (by decide +kernel)) rfl⟩
set_option maxRecDepth 100000 in
theorem ck_yX1_pushedByDoors : Cond.code yX1_pushedByDoors cX1_pushedByDoors 4 (some .int) ∈ T0 := T0_2 37 (rfl) rfl
theorem ok_yX1_pushedByDoors : MOkV yX1_pushedByDoors cX1_pushedByDoors 4 (some .int) 1 := ⟨⟨ck_yX1_pushedByDoors, ini_RX1, by decide +kernel, by decide +kernel, by decide +kernel⟩, T0_2 36 (by decide +kernel) rfl, T0_p (List.mem_of_getElem? (i := 4) (by decide +kernel)) rfl⟩
set_option maxRecDepth 100000 in
theorem ck_yX1_pushedByFan : Cond.code yX1_pushedByFan cX1_pushedByFan 4 (some .int) ∈ T0 := T0_2 41 (rfl) rfl
theorem ok_yX1_pushedByFan : MOkV yX1_pushedByFan cX1_pushedByFan 4 (some .int) 1 := ⟨⟨ck_yX1_pushedByFan, ini_RX1, by decide +kernel, by decide +kernel, by decide +kernel⟩, T0_2 40 (by decide +kernel) rfl, T0_p (List.mem_of_getElem? (i := 5) (by decide +kernel)) rfl⟩
set_option maxRecDepth 100000 in
theorem ck_yX1_lowered : Cond.code yX1_lowered cX1_lowered 2 (some .int) ∈ T0 := T0_2 45 (rfl) rfl
theorem ok_yX1_lowered : MOkV yX1_lowered cX1_lowered 2 (some .int) 1 := ⟨⟨ck_yX1_lowered, ini_RX1, by decide +kernel, by decide +kernel, by decide +kernel⟩, T0_2 44 (by decide +kernel) rfl, T0_p (List.mem_of_getElem? (i := 6) (by decide +kernel)) rfl⟩
set_option maxRecDepth 100000 in
theorem ck_yX1_isLit : Cond.code yX1_isLit cX1_isLit 2 (some .boolean) ∈ T0 := T0_2 49 (rfl) rfl
theorem ok_yX1_isLit : MOkV yX1_isLit cX1_isLit 2 (some .boolean) 1 := ⟨⟨ck_yX1_isLit, ini_RX1, by decide +kernel, by decide +kernel, by decide +kernel⟩, T0_2 47 (by decide +kernel) rfl, T0_2 48 (by decide +kernel) rfl⟩
set_option maxRecDepth 100000 in
theorem ck_yX1_beamColumn : Cond.code yX1_beamColumn cX1_beamColumn 2 (some .int) ∈ T0 := T0_2 53 (rfl) rfl
theorem ok_yX1_beamColumn : MOkV yX1_beamColumn cX1_beamColumn 2 (some .int) 1 := ⟨⟨ck_yX1_beamColumn, ini_RX1, by decide +kernel, by decide +kernel, by decide +kernel⟩, T0_2 52 (by decide +kernel) rfl, T0_p (List.mem_of_getElem? (i := 7) (by decide +kernel)) rfl⟩
set_option maxRecDepth 100000 in
theorem ck_yX1_nextOfMote : Cond.code yX1_nextOfMote cX1_nextOfMote 4 (some .int) ∈ T0 := T0_2 57 (rfl) rfl
theorem ok_yX1_nextOfMote : MOkV yX1_nextOfMote cX1_nextOfMote 4 (some .int) 1 := ⟨⟨ck_yX1_nextOfMote, ini_RX1, by decide +kernel, by decide +kernel, by decide +kernel⟩, T0_2 56 (by decide +kernel) rfl, T0_p (List.mem_of_getElem? (i := 8) (by decide +kernel)) rfl⟩
set_option maxRecDepth 100000 in
theorem ck_yX1_towardsBeam : Cond.code yX1_towardsBeam cX1_towardsBeam 2 (some .int) ∈ T0 := T0_2 61 (rfl) rfl
theorem ok_yX1_towardsBeam : MOkV yX1_towardsBeam cX1_towardsBeam 2 (some .int) 1 := ⟨⟨ck_yX1_towardsBeam, ini_RX1, by decide +kernel, by decide +kernel, by decide +kernel⟩, T0_2 60 (by decide +kernel) rfl, T0_p (List.mem_of_getElem? (i := 9) (by decide +kernel)) rfl⟩
set_option maxRecDepth 100000 in
theorem ck_yJ6_compare_7cf53 : Cond.code yJ6_compare_7cf53 cJ6_compare_7cf53 2 (some .int) ∈ T0 := T0_2 64 (rfl) rfl
theorem ok_yJ6_compare_7cf53 : MOkS yJ6_compare_7cf53 cJ6_compare_7cf53 2 (some .int) 2 := ⟨⟨ck_yJ6_compare_7cf53, ini_RJ6, by decide +kernel, by decide +kernel, by decide +kernel⟩, T0_2 63 (by decide +kernel) rfl⟩
set_option maxRecDepth 100000 in
theorem ck_yX4_side : Cond.code yX4_side cX4_side 3 (some .int) ∈ T0 := T0_2 68 (rfl) rfl
theorem ok_yX4_side : MOkV yX4_side cX4_side 3 (some .int) 1 := ⟨⟨ck_yX4_side, ini_RX4, by decide +kernel, by decide +kernel, by decide +kernel⟩, T0_2 66 (by decide +kernel) rfl, T0_2 67 (by decide +kernel) rfl⟩
set_option maxRecDepth 100000 in
theorem ck_yX1_maySide : Cond.code yX1_maySide cX1_maySide 2 (some .boolean) ∈ T0 := T0_2 72 (rfl) rfl
theorem ok_yX1_maySide : MOkV yX1_maySide cX1_maySide 2 (some .boolean) 1 := ⟨⟨ck_yX1_maySide, ini_RX1, by decide +kernel, by decide +kernel, by decide +kernel⟩, T0_2 70 (by decide +kernel) rfl, T0_2 71 (by decide +kernel) rfl⟩
set_option maxRecDepth 100000 in
theorem ck_yX4_mote : Cond.code yX4_mote cX4_mote 4 (some .int) ∈ T0 := T0_2 76 (rfl) rfl
theorem ok_yX4_mote : MOkV yX4_mote cX4_mote 4 (some .int) 3 := ⟨⟨ck_yX4_mote, ini_RX4, by decide +kernel, by decide +kernel, by decide +kernel⟩, T0_2 74 (by decide +kernel) rfl, T0_2 75 (by decide +kernel) rfl⟩
set_option maxRecDepth 100000 in
theorem ck_yX1_isCell : Cond.code yX1_isCell cX1_isCell 2 (some .boolean) ∈ T0 := T0_2 80 (rfl) rfl
theorem ok_yX1_isCell : MOkV yX1_isCell cX1_isCell 2 (some .boolean) 1 := ⟨⟨ck_yX1_isCell, ini_RX1, by decide +kernel, by decide +kernel, by decide +kernel⟩, T0_2 78 (by decide +kernel) rfl, T0_2 79 (by decide +kernel) rfl⟩
set_option maxRecDepth 100000 in
theorem ck_yX1_hasRoom : Cond.code yX1_hasRoom cX1_hasRoom 1 (some .boolean) ∈ T0 := T0_2 84 (rfl) rfl
theorem ok_yX1_hasRoom : MOkV yX1_hasRoom cX1_hasRoom 1 (some .boolean) 0 := ⟨⟨ck_yX1_hasRoom, ini_RX1, by decide +kernel, by decide +kernel, by decide +kernel⟩, T0_2 82 (by decide +kernel) rfl, T0_2 83 (by decide +kernel) rfl⟩
set_option maxRecDepth 100000 in
theorem ck_yX1_add : Cond.code yX1_add cX1_add 4 none ∈ T0 := T0_2 88 (rfl) rfl
theorem ok_yX1_add : MOkV yX1_add cX1_add 4 none 3 := ⟨⟨ck_yX1_add, ini_RX1, by decide +kernel, by decide +kernel, by decide +kernel⟩, T0_2 86 (by decide +kernel) rfl, T0_2 87 (by decide +kernel) rfl⟩
set_option maxRecDepth 100000 in
theorem ck_yX4_put : Cond.code yX4_put cX4_put 4 (some .int) ∈ T0 := T0_2 93 (rfl) rfl
theorem ok_yX4_put : MOkV yX4_put cX4_put 4 (some .int) 2 := ⟨⟨ck_yX4_put, ini_RX4, by decide +kernel, by decide +kernel, by decide +kernel⟩, T0_2 91 (by decide +kernel) rfl, T0_2 92 (by decide +kernel) rfl⟩
set_option maxRecDepth 100000 in
theorem ck_yX4_door : Cond.code yX4_door cX4_door 4 (some .int) ∈ T0 := T0_2 97 (rfl) rfl
theorem ok_yX4_door : MOkV yX4_door cX4_door 4 (some .int) 2 := ⟨⟨ck_yX4_door, ini_RX4, by decide +kernel, by decide +kernel, by decide +kernel⟩, T0_2 95 (by decide +kernel) rfl, T0_2 96 (by decide +kernel) rfl⟩
set_option maxRecDepth 100000 in
theorem ck_yX1_setDoor : Cond.code yX1_setDoor cX1_setDoor 3 none ∈ T0 := T0_2 101 (rfl) rfl
theorem ok_yX1_setDoor : MOkV yX1_setDoor cX1_setDoor 3 none 2 := ⟨⟨ck_yX1_setDoor, ini_RX1, by decide +kernel, by decide +kernel, by decide +kernel⟩, T0_2 99 (by decide +kernel) rfl, T0_2 100 (by decide +kernel) rfl⟩
set_option maxRecDepth 100000 in
theorem ck_yX4_tell : Cond.code yX4_tell cX4_tell 4 (some .int) ∈ T0 := T0_2 105 (rfl) rfl
theorem ok_yX4_tell : MOkV yX4_tell cX4_tell 4 (some .int) 2 := ⟨⟨ck_yX4_tell, ini_RX4, by decide +kernel, by decide +kernel, by decide +kernel⟩, T0_2 103 (by decide +kernel) rfl, T0_2 104 (by decide +kernel) rfl⟩
set_option maxRecDepth 100000 in
theorem ck_yX1_mayTell : Cond.code yX1_mayTell cX1_mayTell 2 (some .boolean) ∈ T0 := T0_2 108 (rfl) rfl
theorem ok_yX1_mayTell : MOkS yX1_mayTell cX1_mayTell 2 (some .boolean) 2 := ⟨⟨ck_yX1_mayTell, ini_RX1, by decide +kernel, by decide +kernel, by decide +kernel⟩, T0_2 107 (by decide +kernel) rfl⟩
set_option maxRecDepth 100000 in
theorem ck_yX1_mostTold : Cond.code yX1_mostTold cX1_mostTold 1 (some .int) ∈ T0 := T0_2 111 (rfl) rfl
theorem ok_yX1_mostTold : MOkS yX1_mostTold cX1_mostTold 1 (some .int) 1 := ⟨⟨ck_yX1_mostTold, ini_RX1, by decide +kernel, by decide +kernel, by decide +kernel⟩, T0_2 110 (by decide +kernel) rfl⟩
set_option maxRecDepth 100000 in
theorem ck_yX1_told : Cond.code yX1_told cX1_told 2 (some .int) ∈ T0 := T0_2 115 (rfl) rfl
theorem ok_yX1_told : MOkV yX1_told cX1_told 2 (some .int) 1 := ⟨⟨ck_yX1_told, ini_RX1, by decide +kernel, by decide +kernel, by decide +kernel⟩, T0_2 113 (by decide +kernel) rfl, T0_2 114 (by decide +kernel) rfl⟩
set_option maxRecDepth 100000 in
theorem ck_yX1_becomes : Cond.code yX1_becomes cX1_becomes 3 none ∈ T0 := T0_2 119 (rfl) rfl
theorem ok_yX1_becomes : MOkV yX1_becomes cX1_becomes 3 none 2 := ⟨⟨ck_yX1_becomes, ini_RX1, by decide +kernel, by decide +kernel, by decide +kernel⟩, T0_2 117 (by decide +kernel) rfl, T0_2 118 (by decide +kernel) rfl⟩
set_option maxRecDepth 100000 in
theorem ck_yX4_feed : Cond.code yX4_feed cX4_feed 2 (some .int) ∈ T0 := T0_2 123 (rfl) rfl
theorem ok_yX4_feed : MOkV yX4_feed cX4_feed 2 (some .int) 1 := ⟨⟨ck_yX4_feed, ini_RX4, by decide +kernel, by decide +kernel, by decide +kernel⟩, T0_2 121 (by decide +kernel) rfl, T0_2 122 (by decide +kernel) rfl⟩
set_option maxRecDepth 100000 in
theorem ck_yX3_add : Cond.code yX3_add cX3_add 2 none ∈ T0 := T0_2 127 (rfl) rfl
theorem ok_yX3_add : MOkV yX3_add cX3_add 2 none 1 := ⟨⟨ck_yX3_add, ini_RX3, by decide +kernel, by decide +kernel, by decide +kernel⟩, T0_2 125 (by decide +kernel) rfl, T0_2 126 (by decide +kernel) rfl⟩
set_option maxRecDepth 100000 in
theorem ck_yX4_wipe : Cond.code yX4_wipe cX4_wipe 2 (some .int) ∈ T0 := T0_2 131 (rfl) rfl
theorem ok_yX4_wipe : MOkV yX4_wipe cX4_wipe 2 (some .int) 0 := ⟨⟨ck_yX4_wipe, ini_RX4, by decide +kernel, by decide +kernel, by decide +kernel⟩, T0_2 129 (by decide +kernel) rfl, T0_2 130 (by decide +kernel) rfl⟩
set_option maxRecDepth 100000 in
theorem ck_yX4_hall : Cond.code yX4_hall cX4_hall 2 (some .int) ∈ T0 := T0_2 135 (rfl) rfl
theorem ok_yX4_hall : MOkV yX4_hall cX4_hall 2 (some .int) 0 := ⟨⟨ck_yX4_hall, ini_RX4, by decide +kernel, by decide +kernel, by decide +kernel⟩, T0_2 133 (by decide +kernel) rfl, T0_2 134 (by decide +kernel) rfl⟩
set_option maxRecDepth 100000 in
theorem ck_yX1_takeOver : Cond.code yX1_takeOver cX1_takeOver 2 none ∈ T0 := T0_2 139 (rfl) rfl
theorem ok_yX1_takeOver : MOkV yX1_takeOver cX1_takeOver 2 none 1 := ⟨⟨ck_yX1_takeOver, ini_RX1, by decide +kernel, by decide +kernel, by decide +kernel⟩, T0_2 137 (by decide +kernel) rfl, T0_2 138 (by decide +kernel) rfl⟩
set_option maxRecDepth 100000 in
theorem ck_yX1_takePlaces : Cond.code yX1_takePlaces cX1_takePlaces 2 none ∈ T0 := T0_2 144 (rfl) rfl
theorem ok_yX1_takePlaces : MOkV yX1_takePlaces cX1_takePlaces 2 none 1 := ⟨⟨ck_yX1_takePlaces, ini_RX1, by decide +kernel, by decide +kernel, by decide +kernel⟩, T0_2 142 (by decide +kernel) rfl, T0_2 143 (by decide +kernel) rfl⟩
set_option maxRecDepth 100000 in
theorem ck_yX3_read : Cond.code yX3_read cX3_read 3 (some .int) ∈ T0 := T0_2 148 (rfl) rfl
theorem ok_yX3_read : MOkV yX3_read cX3_read 3 (some .int) 1 := ⟨⟨ck_yX3_read, ini_RX3, by decide +kernel, by decide +kernel, by decide +kernel⟩, T0_2 146 (by decide +kernel) rfl, T0_2 147 (by decide +kernel) rfl⟩
set_option maxRecDepth 100000 in
theorem ck_yX3_readToken : Cond.code yX3_readToken cX3_readToken 1 none ∈ T0 := T0_2 152 (rfl) rfl
theorem ok_yX3_readToken : MOkV yX3_readToken cX3_readToken 1 none 0 := ⟨⟨ck_yX3_readToken, ini_RX3, by decide +kernel, by decide +kernel, by decide +kernel⟩, T0_2 151 (by decide +kernel) rfl, T0_p (List.mem_of_getElem? (i := 10) (by decide +kernel)) rfl⟩
set_option maxRecDepth 100000 in
theorem ck_yX3_sortOf : Cond.code yX3_sortOf cX3_sortOf 1 (some .int) ∈ T0 := T0_2 155 (rfl) rfl
theorem ok_yX3_sortOf : MOkS yX3_sortOf cX3_sortOf 1 (some .int) 1 := ⟨⟨ck_yX3_sortOf, ini_RX3, by decide +kernel, by decide +kernel, by decide +kernel⟩, T0_2 154 (by decide +kernel) rfl⟩
set_option maxRecDepth 100000 in
theorem ck_yX3_readStatement : Cond.code yX3_readStatement cX3_readStatement 3 (some .boolean) ∈ T0 := T0_2 159 (rfl) rfl
theorem ok_yX3_readStatement : MOkV yX3_readStatement cX3_readStatement 3 (some .boolean) 1 := ⟨⟨ck_yX3_readStatement, ini_RX3, by decide +kernel, by decide +kernel, by decide +kernel⟩, T0_2 158 (by decide +kernel) rfl, T0_p (List.mem_of_getElem? (i := 11) (by decide +kernel)) rfl⟩
set_option maxRecDepth 100000 in
theorem ck_yX3_isWord : Cond.code yX3_isWord cX3_isWord 3 (some .boolean) ∈ T0 := T0_2 164 (rfl) rfl
theorem ok_yX3_isWord : MOkV yX3_isWord cX3_isWord 3 (some .boolean) 1 := ⟨⟨ck_yX3_isWord, ini_RX3, by decide +kernel, by decide +kernel, by decide +kernel⟩, T0_2 163 (by decide +kernel) rfl, T0_p (List.mem_of_getElem? (i := 12) (by decide +kernel)) rfl⟩
set_option maxRecDepth 100000 in
theorem ck_yJ0_length_8abf5 : Cond.code yJ0_length_8abf5 cJ0_length_8abf5 1 (some .int) ∈ T0 := T0_2 168 (rfl) rfl
theorem ok_yJ0_length_8abf5 : MOkV yJ0_length_8abf5 cJ0_length_8abf5 1 (some .int) 0 := ⟨⟨ck_yJ0_length_8abf5, ini_RJ0, by decide +kernel, by decide +kernel, by decide +kernel⟩, T0_2 166 (by decide +kernel) rfl, T0_2 167 (by decide +kernel) rfl⟩
set_option maxRecDepth 100000 in
theorem ck_yJ0_coder_7d493 : Cond.code yJ0_coder_7d493 cJ0_coder_7d493 1 (some .byte) ∈ T0 := T0_2 172 (rfl) rfl
theorem ok_yJ0_coder_7d493 : MOkV yJ0_coder_7d493 cJ0_coder_7d493 1 (some .byte) 0 := ⟨⟨ck_yJ0_coder_7d493, ini_RJ0, by decide +kernel, by decide +kernel, by decide +kernel⟩, T0_2 170 (by decide +kernel) rfl, T0_2 171 (by decide +kernel) rfl⟩
set_option maxRecDepth 100000 in
theorem ck_yJ0_charAt_5068e : Cond.code yJ0_charAt_5068e cJ0_charAt_5068e 2 (some .char) ∈ T0 := T0_2 178 (rfl) rfl
theorem ok_yJ0_charAt_5068e : MOkV yJ0_charAt_5068e cJ0_charAt_5068e 2 (some .char) 1 := ⟨⟨ck_yJ0_charAt_5068e, ini_RJ0, by decide +kernel, by decide +kernel, by decide +kernel⟩, T0_2 176 (by decide +kernel) rfl, T0_2 177 (by decide +kernel) rfl⟩
set_option maxRecDepth 100000 in
theorem ck_yJ0_isLatin1_aae02 : Cond.code yJ0_isLatin1_aae02 cJ0_isLatin1_aae02 1 (some .boolean) ∈ T0 := T0_2 182 (rfl) rfl
theorem ok_yJ0_isLatin1_aae02 : MOkV yJ0_isLatin1_aae02 cJ0_isLatin1_aae02 1 (some .boolean) 0 := ⟨⟨ck_yJ0_isLatin1_aae02, ini_RJ0, by decide +kernel, by decide +kernel, by decide +kernel⟩, T0_2 180 (by decide +kernel) rfl, T0_2 181 (by decide +kernel) rfl⟩
set_option maxRecDepth 100000 in
theorem ck_yJ1_charAt_3b067 : Cond.code yJ1_charAt_3b067 cJ1_charAt_3b067 2 (some .char) ∈ T0 := T0_2 185 (rfl) rfl
theorem ok_yJ1_charAt_3b067 : MOkS yJ1_charAt_3b067 cJ1_charAt_3b067 2 (some .char) 2 := ⟨⟨ck_yJ1_charAt_3b067, ini_RJ1, by decide +kernel, by decide +kernel, by decide +kernel⟩, T0_2 184 (by decide +kernel) rfl⟩
set_option maxRecDepth 100000 in
theorem ck_yJ0_checkIndex_df160 : Cond.code yJ0_checkIndex_df160 cJ0_checkIndex_df160 2 none ∈ T0 := T0_2 188 (rfl) rfl
theorem ok_yJ0_checkIndex_df160 : MOkS yJ0_checkIndex_df160 cJ0_checkIndex_df160 2 none 2 := ⟨⟨ck_yJ0_checkIndex_df160, ini_RJ0, by decide +kernel, by decide +kernel, by decide +kernel⟩, T0_2 187 (by decide +kernel) rfl⟩
set_option maxRecDepth 100000 in
theorem ck_yJ3_checkIndex_8e157 : Cond.code yJ3_checkIndex_8e157 cJ3_checkIndex_8e157 3 (some .int) ∈ T0 := T0_2 193 (rfl) rfl
theorem ok_yJ3_checkIndex_8e157 : MOkS yJ3_checkIndex_8e157 cJ3_checkIndex_8e157 3 (some .int) 3 := ⟨⟨ck_yJ3_checkIndex_8e157, ini_RJ3, by decide +kernel, by decide +kernel, by decide +kernel⟩, T0_2 192 (by decide +kernel) rfl⟩
set_option maxRecDepth 100000 in
theorem ck_yJ2_charAt_3b067 : Cond.code yJ2_charAt_3b067 cJ2_charAt_3b067 2 (some .char) ∈ T0 := T0_2 196 (rfl) rfl
theorem ok_yJ2_charAt_3b067 : MOkS yJ2_charAt_3b067 cJ2_charAt_3b067 2 (some .char) 2 := ⟨⟨ck_yJ2_charAt_3b067, ini_RJ2, by decide +kernel, by decide +kernel, by decide +kernel⟩, T0_2 195 (by decide +kernel) rfl⟩
set_option maxRecDepth 100000 in
theorem ck_yJ2_checkIndex_2214a : Cond.code yJ2_checkIndex_2214a cJ2_checkIndex_2214a 2 none ∈ T0 := T0_2 199 (rfl) rfl
theorem ok_yJ2_checkIndex_2214a : MOkS yJ2_checkIndex_2214a cJ2_checkIndex_2214a 2 none 2 := ⟨⟨ck_yJ2_checkIndex_2214a, ini_RJ2, by decide +kernel, by decide +kernel, by decide +kernel⟩, T0_2 198 (by decide +kernel) rfl⟩
set_option maxRecDepth 100000 in
theorem ck_yJ2_length_9d52b : Cond.code yJ2_length_9d52b cJ2_length_9d52b 1 (some .int) ∈ T0 := T0_2 202 (rfl) rfl
theorem ok_yJ2_length_9d52b : MOkS yJ2_length_9d52b cJ2_length_9d52b 1 (some .int) 1 := ⟨⟨ck_yJ2_length_9d52b, ini_RJ2, by decide +kernel, by decide +kernel, by decide +kernel⟩, T0_2 201 (by decide +kernel) rfl⟩
set_option maxRecDepth 100000 in
theorem ck_yJ2_getChar_3b067 : Cond.code yJ2_getChar_3b067 cJ2_getChar_3b067 2 (some .char) ∈ T0 := T0_2 206 (rfl) rfl
theorem ok_yJ2_getChar_3b067 : MOkS yJ2_getChar_3b067 cJ2_getChar_3b067 2 (some .char) 2 := ⟨⟨ck_yJ2_getChar_3b067, ini_RJ2, by decide +kernel, by decide +kernel, by decide +kernel⟩, T0_2 205 (by decide +kernel) rfl⟩
set_option maxRecDepth 100000 in
theorem ck_yX3_readSide : Cond.code yX3_readSide cX3_readSide 2 (some .boolean) ∈ T0 := T0_2 216 (rfl) rfl
theorem ok_yX3_readSide : MOkV yX3_readSide cX3_readSide 2 (some .boolean) 1 := ⟨⟨ck_yX3_readSide, ini_RX3, by decide +kernel, by decide +kernel, by decide +kernel⟩, T0_2 215 (by decide +kernel) rfl, T0_p (List.mem_of_getElem? (i := 13) (by decide +kernel)) rfl⟩
set_option maxRecDepth 100000 in
theorem ck_yX3_readNumber : Cond.code yX3_readNumber cX3_readNumber 2 (some .boolean) ∈ T0 := T0_2 220 (rfl) rfl
theorem ok_yX3_readNumber : MOkV yX3_readNumber cX3_readNumber 2 (some .boolean) 1 := ⟨⟨ck_yX3_readNumber, ini_RX3, by decide +kernel, by decide +kernel, by decide +kernel⟩, T0_2 219 (by decide +kernel) rfl, T0_p (List.mem_of_getElem? (i := 14) (by decide +kernel)) rfl⟩
set_option maxRecDepth 100000 in
theorem ck_yX3_tokenValue : Cond.code yX3_tokenValue cX3_tokenValue 3 (some .int) ∈ T0 := T0_2 224 (rfl) rfl
theorem ok_yX3_tokenValue : MOkV yX3_tokenValue cX3_tokenValue 3 (some .int) 0 := ⟨⟨ck_yX3_tokenValue, ini_RX3, by decide +kernel, by decide +kernel, by decide +kernel⟩, T0_2 223 (by decide +kernel) rfl, T0_p (List.mem_of_getElem? (i := 15) (by decide +kernel)) rfl⟩
set_option maxRecDepth 100000 in
theorem ck_yX3_readMote : Cond.code yX3_readMote cX3_readMote 4 (some .boolean) ∈ T0 := T0_2 231 (rfl) rfl
theorem ok_yX3_readMote : MOkV yX3_readMote cX3_readMote 4 (some .boolean) 1 := ⟨⟨ck_yX3_readMote, ini_RX3, by decide +kernel, by decide +kernel, by decide +kernel⟩, T0_2 230 (by decide +kernel) rfl, T0_p (List.mem_of_getElem? (i := 16) (by decide +kernel)) rfl⟩
set_option maxRecDepth 100000 in
theorem ck_yX3_readDoor : Cond.code yX3_readDoor cX3_readDoor 3 (some .boolean) ∈ T0 := T0_2 238 (rfl) rfl
theorem ok_yX3_readDoor : MOkV yX3_readDoor cX3_readDoor 3 (some .boolean) 2 := ⟨⟨ck_yX3_readDoor, ini_RX3, by decide +kernel, by decide +kernel, by decide +kernel⟩, T0_2 237 (by decide +kernel) rfl, T0_p (List.mem_of_getElem? (i := 17) (by decide +kernel)) rfl⟩
set_option maxRecDepth 100000 in
theorem ck_yX3_toldWord : Cond.code yX3_toldWord cX3_toldWord 1 (some .int) ∈ T0 := T0_3 4 (rfl) rfl
theorem ok_yX3_toldWord : MOkV yX3_toldWord cX3_toldWord 1 (some .int) 0 := ⟨⟨ck_yX3_toldWord, ini_RX3, by decide +kernel, by decide +kernel, by decide +kernel⟩, T0_3 3 (by decide +kernel) rfl, T0_p (List.mem_of_getElem? (i := 18) (by decide +kernel)) rfl⟩
set_option maxRecDepth 100000 in
theorem ck_yX4_moteOf : Cond.code yX4_moteOf cX4_moteOf 3 (some .int) ∈ T0 := T0_3 16 (rfl) rfl
theorem ok_yX4_moteOf : MOkV yX4_moteOf cX4_moteOf 3 (some .int) 2 := ⟨⟨ck_yX4_moteOf, ini_RX4, by decide +kernel, by decide +kernel, by decide +kernel⟩, T0_3 14 (by decide +kernel) rfl, T0_3 15 (by decide +kernel) rfl⟩
set_option maxRecDepth 100000 in
theorem ck_yX4_bit : Cond.code yX4_bit cX4_bit 1 (some .int) ∈ T0 := T0_3 20 (rfl) rfl
theorem ok_yX4_bit : MOkS yX4_bit cX4_bit 1 (some .int) 1 := ⟨⟨ck_yX4_bit, ini_RX4, by decide +kernel, by decide +kernel, by decide +kernel⟩, T0_3 19 (by decide +kernel) rfl⟩
set_option maxRecDepth 100000 in
theorem ck_yX4_power : Cond.code yX4_power cX4_power 5 (some .int) ∈ T0 := T0_3 24 (rfl) rfl
theorem ok_yX4_power : MOkV yX4_power cX4_power 5 (some .int) 1 := ⟨⟨ck_yX4_power, ini_RX4, by decide +kernel, by decide +kernel, by decide +kernel⟩, T0_3 23 (by decide +kernel) rfl, T0_p (List.mem_of_getElem? (i := 19) (by decide +kernel)) rfl⟩
set_option maxRecDepth 100000 in
theorem ck_yX4_countSetsWithout : Cond.code yX4_countSetsWithout cX4_countSetsWithout 5 none ∈ T0 := T0_3 28 (rfl) rfl
theorem ok_yX4_countSetsWithout : MOkV yX4_countSetsWithout cX4_countSetsWithout 5 none 1 := ⟨⟨ck_yX4_countSetsWithout, ini_RX4, by decide +kernel, by decide +kernel, by decide +kernel⟩, T0_3 27 (by decide +kernel) rfl, T0_p (List.mem_of_getElem? (i := 20) (by decide +kernel)) rfl⟩
set_option maxRecDepth 100000 in
theorem ck_yJ7_fill_53178 : Cond.code yJ7_fill_53178 cJ7_fill_53178 4 none ∈ T0 := T0_3 31 (rfl) rfl
theorem ok_yJ7_fill_53178 : MOkS yJ7_fill_53178 cJ7_fill_53178 4 none 2 := ⟨⟨ck_yJ7_fill_53178, ini_RJ7, by decide +kernel, by decide +kernel, by decide +kernel⟩, T0_3 30 (by decide +kernel) rfl⟩
set_option maxRecDepth 100000 in
theorem ck_yX1_weightInAll : Cond.code yX1_weightInAll cX1_weightInAll 3 (some .int) ∈ T0 := T0_3 35 (rfl) rfl
theorem ok_yX1_weightInAll : MOkV yX1_weightInAll cX1_weightInAll 3 (some .int) 0 := ⟨⟨ck_yX1_weightInAll, ini_RX1, by decide +kernel, by decide +kernel, by decide +kernel⟩, T0_3 33 (by decide +kernel) rfl, T0_3 34 (by decide +kernel) rfl⟩
set_option maxRecDepth 100000 in
theorem ck_yX4_lit : Cond.code yX4_lit cX4_lit 3 (some .int) ∈ T0 := T0_3 39 (rfl) rfl
theorem ok_yX4_lit : MOkV yX4_lit cX4_lit 3 (some .int) 2 := ⟨⟨ck_yX4_lit, ini_RX4, by decide +kernel, by decide +kernel, by decide +kernel⟩, T0_3 37 (by decide +kernel) rfl, T0_3 38 (by decide +kernel) rfl⟩
set_option maxRecDepth 100000 in
theorem ck_yX4_first : Cond.code yX4_first cX4_first 6 (some .int) ∈ T0 := T0_3 43 (rfl) rfl
theorem ok_yX4_first : MOkV yX4_first cX4_first 6 (some .int) 1 := ⟨⟨ck_yX4_first, ini_RX4, by decide +kernel, by decide +kernel, by decide +kernel⟩, T0_3 41 (by decide +kernel) rfl, T0_3 42 (by decide +kernel) rfl⟩
set_option maxRecDepth 100000 in
theorem ck_yX4_ofKind : Cond.code yX4_ofKind cX4_ofKind 4 (some .int) ∈ T0 := T0_3 47 (rfl) rfl
theorem ok_yX4_ofKind : MOkV yX4_ofKind cX4_ofKind 4 (some .int) 1 := ⟨⟨ck_yX4_ofKind, ini_RX4, by decide +kernel, by decide +kernel, by decide +kernel⟩, T0_3 45 (by decide +kernel) rfl, T0_3 46 (by decide +kernel) rfl⟩
set_option maxRecDepth 100000 in
theorem ck_yX4_where : Cond.code yX4_where cX4_where 3 (some .int) ∈ T0 := T0_3 51 (rfl) rfl
theorem ok_yX4_where : MOkV yX4_where cX4_where 3 (some .int) 2 := ⟨⟨ck_yX4_where, ini_RX4, by decide +kernel, by decide +kernel, by decide +kernel⟩, T0_3 49 (by decide +kernel) rfl, T0_3 50 (by decide +kernel) rfl⟩
set_option maxRecDepth 100000 in
theorem ck_yX4_isTime : Cond.code yX4_isTime cX4_isTime 1 (some .boolean) ∈ T0 := T0_3 54 (rfl) rfl
theorem ok_yX4_isTime : MOkS yX4_isTime cX4_isTime 1 (some .boolean) 1 := ⟨⟨ck_yX4_isTime, ini_RX4, by decide +kernel, by decide +kernel, by decide +kernel⟩, T0_3 53 (by decide +kernel) rfl⟩
set_option maxRecDepth 100000 in
theorem ck_yX4_walked : Cond.code yX4_walked cX4_walked 6 (some .int) ∈ T0 := T0_3 58 (rfl) rfl
theorem ok_yX4_walked : MOkV yX4_walked cX4_walked 6 (some .int) 3 := ⟨⟨ck_yX4_walked, ini_RX4, by decide +kernel, by decide +kernel, by decide +kernel⟩, T0_3 57 (by decide +kernel) rfl, T0_p (List.mem_of_getElem? (i := 21) (by decide +kernel)) rfl⟩
set_option maxRecDepth 100000 in
theorem ck_yX1_passHour : Cond.code yX1_passHour cX1_passHour 1 none ∈ T0 := T0_3 62 (rfl) rfl
theorem ok_yX1_passHour : MOkV yX1_passHour cX1_passHour 1 none 0 := ⟨⟨ck_yX1_passHour, ini_RX1, by decide +kernel, by decide +kernel, by decide +kernel⟩, T0_3 60 (by decide +kernel) rfl, T0_3 61 (by decide +kernel) rfl⟩
set_option maxRecDepth 100000 in
theorem ck_yJ9_min_7cf53 : Cond.code yJ9_min_7cf53 cJ9_min_7cf53 2 (some .int) ∈ T0 := T0_3 65 (rfl) rfl
theorem ok_yJ9_min_7cf53 : MOkS yJ9_min_7cf53 cJ9_min_7cf53 2 (some .int) 2 := ⟨⟨ck_yJ9_min_7cf53, ini_RJ9, by decide +kernel, by decide +kernel, by decide +kernel⟩, T0_3 64 (by decide +kernel) rfl⟩
set_option maxRecDepth 100000 in
theorem ck_yX4_votes : Cond.code yX4_votes cX4_votes 3 (some .int) ∈ T0 := T0_3 69 (rfl) rfl
theorem ok_yX4_votes : MOkV yX4_votes cX4_votes 3 (some .int) 2 := ⟨⟨ck_yX4_votes, ini_RX4, by decide +kernel, by decide +kernel, by decide +kernel⟩, T0_3 67 (by decide +kernel) rfl, T0_3 68 (by decide +kernel) rfl⟩
set_option maxRecDepth 100000 in
theorem ck_yX4_lookAhead : Cond.code yX4_lookAhead cX4_lookAhead 2 none ∈ T0 := T0_3 73 (rfl) rfl
theorem ok_yX4_lookAhead : MOkV yX4_lookAhead cX4_lookAhead 2 none 1 := ⟨⟨ck_yX4_lookAhead, ini_RX4, by decide +kernel, by decide +kernel, by decide +kernel⟩, T0_3 72 (by decide +kernel) rfl, T0_p (List.mem_of_getElem? (i := 22) (by decide +kernel)) rfl⟩
set_option maxRecDepth 100000 in
theorem ck_yX1_goOn : Cond.code yX1_goOn cX1_goOn 4 none ∈ T0 := T0_3 77 (rfl) rfl
theorem ok_yX1_goOn : MOkV yX1_goOn cX1_goOn 4 none 1 := ⟨⟨ck_yX1_goOn, ini_RX1, by decide +kernel, by decide +kernel, by decide +kernel⟩, T0_3 75 (by decide +kernel) rfl, T0_3 76 (by decide +kernel) rfl⟩
set_option maxRecDepth 100000 in
theorem ck_yX1_litWeight : Cond.code yX1_litWeight cX1_litWeight 3 (some .int) ∈ T0 := T0_3 83 (rfl) rfl
theorem ok_yX1_litWeight : MOkV yX1_litWeight cX1_litWeight 3 (some .int) 0 := ⟨⟨ck_yX1_litWeight, ini_RX1, by decide +kernel, by decide +kernel, by decide +kernel⟩, T0_3 81 (by decide +kernel) rfl, T0_3 82 (by decide +kernel) rfl⟩
set_option maxRecDepth 100000 in
theorem ck_yX1_carries : Cond.code yX1_carries cX1_carries 1 (some .boolean) ∈ T0 := T0_3 87 (rfl) rfl
theorem ok_yX1_carries : MOkV yX1_carries cX1_carries 1 (some .boolean) 0 := ⟨⟨ck_yX1_carries, ini_RX1, by decide +kernel, by decide +kernel, by decide +kernel⟩, T0_3 85 (by decide +kernel) rfl, T0_3 86 (by decide +kernel) rfl⟩
set_option maxRecDepth 100000 in
theorem ck_yX1_litCount : Cond.code yX1_litCount cX1_litCount 3 (some .int) ∈ T0 := T0_3 93 (rfl) rfl
theorem ok_yX1_litCount : MOkV yX1_litCount cX1_litCount 3 (some .int) 0 := ⟨⟨ck_yX1_litCount, ini_RX1, by decide +kernel, by decide +kernel, by decide +kernel⟩, T0_3 91 (by decide +kernel) rfl, T0_3 92 (by decide +kernel) rfl⟩
set_option maxRecDepth 100000 in
theorem ck_yX4_when : Cond.code yX4_when cX4_when 2 (some .int) ∈ T0 := T0_3 97 (rfl) rfl
theorem ok_yX4_when : MOkV yX4_when cX4_when 2 (some .int) 1 := ⟨⟨ck_yX4_when, ini_RX4, by decide +kernel, by decide +kernel, by decide +kernel⟩, T0_3 95 (by decide +kernel) rfl, T0_3 96 (by decide +kernel) rfl⟩
set_option maxRecDepth 100000 in
theorem ck_yX4_firstCarried : Cond.code yX4_firstCarried cX4_firstCarried 2 (some .int) ∈ T0 := T0_3 101 (rfl) rfl
theorem ok_yX4_firstCarried : MOkV yX4_firstCarried cX4_firstCarried 2 (some .int) 0 := ⟨⟨ck_yX4_firstCarried, ini_RX4, by decide +kernel, by decide +kernel, by decide +kernel⟩, T0_3 100 (by decide +kernel) rfl, T0_p (List.mem_of_getElem? (i := 23) (by decide +kernel)) rfl⟩
set_option maxRecDepth 100000 in
theorem ck_yX4_bestTime : Cond.code yX4_bestTime cX4_bestTime 5 (some .int) ∈ T0 := T0_3 105 (rfl) rfl
theorem ok_yX4_bestTime : MOkV yX4_bestTime cX4_bestTime 5 (some .int) 0 := ⟨⟨ck_yX4_bestTime, ini_RX4, by decide +kernel, by decide +kernel, by decide +kernel⟩, T0_3 104 (by decide +kernel) rfl, T0_p (List.mem_of_getElem? (i := 24) (by decide +kernel)) rfl⟩
set_option maxRecDepth 100000 in
theorem ck_yX4_centre : Cond.code yX4_centre cX4_centre 3 (some .int) ∈ T0 := T0_3 109 (rfl) rfl
theorem ok_yX4_centre : MOkV yX4_centre cX4_centre 3 (some .int) 2 := ⟨⟨ck_yX4_centre, ini_RX4, by decide +kernel, by decide +kernel, by decide +kernel⟩, T0_3 107 (by decide +kernel) rfl, T0_3 108 (by decide +kernel) rfl⟩
set_option maxRecDepth 100000 in
theorem ck_yX1_spread : Cond.code yX1_spread cX1_spread 6 (some .int) ∈ T0 := T0_3 113 (rfl) rfl
theorem ok_yX1_spread : MOkV yX1_spread cX1_spread 6 (some .int) 0 := ⟨⟨ck_yX1_spread, ini_RX1, by decide +kernel, by decide +kernel, by decide +kernel⟩, T0_3 111 (by decide +kernel) rfl, T0_3 112 (by decide +kernel) rfl⟩
set_option maxRecDepth 100000 in
theorem ck_yJ9_abs_0f7a4 : Cond.code yJ9_abs_0f7a4 cJ9_abs_0f7a4 1 (some .int) ∈ T0 := T0_3 116 (rfl) rfl
theorem ok_yJ9_abs_0f7a4 : MOkS yJ9_abs_0f7a4 cJ9_abs_0f7a4 1 (some .int) 1 := ⟨⟨ck_yJ9_abs_0f7a4, ini_RJ9, by decide +kernel, by decide +kernel, by decide +kernel⟩, T0_3 115 (by decide +kernel) rfl⟩
set_option maxRecDepth 100000 in
theorem ck_yJ9_max_7cf53 : Cond.code yJ9_max_7cf53 cJ9_max_7cf53 2 (some .int) ∈ T0 := T0_3 119 (rfl) rfl
theorem ok_yJ9_max_7cf53 : MOkS yJ9_max_7cf53 cJ9_max_7cf53 2 (some .int) 2 := ⟨⟨ck_yJ9_max_7cf53, ini_RJ9, by decide +kernel, by decide +kernel, by decide +kernel⟩, T0_3 118 (by decide +kernel) rfl⟩
set_option maxRecDepth 100000 in
theorem ck_yX1_middle : Cond.code yX1_middle cX1_middle 4 (some .int) ∈ T0 := T0_3 123 (rfl) rfl
theorem ok_yX1_middle : MOkV yX1_middle cX1_middle 4 (some .int) 1 := ⟨⟨ck_yX1_middle, ini_RX1, by decide +kernel, by decide +kernel, by decide +kernel⟩, T0_3 121 (by decide +kernel) rfl, T0_3 122 (by decide +kernel) rfl⟩
set_option maxRecDepth 100000 in
theorem ck_yX4_crowd : Cond.code yX4_crowd cX4_crowd 3 (some .int) ∈ T0 := T0_3 127 (rfl) rfl
theorem ok_yX4_crowd : MOkV yX4_crowd cX4_crowd 3 (some .int) 2 := ⟨⟨ck_yX4_crowd, ini_RX4, by decide +kernel, by decide +kernel, by decide +kernel⟩, T0_3 125 (by decide +kernel) rfl, T0_3 126 (by decide +kernel) rfl⟩
set_option maxRecDepth 100000 in
theorem ck_yX1_countIn : Cond.code yX1_countIn cX1_countIn 4 (some .int) ∈ T0 := T0_3 131 (rfl) rfl
theorem ok_yX1_countIn : MOkV yX1_countIn cX1_countIn 4 (some .int) 1 := ⟨⟨ck_yX1_countIn, ini_RX1, by decide +kernel, by decide +kernel, by decide +kernel⟩, T0_3 129 (by decide +kernel) rfl, T0_3 130 (by decide +kernel) rfl⟩
set_option maxRecDepth 100000 in
theorem ck_yX4_thick : Cond.code yX4_thick cX4_thick 7 (some .int) ∈ T0 := T0_3 135 (rfl) rfl
theorem ok_yX4_thick : MOkV yX4_thick cX4_thick 7 (some .int) 1 := ⟨⟨ck_yX4_thick, ini_RX4, by decide +kernel, by decide +kernel, by decide +kernel⟩, T0_3 133 (by decide +kernel) rfl, T0_3 134 (by decide +kernel) rfl⟩
set_option maxRecDepth 100000 in
theorem ck_yX4_arrives : Cond.code yX4_arrives cX4_arrives 4 (some .int) ∈ T0 := T0_3 139 (rfl) rfl
theorem ok_yX4_arrives : MOkV yX4_arrives cX4_arrives 4 (some .int) 2 := ⟨⟨ck_yX4_arrives, ini_RX4, by decide +kernel, by decide +kernel, by decide +kernel⟩, T0_3 137 (by decide +kernel) rfl, T0_3 138 (by decide +kernel) rfl⟩
set_option maxRecDepth 100000 in
theorem ck_yX4_lights : Cond.code yX4_lights cX4_lights 3 (some .int) ∈ T0 := T0_3 143 (rfl) rfl
theorem ok_yX4_lights : MOkV yX4_lights cX4_lights 3 (some .int) 1 := ⟨⟨ck_yX4_lights, ini_RX4, by decide +kernel, by decide +kernel, by decide +kernel⟩, T0_3 141 (by decide +kernel) rfl, T0_3 142 (by decide +kernel) rfl⟩
set_option maxRecDepth 100000 in
theorem ck_yX4_meet : Cond.code yX4_meet cX4_meet 4 (some .int) ∈ T0 := T0_3 147 (rfl) rfl
theorem ok_yX4_meet : MOkV yX4_meet cX4_meet 4 (some .int) 2 := ⟨⟨ck_yX4_meet, ini_RX4, by decide +kernel, by decide +kernel, by decide +kernel⟩, T0_3 145 (by decide +kernel) rfl, T0_3 146 (by decide +kernel) rfl⟩
set_option maxRecDepth 100000 in
theorem ck_yX4_areTwoMotes : Cond.code yX4_areTwoMotes cX4_areTwoMotes 3 (some .boolean) ∈ T0 := T0_3 151 (rfl) rfl
theorem ok_yX4_areTwoMotes : MOkV yX4_areTwoMotes cX4_areTwoMotes 3 (some .boolean) 2 := ⟨⟨ck_yX4_areTwoMotes, ini_RX4, by decide +kernel, by decide +kernel, by decide +kernel⟩, T0_3 150 (by decide +kernel) rfl, T0_p (List.mem_of_getElem? (i := 25) (by decide +kernel)) rfl⟩
set_option maxRecDepth 100000 in
theorem ck_yX4_together : Cond.code yX4_together cX4_together 5 (some .int) ∈ T0 := T0_3 155 (rfl) rfl
theorem ok_yX4_together : MOkV yX4_together cX4_together 5 (some .int) 2 := ⟨⟨ck_yX4_together, ini_RX4, by decide +kernel, by decide +kernel, by decide +kernel⟩, T0_3 153 (by decide +kernel) rfl, T0_3 154 (by decide +kernel) rfl⟩
set_option maxRecDepth 100000 in
theorem ck_yX4_runs : Cond.code yX4_runs cX4_runs 4 (some .int) ∈ T0 := T0_3 159 (rfl) rfl
theorem ok_yX4_runs : MOkV yX4_runs cX4_runs 4 (some .int) 1 := ⟨⟨ck_yX4_runs, ini_RX4, by decide +kernel, by decide +kernel, by decide +kernel⟩, T0_3 157 (by decide +kernel) rfl, T0_3 158 (by decide +kernel) rfl⟩
set_option maxRecDepth 100000 in
theorem ck_yX4_round : Cond.code yX4_round cX4_round 2 (some .int) ∈ T0 := T0_3 163 (rfl) rfl
theorem ok_yX4_round : MOkV yX4_round cX4_round 2 (some .int) 0 := ⟨⟨ck_yX4_round, ini_RX4, by decide +kernel, by decide +kernel, by decide +kernel⟩, T0_3 161 (by decide +kernel) rfl, T0_3 162 (by decide +kernel) rfl⟩
set_option maxRecDepth 100000 in
theorem ck_yX1_standsAs : Cond.code yX1_standsAs cX1_standsAs 3 (some .boolean) ∈ T0 := T0_3 167 (rfl) rfl
theorem ok_yX1_standsAs : MOkV yX1_standsAs cX1_standsAs 3 (some .boolean) 1 := ⟨⟨ck_yX1_standsAs, ini_RX1, by decide +kernel, by decide +kernel, by decide +kernel⟩, T0_3 165 (by decide +kernel) rfl, T0_3 166 (by decide +kernel) rfl⟩
set_option maxRecDepth 100000 in
theorem ck_yX4_way : Cond.code yX4_way cX4_way 8 (some .int) ∈ T0 := T0_3 171 (rfl) rfl
theorem ok_yX4_way : MOkV yX4_way cX4_way 8 (some .int) 1 := ⟨⟨ck_yX4_way, ini_RX4, by decide +kernel, by decide +kernel, by decide +kernel⟩, T0_3 169 (by decide +kernel) rfl, T0_3 170 (by decide +kernel) rfl⟩
set_option maxRecDepth 100000 in
theorem ck_yJ13_bitCount_95d88 : Cond.code yJ13_bitCount_95d88 cJ13_bitCount_95d88 2 (some .int) ∈ T0 := T0_3 174 (rfl) rfl
theorem ok_yJ13_bitCount_95d88 : MOkS yJ13_bitCount_95d88 cJ13_bitCount_95d88 2 (some .int) 1 := ⟨⟨ck_yJ13_bitCount_95d88, ini_RJ13, by decide +kernel, by decide +kernel, by decide +kernel⟩, T0_3 173 (by decide +kernel) rfl⟩
set_option maxRecDepth 100000 in
theorem ck_yX4_walled : Cond.code yX4_walled cX4_walled 4 (some .int) ∈ T0 := T0_3 181 (rfl) rfl
theorem ok_yX4_walled : MOkV yX4_walled cX4_walled 4 (some .int) 1 := ⟨⟨ck_yX4_walled, ini_RX4, by decide +kernel, by decide +kernel, by decide +kernel⟩, T0_3 179 (by decide +kernel) rfl, T0_3 180 (by decide +kernel) rfl⟩
set_option maxRecDepth 100000 in
theorem ck_yX1_isAtWall : Cond.code yX1_isAtWall cX1_isAtWall 4 (some .boolean) ∈ T0 := T0_3 185 (rfl) rfl
theorem ok_yX1_isAtWall : MOkV yX1_isAtWall cX1_isAtWall 4 (some .boolean) 1 := ⟨⟨ck_yX1_isAtWall, ini_RX1, by decide +kernel, by decide +kernel, by decide +kernel⟩, T0_3 183 (by decide +kernel) rfl, T0_3 184 (by decide +kernel) rfl⟩
set_option maxRecDepth 100000 in
theorem ck_yX4_stirred : Cond.code yX4_stirred cX4_stirred 3 (some .int) ∈ T0 := T0_3 189 (rfl) rfl
theorem ok_yX4_stirred : MOkV yX4_stirred cX4_stirred 3 (some .int) 0 := ⟨⟨ck_yX4_stirred, ini_RX4, by decide +kernel, by decide +kernel, by decide +kernel⟩, T0_3 187 (by decide +kernel) rfl, T0_3 188 (by decide +kernel) rfl⟩
set_option maxRecDepth 100000 in
theorem ck_yX4_kinds : Cond.code yX4_kinds cX4_kinds 7 (some .int) ∈ T0 := T0_3 193 (rfl) rfl
theorem ok_yX4_kinds : MOkV yX4_kinds cX4_kinds 7 (some .int) 3 := ⟨⟨ck_yX4_kinds, ini_RX4, by decide +kernel, by decide +kernel, by decide +kernel⟩, T0_3 191 (by decide +kernel) rfl, T0_3 192 (by decide +kernel) rfl⟩
set_option maxRecDepth 100000 in
theorem ck_yX4_goesSo : Cond.code yX4_goesSo cX4_goesSo 7 (some .boolean) ∈ T0 := T0_3 197 (rfl) rfl
theorem ok_yX4_goesSo : MOkV yX4_goesSo cX4_goesSo 7 (some .boolean) 4 := ⟨⟨ck_yX4_goesSo, ini_RX4, by decide +kernel, by decide +kernel, by decide +kernel⟩, T0_3 196 (by decide +kernel) rfl, T0_p (List.mem_of_getElem? (i := 26) (by decide +kernel)) rfl⟩
set_option maxRecDepth 100000 in
theorem ck_yX4_setting : Cond.code yX4_setting cX4_setting 8 (some .int) ∈ T0 := T0_3 201 (rfl) rfl
theorem ok_yX4_setting : MOkV yX4_setting cX4_setting 8 (some .int) 2 := ⟨⟨ck_yX4_setting, ini_RX4, by decide +kernel, by decide +kernel, by decide +kernel⟩, T0_3 199 (by decide +kernel) rfl, T0_3 200 (by decide +kernel) rfl⟩
set_option maxRecDepth 100000 in
theorem ck_yJ6_bitCount_0f7a4 : Cond.code yJ6_bitCount_0f7a4 cJ6_bitCount_0f7a4 1 (some .int) ∈ T0 := T0_3 204 (rfl) rfl
theorem ok_yJ6_bitCount_0f7a4 : MOkS yJ6_bitCount_0f7a4 cJ6_bitCount_0f7a4 1 (some .int) 1 := ⟨⟨ck_yJ6_bitCount_0f7a4, ini_RJ6, by decide +kernel, by decide +kernel, by decide +kernel⟩, T0_3 203 (by decide +kernel) rfl⟩
set_option maxRecDepth 100000 in
theorem ck_yX4_lookAheadBy : Cond.code yX4_lookAheadBy cX4_lookAheadBy 4 none ∈ T0 := T0_3 211 (rfl) rfl
theorem ok_yX4_lookAheadBy : MOkV yX4_lookAheadBy cX4_lookAheadBy 4 none 3 := ⟨⟨ck_yX4_lookAheadBy, ini_RX4, by decide +kernel, by decide +kernel, by decide +kernel⟩, T0_3 210 (by decide +kernel) rfl, T0_p (List.mem_of_getElem? (i := 27) (by decide +kernel)) rfl⟩
set_option maxRecDepth 100000 in
theorem ck_yX4_many : Cond.code yX4_many cX4_many 5 (some .int) ∈ T0 := T0_3 215 (rfl) rfl
theorem ok_yX4_many : MOkV yX4_many cX4_many 5 (some .int) 1 := ⟨⟨ck_yX4_many, ini_RX4, by decide +kernel, by decide +kernel, by decide +kernel⟩, T0_3 213 (by decide +kernel) rfl, T0_3 214 (by decide +kernel) rfl⟩
set_option maxRecDepth 100000 in
theorem ck_yX4_which : Cond.code yX4_which cX4_which 9 (some .int) ∈ T0 := T0_3 219 (rfl) rfl
theorem ok_yX4_which : MOkV yX4_which cX4_which 9 (some .int) 3 := ⟨⟨ck_yX4_which, ini_RX4, by decide +kernel, by decide +kernel, by decide +kernel⟩, T0_3 217 (by decide +kernel) rfl, T0_3 218 (by decide +kernel) rfl⟩
set_option maxRecDepth 100000 in
theorem ck_yX1_standsAsTold : Cond.code yX1_standsAsTold cX1_standsAsTold 3 (some .boolean) ∈ T0 := T0_3 223 (rfl) rfl
theorem ok_yX1_standsAsTold : MOkV yX1_standsAsTold cX1_standsAsTold 3 (some .boolean) 1 := ⟨⟨ck_yX1_standsAsTold, ini_RX1, by decide +kernel, by decide +kernel, by decide +kernel⟩, T0_3 221 (by decide +kernel) rfl, T0_3 222 (by decide +kernel) rfl⟩
set_option maxRecDepth 100000 in
theorem ck_yX4_whips : Cond.code yX4_whips cX4_whips 7 (some .int) ∈ T0 := T0_3 227 (rfl) rfl
theorem ok_yX4_whips : MOkV yX4_whips cX4_whips 7 (some .int) 2 := ⟨⟨ck_yX4_whips, ini_RX4, by decide +kernel, by decide +kernel, by decide +kernel⟩, T0_3 225 (by decide +kernel) rfl, T0_3 226 (by decide +kernel) rfl⟩
set_option maxRecDepth 100000 in
theorem ck_yX4_leastDoor : Cond.code yX4_leastDoor cX4_leastDoor 7 (some .int) ∈ T0 := T0_3 231 (rfl) rfl
theorem ok_yX4_leastDoor : MOkV yX4_leastDoor cX4_leastDoor 7 (some .int) 2 := ⟨⟨ck_yX4_leastDoor, ini_RX4, by decide +kernel, by decide +kernel, by decide +kernel⟩, T0_3 230 (by decide +kernel) rfl, T0_p (List.mem_of_getElem? (i := 28) (by decide +kernel)) rfl⟩
set_option maxRecDepth 100000 in
theorem ck_yX4_turned : Cond.code yX4_turned cX4_turned 2 (some .int) ∈ T0 := T0_3 235 (rfl) rfl
theorem ok_yX4_turned : MOkV yX4_turned cX4_turned 2 (some .int) 1 := ⟨⟨ck_yX4_turned, ini_RX4, by decide +kernel, by decide +kernel, by decide +kernel⟩, T0_3 234 (by decide +kernel) rfl, T0_p (List.mem_of_getElem? (i := 29) (by decide +kernel)) rfl⟩
set_option maxRecDepth 100000 in
theorem ck_yX4_answer : Cond.code yX4_answer cX4_answer 3 (some .int) ∈ T0 := T0_3 239 (rfl) rfl
theorem ok_yX4_answer : MOkV yX4_answer cX4_answer 3 (some .int) 2 := ⟨⟨ck_yX4_answer, ini_RX4, by decide +kernel, by decide +kernel, by decide +kernel⟩, T0_3 237 (by decide +kernel) rfl, T0_3 238 (by decide +kernel) rfl⟩
set_option maxRecDepth 100000 in
theorem ck_yX4_doorFor : Cond.code yX4_doorFor cX4_doorFor 6 (some .int) ∈ T0 := T0_4 3 (rfl) rfl
theorem ok_yX4_doorFor : MOkV yX4_doorFor cX4_doorFor 6 (some .int) 1 := ⟨⟨ck_yX4_doorFor, ini_RX4, by decide +kernel, by decide +kernel, by decide +kernel⟩, T0_4 1 (by decide +kernel) rfl, T0_4 2 (by decide +kernel) rfl⟩
set_option maxRecDepth 100000 in
theorem ck_yX4_beamFor : Cond.code yX4_beamFor cX4_beamFor 6 (some .int) ∈ T0 := T0_4 7 (rfl) rfl
theorem ok_yX4_beamFor : MOkV yX4_beamFor cX4_beamFor 6 (some .int) 1 := ⟨⟨ck_yX4_beamFor, ini_RX4, by decide +kernel, by decide +kernel, by decide +kernel⟩, T0_4 5 (by decide +kernel) rfl, T0_4 6 (by decide +kernel) rfl⟩
set_option maxRecDepth 100000 in
theorem ck_yX4_warmthFor : Cond.code yX4_warmthFor cX4_warmthFor 3 (some .int) ∈ T0 := T0_4 11 (rfl) rfl
theorem ok_yX4_warmthFor : MOkV yX4_warmthFor cX4_warmthFor 3 (some .int) 1 := ⟨⟨ck_yX4_warmthFor, ini_RX4, by decide +kernel, by decide +kernel, by decide +kernel⟩, T0_4 9 (by decide +kernel) rfl, T0_4 10 (by decide +kernel) rfl⟩
set_option maxRecDepth 100000 in
theorem ck_yX4_bestCell : Cond.code yX4_bestCell cX4_bestCell 10 (some .int) ∈ T0 := T0_4 15 (rfl) rfl
theorem ok_yX4_bestCell : MOkV yX4_bestCell cX4_bestCell 10 (some .int) 2 := ⟨⟨ck_yX4_bestCell, ini_RX4, by decide +kernel, by decide +kernel, by decide +kernel⟩, T0_4 13 (by decide +kernel) rfl, T0_4 14 (by decide +kernel) rfl⟩
set_option maxRecDepth 100000 in
theorem ck_yX4_odds : Cond.code yX4_odds cX4_odds 3 (some .int) ∈ T0 := T0_4 19 (rfl) rfl
theorem ok_yX4_odds : MOkV yX4_odds cX4_odds 3 (some .int) 2 := ⟨⟨ck_yX4_odds, ini_RX4, by decide +kernel, by decide +kernel, by decide +kernel⟩, T0_4 17 (by decide +kernel) rfl, T0_4 18 (by decide +kernel) rfl⟩
set_option maxRecDepth 100000 in
theorem ck_yX0_reckon : Cond.code yX0_reckon cX0_reckon 4 none ∈ T0 := T0_4 23 (rfl) rfl
theorem ok_yX0_reckon : MOkV yX0_reckon cX0_reckon 4 none 2 := ⟨⟨ck_yX0_reckon, ini_RX0, by decide +kernel, by decide +kernel, by decide +kernel⟩, T0_4 21 (by decide +kernel) rfl, T0_4 22 (by decide +kernel) rfl⟩
set_option maxRecDepth 100000 in
theorem ck_yX0_branch : Cond.code yX0_branch cX0_branch 10 none ∈ T0 := T0_4 27 (rfl) rfl
theorem ok_yX0_branch : MOkS yX0_branch cX0_branch 10 none 4 := ⟨⟨ck_yX0_branch, ini_RX0, by decide +kernel, by decide +kernel, by decide +kernel⟩, T0_4 26 (by decide +kernel) rfl⟩
set_option maxRecDepth 100000 in
theorem ck_yX0_tally : Cond.code yX0_tally cX0_tally 5 none ∈ T0 := T0_4 31 (rfl) rfl
theorem ok_yX0_tally : MOkV yX0_tally cX0_tally 5 none 2 := ⟨⟨ck_yX0_tally, ini_RX0, by decide +kernel, by decide +kernel, by decide +kernel⟩, T0_4 30 (by decide +kernel) rfl, T0_p (List.mem_of_getElem? (i := 30) (by decide +kernel)) rfl⟩
set_option maxRecDepth 100000 in
theorem ck_yX0_waysOf : Cond.code yX0_waysOf cX0_waysOf 5 (some .long) ∈ T0 := T0_4 36 (rfl) rfl
theorem ok_yX0_waysOf : MOkS yX0_waysOf cX0_waysOf 5 (some .long) 2 := ⟨⟨ck_yX0_waysOf, ini_RX0, by decide +kernel, by decide +kernel, by decide +kernel⟩, T0_4 35 (by decide +kernel) rfl⟩
set_option maxRecDepth 100000 in
theorem ck_yX0_carriedOfMillion : Cond.code yX0_carriedOfMillion cX0_carriedOfMillion 1 (some .int) ∈ T0 := T0_4 42 (rfl) rfl
theorem ok_yX0_carriedOfMillion : MOkV yX0_carriedOfMillion cX0_carriedOfMillion 1 (some .int) 0 := ⟨⟨ck_yX0_carriedOfMillion, ini_RX0, by decide +kernel, by decide +kernel, by decide +kernel⟩, T0_4 40 (by decide +kernel) rfl, T0_4 41 (by decide +kernel) rfl⟩
set_option maxRecDepth 100000 in
theorem ck_yX0_thousandfoldMean : Cond.code yX0_thousandfoldMean cX0_thousandfoldMean 1 (some .int) ∈ T0 := T0_4 47 (rfl) rfl
theorem ok_yX0_thousandfoldMean : MOkV yX0_thousandfoldMean cX0_thousandfoldMean 1 (some .int) 0 := ⟨⟨ck_yX0_thousandfoldMean, ini_RX0, by decide +kernel, by decide +kernel, by decide +kernel⟩, T0_4 45 (by decide +kernel) rfl, T0_4 46 (by decide +kernel) rfl⟩
set_option maxRecDepth 100000 in
theorem ck_yX4_judge : Cond.code yX4_judge cX4_judge 4 (some .int) ∈ T0 := T0_4 52 (rfl) rfl
theorem ok_yX4_judge : MOkV yX4_judge cX4_judge 4 (some .int) 2 := ⟨⟨ck_yX4_judge, ini_RX4, by decide +kernel, by decide +kernel, by decide +kernel⟩, T0_4 50 (by decide +kernel) rfl, T0_4 51 (by decide +kernel) rfl⟩
set_option maxRecDepth 100000 in
theorem ck_yX4_wrongAt : Cond.code yX4_wrongAt cX4_wrongAt 5 (some .int) ∈ T0 := T0_4 56 (rfl) rfl
theorem ok_yX4_wrongAt : MOkV yX4_wrongAt cX4_wrongAt 5 (some .int) 2 := ⟨⟨ck_yX4_wrongAt, ini_RX4, by decide +kernel, by decide +kernel, by decide +kernel⟩, T0_4 55 (by decide +kernel) rfl, T0_p (List.mem_of_getElem? (i := 31) (by decide +kernel)) rfl⟩
set_option maxRecDepth 100000 in
theorem ck_yX4_isSetting : Cond.code yX4_isSetting cX4_isSetting 2 (some .boolean) ∈ T0 := T0_4 59 (rfl) rfl
theorem ok_yX4_isSetting : MOkS yX4_isSetting cX4_isSetting 2 (some .boolean) 1 := ⟨⟨ck_yX4_isSetting, ini_RX4, by decide +kernel, by decide +kernel, by decide +kernel⟩, T0_4 58 (by decide +kernel) rfl⟩
set_option maxRecDepth 100000 in
theorem ck_yX4_behind : Cond.code yX4_behind cX4_behind 7 (some .int) ∈ T0 := T0_4 66 (rfl) rfl
theorem ok_yX4_behind : MOkV yX4_behind cX4_behind 7 (some .int) 3 := ⟨⟨ck_yX4_behind, ini_RX4, by decide +kernel, by decide +kernel, by decide +kernel⟩, T0_4 64 (by decide +kernel) rfl, T0_4 65 (by decide +kernel) rfl⟩
set_option maxRecDepth 100000 in
theorem ck_yX4_sessionRefusal : Cond.code yX4_sessionRefusal cX4_sessionRefusal 5 (some .int) ∈ T0 := T0_4 70 (rfl) rfl
theorem ok_yX4_sessionRefusal : MOkV yX4_sessionRefusal cX4_sessionRefusal 5 (some .int) 3 := ⟨⟨ck_yX4_sessionRefusal, ini_RX4, by decide +kernel, by decide +kernel, by decide +kernel⟩, T0_4 69 (by decide +kernel) rfl, T0_p (List.mem_of_getElem? (i := 32) (by decide +kernel)) rfl⟩
set_option maxRecDepth 100000 in
theorem ck_yX1_goThrough : Cond.code yX1_goThrough cX1_goThrough 4 none ∈ T0 := T0_4 74 (rfl) rfl
theorem ok_yX1_goThrough : MOkV yX1_goThrough cX1_goThrough 4 none 2 := ⟨⟨ck_yX1_goThrough, ini_RX1, by decide +kernel, by decide +kernel, by decide +kernel⟩, T0_4 72 (by decide +kernel) rfl, T0_4 73 (by decide +kernel) rfl⟩
set_option maxRecDepth 100000 in
theorem ck_yX4_done : Cond.code yX4_done cX4_done 4 (some .int) ∈ T0 := T0_4 80 (rfl) rfl
theorem ok_yX4_done : MOkV yX4_done cX4_done 4 (some .int) 2 := ⟨⟨ck_yX4_done, ini_RX4, by decide +kernel, by decide +kernel, by decide +kernel⟩, T0_4 78 (by decide +kernel) rfl, T0_4 79 (by decide +kernel) rfl⟩
set_option maxRecDepth 100000 in
theorem ck_yX4_steps : Cond.code yX4_steps cX4_steps 2 (some .int) ∈ T0 := T0_4 84 (rfl) rfl
theorem ok_yX4_steps : MOkV yX4_steps cX4_steps 2 (some .int) 1 := ⟨⟨ck_yX4_steps, ini_RX4, by decide +kernel, by decide +kernel, by decide +kernel⟩, T0_4 82 (by decide +kernel) rfl, T0_4 83 (by decide +kernel) rfl⟩
set_option maxRecDepth 100000 in
theorem ck_yX4_hours : Cond.code yX4_hours cX4_hours 4 (some .int) ∈ T0 := T0_4 88 (rfl) rfl
theorem ok_yX4_hours : MOkV yX4_hours cX4_hours 4 (some .int) 1 := ⟨⟨ck_yX4_hours, ini_RX4, by decide +kernel, by decide +kernel, by decide +kernel⟩, T0_4 86 (by decide +kernel) rfl, T0_4 87 (by decide +kernel) rfl⟩
set_option maxRecDepth 100000 in
theorem ck_yX1_drawDoors : Cond.code yX1_drawDoors cX1_drawDoors 2 none ∈ T0 := T0_4 92 (rfl) rfl
theorem ok_yX1_drawDoors : MOkV yX1_drawDoors cX1_drawDoors 2 none 0 := ⟨⟨ck_yX1_drawDoors, ini_RX1, by decide +kernel, by decide +kernel, by decide +kernel⟩, T0_4 90 (by decide +kernel) rfl, T0_4 91 (by decide +kernel) rfl⟩
set_option maxRecDepth 100000 in
theorem ck_yX1_draw : Cond.code yX1_draw cX1_draw 1 (some .int) ∈ T0 := T0_4 96 (rfl) rfl
theorem ok_yX1_draw : MOkV yX1_draw cX1_draw 1 (some .int) 0 := ⟨⟨ck_yX1_draw, ini_RX1, by decide +kernel, by decide +kernel, by decide +kernel⟩, T0_4 95 (by decide +kernel) rfl, T0_p (List.mem_of_getElem? (i := 33) (by decide +kernel)) rfl⟩
set_option maxRecDepth 100000 in
theorem ck_yX4_seed : Cond.code yX4_seed cX4_seed 3 (some .int) ∈ T0 := T0_4 102 (rfl) rfl
theorem ok_yX4_seed : MOkV yX4_seed cX4_seed 3 (some .int) 1 := ⟨⟨ck_yX4_seed, ini_RX4, by decide +kernel, by decide +kernel, by decide +kernel⟩, T0_4 100 (by decide +kernel) rfl, T0_4 101 (by decide +kernel) rfl⟩
set_option maxRecDepth 100000 in
theorem ck_yX4_image : Cond.code yX4_image cX4_image 1 (some .int) ∈ T0 := T0_4 106 (rfl) rfl
theorem ok_yX4_image : MOkV yX4_image cX4_image 1 (some .int) 0 := ⟨⟨ck_yX4_image, ini_RX4, by decide +kernel, by decide +kernel, by decide +kernel⟩, T0_4 104 (by decide +kernel) rfl, T0_4 105 (by decide +kernel) rfl⟩
set_option maxRecDepth 100000 in
theorem ck_yX4_back : Cond.code yX4_back cX4_back 2 (some .int) ∈ T0 := T0_4 110 (rfl) rfl
theorem ok_yX4_back : MOkV yX4_back cX4_back 2 (some .int) 0 := ⟨⟨ck_yX4_back, ini_RX4, by decide +kernel, by decide +kernel, by decide +kernel⟩, T0_4 108 (by decide +kernel) rfl, T0_4 109 (by decide +kernel) rfl⟩
set_option maxRecDepth 100000 in
theorem ck_yX4_status : Cond.code yX4_status cX4_status 2 (some .int) ∈ T0 := T0_4 114 (rfl) rfl
theorem ok_yX4_status : MOkV yX4_status cX4_status 2 (some .int) 1 := ⟨⟨ck_yX4_status, ini_RX4, by decide +kernel, by decide +kernel, by decide +kernel⟩, T0_4 112 (by decide +kernel) rfl, T0_4 113 (by decide +kernel) rfl⟩
set_option maxRecDepth 100000 in
theorem ck_yX4_filledShelves : Cond.code yX4_filledShelves cX4_filledShelves 3 (some .int) ∈ T0 := T0_4 118 (rfl) rfl
theorem ok_yX4_filledShelves : MOkV yX4_filledShelves cX4_filledShelves 3 (some .int) 0 := ⟨⟨ck_yX4_filledShelves, ini_RX4, by decide +kernel, by decide +kernel, by decide +kernel⟩, T0_4 117 (by decide +kernel) rfl, T0_p (List.mem_of_getElem? (i := 34) (by decide +kernel)) rfl⟩
set_option maxRecDepth 100000 in
theorem ck_yX4_refused : Cond.code yX4_refused cX4_refused 3 (some .int) ∈ T0 := T0_4 122 (rfl) rfl
theorem ok_yX4_refused : MOkV yX4_refused cX4_refused 3 (some .int) 1 := ⟨⟨ck_yX4_refused, ini_RX4, by decide +kernel, by decide +kernel, by decide +kernel⟩, T0_4 121 (by decide +kernel) rfl, T0_p (List.mem_of_getElem? (i := 35) (by decide +kernel)) rfl⟩
set_option maxRecDepth 100000 in
theorem ck_yX5_init : Cond.code yX5_init cX5_init 2 none ∈ T0 := T0_4 127 (rfl) rfl
set_option maxRecDepth 100000 in
theorem ck_yX5_row : Cond.code yX5_row cX5_row 5 (some .int) ∈ T0 := T0_4 214 (rfl) rfl
theorem ok_yX5_row : MOkV yX5_row cX5_row 5 (some .int) 3 := ⟨⟨ck_yX5_row, ini_RX5, by decide +kernel, by decide +kernel, by decide +kernel⟩, T0_4 212 (by decide +kernel) rfl, T0_4 213 (by decide +kernel) rfl⟩
set_option maxRecDepth 100000 in
theorem ck_yX5_isShelf : Cond.code yX5_isShelf cX5_isShelf 1 (some .boolean) ∈ T0 := T0_4 217 (rfl) rfl
theorem ok_yX5_isShelf : MOkS yX5_isShelf cX5_isShelf 1 (some .boolean) 1 := ⟨⟨ck_yX5_isShelf, ini_RX5, by decide +kernel, by decide +kernel, by decide +kernel⟩, T0_4 216 (by decide +kernel) rfl⟩
set_option maxRecDepth 100000 in
theorem ck_yX5_within : Cond.code yX5_within cX5_within 3 (some .boolean) ∈ T0 := T0_4 220 (rfl) rfl
theorem ok_yX5_within : MOkS yX5_within cX5_within 3 (some .boolean) 3 := ⟨⟨ck_yX5_within, ini_RX5, by decide +kernel, by decide +kernel, by decide +kernel⟩, T0_4 219 (by decide +kernel) rfl⟩
set_option maxRecDepth 100000 in
theorem ck_yX5_no : Cond.code yX5_no cX5_no 2 (some .int) ∈ T0 := T0_4 224 (rfl) rfl
theorem ok_yX5_no : MOkV yX5_no cX5_no 2 (some .int) 1 := ⟨⟨ck_yX5_no, ini_RX5, by decide +kernel, by decide +kernel, by decide +kernel⟩, T0_4 223 (by decide +kernel) rfl, T0_p (List.mem_of_getElem? (i := 36) (by decide +kernel)) rfl⟩
set_option maxRecDepth 100000 in
theorem ck_yX5_set : Cond.code yX5_set cX5_set 5 (some .int) ∈ T0 := T0_4 228 (rfl) rfl
theorem ok_yX5_set : MOkV yX5_set cX5_set 5 (some .int) 3 := ⟨⟨ck_yX5_set, ini_RX5, by decide +kernel, by decide +kernel, by decide +kernel⟩, T0_4 226 (by decide +kernel) rfl, T0_4 227 (by decide +kernel) rfl⟩
set_option maxRecDepth 100000 in
theorem ck_yX5_isRow : Cond.code yX5_isRow cX5_isRow 2 (some .boolean) ∈ T0 := T0_4 232 (rfl) rfl
theorem ok_yX5_isRow : MOkV yX5_isRow cX5_isRow 2 (some .boolean) 1 := ⟨⟨ck_yX5_isRow, ini_RX5, by decide +kernel, by decide +kernel, by decide +kernel⟩, T0_4 231 (by decide +kernel) rfl, T0_p (List.mem_of_getElem? (i := 37) (by decide +kernel)) rfl⟩
set_option maxRecDepth 100000 in
theorem ck_yX5_noRow : Cond.code yX5_noRow cX5_noRow 2 (some .int) ∈ T0 := T0_4 236 (rfl) rfl
theorem ok_yX5_noRow : MOkV yX5_noRow cX5_noRow 2 (some .int) 1 := ⟨⟨ck_yX5_noRow, ini_RX5, by decide +kernel, by decide +kernel, by decide +kernel⟩, T0_4 235 (by decide +kernel) rfl, T0_p (List.mem_of_getElem? (i := 38) (by decide +kernel)) rfl⟩
set_option maxRecDepth 100000 in
theorem ck_yX5_kept : Cond.code yX5_kept cX5_kept 3 (some .long) ∈ T0 := T0_4 239 (rfl) rfl
theorem ok_yX5_kept : MOkS yX5_kept cX5_kept 3 (some .long) 2 := ⟨⟨ck_yX5_kept, ini_RX5, by decide +kernel, by decide +kernel, by decide +kernel⟩, T0_4 238 (by decide +kernel) rfl⟩
set_option maxRecDepth 100000 in
theorem ck_yX5_copy : Cond.code yX5_copy cX5_copy 7 (some .int) ∈ T0 := T0_5 3 (rfl) rfl
theorem ok_yX5_copy : MOkV yX5_copy cX5_copy 7 (some .int) 5 := ⟨⟨ck_yX5_copy, ini_RX5, by decide +kernel, by decide +kernel, by decide +kernel⟩, T0_5 1 (by decide +kernel) rfl, T0_5 2 (by decide +kernel) rfl⟩
set_option maxRecDepth 100000 in
theorem ck_yX5_element : Cond.code yX5_element cX5_element 3 (some .long) ∈ T0 := T0_5 7 (rfl) rfl
theorem ok_yX5_element : MOkV yX5_element cX5_element 3 (some .long) 2 := ⟨⟨ck_yX5_element, ini_RX5, by decide +kernel, by decide +kernel, by decide +kernel⟩, T0_5 5 (by decide +kernel) rfl, T0_5 6 (by decide +kernel) rfl⟩
set_option maxRecDepth 100000 in
theorem ck_yX5_holds : Cond.code yX5_holds cX5_holds 2 (some .int) ∈ T0 := T0_5 11 (rfl) rfl
theorem ok_yX5_holds : MOkV yX5_holds cX5_holds 2 (some .int) 1 := ⟨⟨ck_yX5_holds, ini_RX5, by decide +kernel, by decide +kernel, by decide +kernel⟩, T0_5 9 (by decide +kernel) rfl, T0_5 10 (by decide +kernel) rfl⟩
set_option maxRecDepth 100000 in
theorem ck_yX5_show : Cond.code yX5_show cX5_show 3 (some .int) ∈ T0 := T0_5 15 (rfl) rfl
theorem ok_yX5_show : MOkV yX5_show cX5_show 3 (some .int) 2 := ⟨⟨ck_yX5_show, ini_RX5, by decide +kernel, by decide +kernel, by decide +kernel⟩, T0_5 13 (by decide +kernel) rfl, T0_5 14 (by decide +kernel) rfl⟩
set_option maxRecDepth 100000 in
theorem ck_yX5_isMote : Cond.code yX5_isMote cX5_isMote 2 (some .boolean) ∈ T0 := T0_5 19 (rfl) rfl
theorem ok_yX5_isMote : MOkV yX5_isMote cX5_isMote 2 (some .boolean) 1 := ⟨⟨ck_yX5_isMote, ini_RX5, by decide +kernel, by decide +kernel, by decide +kernel⟩, T0_5 18 (by decide +kernel) rfl, T0_p (List.mem_of_getElem? (i := 39) (by decide +kernel)) rfl⟩
set_option maxRecDepth 100000 in
theorem ck_yX5_says : Cond.code yX5_says cX5_says 4 (some .int) ∈ T0 := T0_5 23 (rfl) rfl
theorem ok_yX5_says : MOkV yX5_says cX5_says 4 (some .int) 2 := ⟨⟨ck_yX5_says, ini_RX5, by decide +kernel, by decide +kernel, by decide +kernel⟩, T0_5 21 (by decide +kernel) rfl, T0_5 22 (by decide +kernel) rfl⟩
set_option maxRecDepth 100000 in
theorem ck_yX5_isUnder : Cond.code yX5_isUnder cX5_isUnder 2 (some .boolean) ∈ T0 := T0_5 26 (rfl) rfl
theorem ok_yX5_isUnder : MOkS yX5_isUnder cX5_isUnder 2 (some .boolean) 2 := ⟨⟨ck_yX5_isUnder, ini_RX5, by decide +kernel, by decide +kernel, by decide +kernel⟩, T0_5 25 (by decide +kernel) rfl⟩
set_option maxRecDepth 100000 in
theorem ck_yX5_goes : Cond.code yX5_goes cX5_goes 3 (some .int) ∈ T0 := T0_5 30 (rfl) rfl
theorem ok_yX5_goes : MOkV yX5_goes cX5_goes 3 (some .int) 2 := ⟨⟨ck_yX5_goes, ini_RX5, by decide +kernel, by decide +kernel, by decide +kernel⟩, T0_5 29 (by decide +kernel) rfl, T0_p (List.mem_of_getElem? (i := 40) (by decide +kernel)) rfl⟩
set_option maxRecDepth 100000 in
theorem ck_yX5_asHeavy : Cond.code yX5_asHeavy cX5_asHeavy 2 (some .int) ∈ T0 := T0_5 34 (rfl) rfl
theorem ok_yX5_asHeavy : MOkV yX5_asHeavy cX5_asHeavy 2 (some .int) 1 := ⟨⟨ck_yX5_asHeavy, ini_RX5, by decide +kernel, by decide +kernel, by decide +kernel⟩, T0_5 33 (by decide +kernel) rfl, T0_p (List.mem_of_getElem? (i := 41) (by decide +kernel)) rfl⟩
set_option maxRecDepth 100000 in
theorem ck_yX5_byAll : Cond.code yX5_byAll cX5_byAll 3 (some .int) ∈ T0 := T0_5 38 (rfl) rfl
theorem ok_yX5_byAll : MOkV yX5_byAll cX5_byAll 3 (some .int) 1 := ⟨⟨ck_yX5_byAll, ini_RX5, by decide +kernel, by decide +kernel, by decide +kernel⟩, T0_5 37 (by decide +kernel) rfl, T0_p (List.mem_of_getElem? (i := 42) (by decide +kernel)) rfl⟩
set_option maxRecDepth 100000 in
theorem ck_yX5_byDoors : Cond.code yX5_byDoors cX5_byDoors 3 (some .int) ∈ T0 := T0_5 42 (rfl) rfl
theorem ok_yX5_byDoors : MOkV yX5_byDoors cX5_byDoors 3 (some .int) 1 := ⟨⟨ck_yX5_byDoors, ini_RX5, by decide +kernel, by decide +kernel, by decide +kernel⟩, T0_5 41 (by decide +kernel) rfl, T0_p (List.mem_of_getElem? (i := 43) (by decide +kernel)) rfl⟩
set_option maxRecDepth 100000 in
theorem ck_yX5_pushed : Cond.code yX5_pushed cX5_pushed 6 (some .int) ∈ T0 := T0_5 46 (rfl) rfl
theorem ok_yX5_pushed : MOkV yX5_pushed cX5_pushed 6 (some .int) 3 := ⟨⟨ck_yX5_pushed, ini_RX5, by decide +kernel, by decide +kernel, by decide +kernel⟩, T0_5 45 (by decide +kernel) rfl, T0_p (List.mem_of_getElem? (i := 44) (by decide +kernel)) rfl⟩
set_option maxRecDepth 100000 in
theorem ck_yX5_isLit : Cond.code yX5_isLit cX5_isLit 3 (some .boolean) ∈ T0 := T0_5 50 (rfl) rfl
theorem ok_yX5_isLit : MOkV yX5_isLit cX5_isLit 3 (some .boolean) 2 := ⟨⟨ck_yX5_isLit, ini_RX5, by decide +kernel, by decide +kernel, by decide +kernel⟩, T0_5 49 (by decide +kernel) rfl, T0_p (List.mem_of_getElem? (i := 45) (by decide +kernel)) rfl⟩
set_option maxRecDepth 100000 in
theorem ck_yX5_beamIn : Cond.code yX5_beamIn cX5_beamIn 3 (some .int) ∈ T0 := T0_5 54 (rfl) rfl
theorem ok_yX5_beamIn : MOkV yX5_beamIn cX5_beamIn 3 (some .int) 2 := ⟨⟨ck_yX5_beamIn, ini_RX5, by decide +kernel, by decide +kernel, by decide +kernel⟩, T0_5 53 (by decide +kernel) rfl, T0_p (List.mem_of_getElem? (i := 46) (by decide +kernel)) rfl⟩
set_option maxRecDepth 100000 in
theorem ck_yX5_asMote : Cond.code yX5_asMote cX5_asMote 3 (some .int) ∈ T0 := T0_5 58 (rfl) rfl
theorem ok_yX5_asMote : MOkV yX5_asMote cX5_asMote 3 (some .int) 1 := ⟨⟨ck_yX5_asMote, ini_RX5, by decide +kernel, by decide +kernel, by decide +kernel⟩, T0_5 57 (by decide +kernel) rfl, T0_p (List.mem_of_getElem? (i := 47) (by decide +kernel)) rfl⟩
set_option maxRecDepth 100000 in
theorem ck_yX5_asSpark : Cond.code yX5_asSpark cX5_asSpark 4 (some .int) ∈ T0 := T0_5 62 (rfl) rfl
theorem ok_yX5_asSpark : MOkV yX5_asSpark cX5_asSpark 4 (some .int) 1 := ⟨⟨ck_yX5_asSpark, ini_RX5, by decide +kernel, by decide +kernel, by decide +kernel⟩, T0_5 61 (by decide +kernel) rfl, T0_p (List.mem_of_getElem? (i := 48) (by decide +kernel)) rfl⟩
set_option maxRecDepth 100000 in
theorem ck_yX5_side : Cond.code yX5_side cX5_side 3 (some .int) ∈ T0 := T0_5 66 (rfl) rfl
theorem ok_yX5_side : MOkV yX5_side cX5_side 3 (some .int) 1 := ⟨⟨ck_yX5_side, ini_RX5, by decide +kernel, by decide +kernel, by decide +kernel⟩, T0_5 64 (by decide +kernel) rfl, T0_5 65 (by decide +kernel) rfl⟩
set_option maxRecDepth 100000 in
theorem ck_yX5_mote : Cond.code yX5_mote cX5_mote 4 (some .int) ∈ T0 := T0_5 70 (rfl) rfl
theorem ok_yX5_mote : MOkV yX5_mote cX5_mote 4 (some .int) 3 := ⟨⟨ck_yX5_mote, ini_RX5, by decide +kernel, by decide +kernel, by decide +kernel⟩, T0_5 68 (by decide +kernel) rfl, T0_5 69 (by decide +kernel) rfl⟩
set_option maxRecDepth 100000 in
theorem ck_yX5_isCell : Cond.code yX5_isCell cX5_isCell 2 (some .boolean) ∈ T0 := T0_5 74 (rfl) rfl
theorem ok_yX5_isCell : MOkV yX5_isCell cX5_isCell 2 (some .boolean) 1 := ⟨⟨ck_yX5_isCell, ini_RX5, by decide +kernel, by decide +kernel, by decide +kernel⟩, T0_5 73 (by decide +kernel) rfl, T0_p (List.mem_of_getElem? (i := 49) (by decide +kernel)) rfl⟩
set_option maxRecDepth 100000 in
theorem ck_yX5_newMote : Cond.code yX5_newMote cX5_newMote 4 (some .int) ∈ T0 := T0_5 78 (rfl) rfl
theorem ok_yX5_newMote : MOkV yX5_newMote cX5_newMote 4 (some .int) 3 := ⟨⟨ck_yX5_newMote, ini_RX5, by decide +kernel, by decide +kernel, by decide +kernel⟩, T0_5 77 (by decide +kernel) rfl, T0_p (List.mem_of_getElem? (i := 50) (by decide +kernel)) rfl⟩
set_option maxRecDepth 100000 in
theorem ck_yX5_put : Cond.code yX5_put cX5_put 4 (some .int) ∈ T0 := T0_5 82 (rfl) rfl
theorem ok_yX5_put : MOkV yX5_put cX5_put 4 (some .int) 2 := ⟨⟨ck_yX5_put, ini_RX5, by decide +kernel, by decide +kernel, by decide +kernel⟩, T0_5 80 (by decide +kernel) rfl, T0_5 81 (by decide +kernel) rfl⟩
set_option maxRecDepth 100000 in
theorem ck_yX5_door : Cond.code yX5_door cX5_door 4 (some .int) ∈ T0 := T0_5 86 (rfl) rfl
theorem ok_yX5_door : MOkV yX5_door cX5_door 4 (some .int) 2 := ⟨⟨ck_yX5_door, ini_RX5, by decide +kernel, by decide +kernel, by decide +kernel⟩, T0_5 84 (by decide +kernel) rfl, T0_5 85 (by decide +kernel) rfl⟩
set_option maxRecDepth 100000 in
theorem ck_yX5_opens : Cond.code yX5_opens cX5_opens 3 none ∈ T0 := T0_5 90 (rfl) rfl
theorem ok_yX5_opens : MOkV yX5_opens cX5_opens 3 none 2 := ⟨⟨ck_yX5_opens, ini_RX5, by decide +kernel, by decide +kernel, by decide +kernel⟩, T0_5 89 (by decide +kernel) rfl, T0_p (List.mem_of_getElem? (i := 51) (by decide +kernel)) rfl⟩
set_option maxRecDepth 100000 in
theorem ck_yX5_tell : Cond.code yX5_tell cX5_tell 4 (some .int) ∈ T0 := T0_5 94 (rfl) rfl
theorem ok_yX5_tell : MOkV yX5_tell cX5_tell 4 (some .int) 2 := ⟨⟨ck_yX5_tell, ini_RX5, by decide +kernel, by decide +kernel, by decide +kernel⟩, T0_5 92 (by decide +kernel) rfl, T0_5 93 (by decide +kernel) rfl⟩
set_option maxRecDepth 100000 in
theorem ck_yX5_highest : Cond.code yX5_highest cX5_highest 1 (some .int) ∈ T0 := T0_5 97 (rfl) rfl
theorem ok_yX5_highest : MOkS yX5_highest cX5_highest 1 (some .int) 1 := ⟨⟨ck_yX5_highest, ini_RX5, by decide +kernel, by decide +kernel, by decide +kernel⟩, T0_5 96 (by decide +kernel) rfl⟩
set_option maxRecDepth 100000 in
theorem ck_yX5_feed : Cond.code yX5_feed cX5_feed 2 (some .int) ∈ T0 := T0_5 101 (rfl) rfl
theorem ok_yX5_feed : MOkV yX5_feed cX5_feed 2 (some .int) 1 := ⟨⟨ck_yX5_feed, ini_RX5, by decide +kernel, by decide +kernel, by decide +kernel⟩, T0_5 99 (by decide +kernel) rfl, T0_5 100 (by decide +kernel) rfl⟩
set_option maxRecDepth 100000 in
theorem ck_yX5_wipe : Cond.code yX5_wipe cX5_wipe 2 (some .int) ∈ T0 := T0_5 105 (rfl) rfl
theorem ok_yX5_wipe : MOkV yX5_wipe cX5_wipe 2 (some .int) 0 := ⟨⟨ck_yX5_wipe, ini_RX5, by decide +kernel, by decide +kernel, by decide +kernel⟩, T0_5 103 (by decide +kernel) rfl, T0_5 104 (by decide +kernel) rfl⟩
set_option maxRecDepth 100000 in
theorem ck_yX5_hall : Cond.code yX5_hall cX5_hall 3 (some .int) ∈ T0 := T0_5 109 (rfl) rfl
theorem ok_yX5_hall : MOkV yX5_hall cX5_hall 3 (some .int) 0 := ⟨⟨ck_yX5_hall, ini_RX5, by decide +kernel, by decide +kernel, by decide +kernel⟩, T0_5 107 (by decide +kernel) rfl, T0_5 108 (by decide +kernel) rfl⟩
set_option maxRecDepth 100000 in
theorem ck_yX5_keep : Cond.code yX5_keep cX5_keep 3 none ∈ T0 := T0_5 113 (rfl) rfl
theorem ok_yX5_keep : MOkV yX5_keep cX5_keep 3 none 1 := ⟨⟨ck_yX5_keep, ini_RX5, by decide +kernel, by decide +kernel, by decide +kernel⟩, T0_5 112 (by decide +kernel) rfl, T0_p (List.mem_of_getElem? (i := 52) (by decide +kernel)) rfl⟩
set_option maxRecDepth 100000 in
theorem ck_yX5_next : Cond.code yX5_next cX5_next 2 none ∈ T0 := T0_5 117 (rfl) rfl
theorem ok_yX5_next : MOkV yX5_next cX5_next 2 none 0 := ⟨⟨ck_yX5_next, ini_RX5, by decide +kernel, by decide +kernel, by decide +kernel⟩, T0_5 116 (by decide +kernel) rfl, T0_p (List.mem_of_getElem? (i := 53) (by decide +kernel)) rfl⟩
set_option maxRecDepth 100000 in
theorem ck_yX5_isLetter : Cond.code yX5_isLetter cX5_isLetter 1 (some .boolean) ∈ T0 := T0_5 120 (rfl) rfl
theorem ok_yX5_isLetter : MOkS yX5_isLetter cX5_isLetter 1 (some .boolean) 1 := ⟨⟨ck_yX5_isLetter, ini_RX5, by decide +kernel, by decide +kernel, by decide +kernel⟩, T0_5 119 (by decide +kernel) rfl⟩
set_option maxRecDepth 100000 in
theorem ck_yX5_isDigit : Cond.code yX5_isDigit cX5_isDigit 1 (some .boolean) ∈ T0 := T0_5 123 (rfl) rfl
theorem ok_yX5_isDigit : MOkS yX5_isDigit cX5_isDigit 1 (some .boolean) 1 := ⟨⟨ck_yX5_isDigit, ini_RX5, by decide +kernel, by decide +kernel, by decide +kernel⟩, T0_5 122 (by decide +kernel) rfl⟩
set_option maxRecDepth 100000 in
theorem ck_yX5_statement : Cond.code yX5_statement cX5_statement 4 (some .boolean) ∈ T0 := T0_5 127 (rfl) rfl
theorem ok_yX5_statement : MOkV yX5_statement cX5_statement 4 (some .boolean) 0 := ⟨⟨ck_yX5_statement, ini_RX5, by decide +kernel, by decide +kernel, by decide +kernel⟩, T0_5 126 (by decide +kernel) rfl, T0_p (List.mem_of_getElem? (i := 54) (by decide +kernel)) rfl⟩
set_option maxRecDepth 100000 in
theorem ck_yX5_isWord : Cond.code yX5_isWord cX5_isWord 3 (some .boolean) ∈ T0 := T0_5 132 (rfl) rfl
theorem ok_yX5_isWord : MOkV yX5_isWord cX5_isWord 3 (some .boolean) 1 := ⟨⟨ck_yX5_isWord, ini_RX5, by decide +kernel, by decide +kernel, by decide +kernel⟩, T0_5 131 (by decide +kernel) rfl, T0_p (List.mem_of_getElem? (i := 55) (by decide +kernel)) rfl⟩
set_option maxRecDepth 100000 in
theorem ck_yX5_number : Cond.code yX5_number cX5_number 3 (some .int) ∈ T0 := T0_5 138 (rfl) rfl
theorem ok_yX5_number : MOkV yX5_number cX5_number 3 (some .int) 2 := ⟨⟨ck_yX5_number, ini_RX5, by decide +kernel, by decide +kernel, by decide +kernel⟩, T0_5 137 (by decide +kernel) rfl, T0_p (List.mem_of_getElem? (i := 56) (by decide +kernel)) rfl⟩
set_option maxRecDepth 100000 in
theorem ck_yX5_again : Cond.code yX5_again cX5_again 3 none ∈ T0 := T0_5 150 (rfl) rfl
theorem ok_yX5_again : MOkV yX5_again cX5_again 3 none 1 := ⟨⟨ck_yX5_again, ini_RX5, by decide +kernel, by decide +kernel, by decide +kernel⟩, T0_5 149 (by decide +kernel) rfl, T0_p (List.mem_of_getElem? (i := 57) (by decide +kernel)) rfl⟩
set_option maxRecDepth 100000 in
theorem ck_yX5_moteOf : Cond.code yX5_moteOf cX5_moteOf 3 (some .int) ∈ T0 := T0_5 154 (rfl) rfl
theorem ok_yX5_moteOf : MOkV yX5_moteOf cX5_moteOf 3 (some .int) 2 := ⟨⟨ck_yX5_moteOf, ini_RX5, by decide +kernel, by decide +kernel, by decide +kernel⟩, T0_5 152 (by decide +kernel) rfl, T0_5 153 (by decide +kernel) rfl⟩
set_option maxRecDepth 100000 in
theorem ck_yX5_powerOf : Cond.code yX5_powerOf cX5_powerOf 7 (some .int) ∈ T0 := T0_5 158 (rfl) rfl
theorem ok_yX5_powerOf : MOkV yX5_powerOf cX5_powerOf 7 (some .int) 1 := ⟨⟨ck_yX5_powerOf, ini_RX5, by decide +kernel, by decide +kernel, by decide +kernel⟩, T0_5 157 (by decide +kernel) rfl, T0_p (List.mem_of_getElem? (i := 58) (by decide +kernel)) rfl⟩
set_option maxRecDepth 100000 in
theorem ck_yX5_allWeight : Cond.code yX5_allWeight cX5_allWeight 3 (some .int) ∈ T0 := T0_5 162 (rfl) rfl
theorem ok_yX5_allWeight : MOkV yX5_allWeight cX5_allWeight 3 (some .int) 0 := ⟨⟨ck_yX5_allWeight, ini_RX5, by decide +kernel, by decide +kernel, by decide +kernel⟩, T0_5 161 (by decide +kernel) rfl, T0_p (List.mem_of_getElem? (i := 59) (by decide +kernel)) rfl⟩
set_option maxRecDepth 100000 in
theorem ck_yX5_lit : Cond.code yX5_lit cX5_lit 3 (some .int) ∈ T0 := T0_5 166 (rfl) rfl
theorem ok_yX5_lit : MOkV yX5_lit cX5_lit 3 (some .int) 2 := ⟨⟨ck_yX5_lit, ini_RX5, by decide +kernel, by decide +kernel, by decide +kernel⟩, T0_5 164 (by decide +kernel) rfl, T0_5 165 (by decide +kernel) rfl⟩
set_option maxRecDepth 100000 in
theorem ck_yX5_where : Cond.code yX5_where cX5_where 4 (some .int) ∈ T0 := T0_5 170 (rfl) rfl
theorem ok_yX5_where : MOkV yX5_where cX5_where 4 (some .int) 2 := ⟨⟨ck_yX5_where, ini_RX5, by decide +kernel, by decide +kernel, by decide +kernel⟩, T0_5 168 (by decide +kernel) rfl, T0_5 169 (by decide +kernel) rfl⟩
set_option maxRecDepth 100000 in
theorem ck_yX5_isTime : Cond.code yX5_isTime cX5_isTime 1 (some .boolean) ∈ T0 := T0_5 173 (rfl) rfl
theorem ok_yX5_isTime : MOkS yX5_isTime cX5_isTime 1 (some .boolean) 1 := ⟨⟨ck_yX5_isTime, ini_RX5, by decide +kernel, by decide +kernel, by decide +kernel⟩, T0_5 172 (by decide +kernel) rfl⟩
set_option maxRecDepth 100000 in
theorem ck_yX5_goesOn : Cond.code yX5_goesOn cX5_goesOn 3 none ∈ T0 := T0_5 177 (rfl) rfl
theorem ok_yX5_goesOn : MOkV yX5_goesOn cX5_goesOn 3 none 1 := ⟨⟨ck_yX5_goesOn, ini_RX5, by decide +kernel, by decide +kernel, by decide +kernel⟩, T0_5 176 (by decide +kernel) rfl, T0_p (List.mem_of_getElem? (i := 60) (by decide +kernel)) rfl⟩
set_option maxRecDepth 100000 in
theorem ck_yX5_begins : Cond.code yX5_begins cX5_begins 2 none ∈ T0 := T0_5 181 (rfl) rfl
theorem ok_yX5_begins : MOkV yX5_begins cX5_begins 2 none 0 := ⟨⟨ck_yX5_begins, ini_RX5, by decide +kernel, by decide +kernel, by decide +kernel⟩, T0_5 180 (by decide +kernel) rfl, T0_p (List.mem_of_getElem? (i := 61) (by decide +kernel)) rfl⟩
set_option maxRecDepth 100000 in
theorem ck_yX5_step : Cond.code yX5_step cX5_step 2 none ∈ T0 := T0_5 185 (rfl) rfl
theorem ok_yX5_step : MOkV yX5_step cX5_step 2 none 0 := ⟨⟨ck_yX5_step, ini_RX5, by decide +kernel, by decide +kernel, by decide +kernel⟩, T0_5 184 (by decide +kernel) rfl, T0_p (List.mem_of_getElem? (i := 62) (by decide +kernel)) rfl⟩
set_option maxRecDepth 100000 in
theorem ck_yX5_ends : Cond.code yX5_ends cX5_ends 2 none ∈ T0 := T0_5 189 (rfl) rfl
theorem ok_yX5_ends : MOkV yX5_ends cX5_ends 2 none 0 := ⟨⟨ck_yX5_ends, ini_RX5, by decide +kernel, by decide +kernel, by decide +kernel⟩, T0_5 188 (by decide +kernel) rfl, T0_p (List.mem_of_getElem? (i := 63) (by decide +kernel)) rfl⟩
set_option maxRecDepth 100000 in
theorem ck_yX5_votes : Cond.code yX5_votes cX5_votes 4 (some .int) ∈ T0 := T0_5 193 (rfl) rfl
theorem ok_yX5_votes : MOkV yX5_votes cX5_votes 4 (some .int) 2 := ⟨⟨ck_yX5_votes, ini_RX5, by decide +kernel, by decide +kernel, by decide +kernel⟩, T0_5 191 (by decide +kernel) rfl, T0_5 192 (by decide +kernel) rfl⟩
set_option maxRecDepth 100000 in
theorem ck_yX5_votesNow : Cond.code yX5_votesNow cX5_votesNow 3 (some .int) ∈ T0 := T0_5 197 (rfl) rfl
theorem ok_yX5_votesNow : MOkV yX5_votesNow cX5_votesNow 3 (some .int) 0 := ⟨⟨ck_yX5_votesNow, ini_RX5, by decide +kernel, by decide +kernel, by decide +kernel⟩, T0_5 196 (by decide +kernel) rfl, T0_p (List.mem_of_getElem? (i := 64) (by decide +kernel)) rfl⟩
set_option maxRecDepth 100000 in
theorem ck_yX5_doesCarry : Cond.code yX5_doesCarry cX5_doesCarry 1 (some .boolean) ∈ T0 := T0_5 201 (rfl) rfl
theorem ok_yX5_doesCarry : MOkV yX5_doesCarry cX5_doesCarry 1 (some .boolean) 0 := ⟨⟨ck_yX5_doesCarry, ini_RX5, by decide +kernel, by decide +kernel, by decide +kernel⟩, T0_5 200 (by decide +kernel) rfl, T0_p (List.mem_of_getElem? (i := 65) (by decide +kernel)) rfl⟩
set_option maxRecDepth 100000 in
theorem ck_yX5_litNow : Cond.code yX5_litNow cX5_litNow 3 (some .int) ∈ T0 := T0_5 205 (rfl) rfl
theorem ok_yX5_litNow : MOkV yX5_litNow cX5_litNow 3 (some .int) 0 := ⟨⟨ck_yX5_litNow, ini_RX5, by decide +kernel, by decide +kernel, by decide +kernel⟩, T0_5 204 (by decide +kernel) rfl, T0_p (List.mem_of_getElem? (i := 66) (by decide +kernel)) rfl⟩
set_option maxRecDepth 100000 in
theorem ck_yX5_when : Cond.code yX5_when cX5_when 7 (some .int) ∈ T0 := T0_5 209 (rfl) rfl
theorem ok_yX5_when : MOkV yX5_when cX5_when 7 (some .int) 1 := ⟨⟨ck_yX5_when, ini_RX5, by decide +kernel, by decide +kernel, by decide +kernel⟩, T0_5 207 (by decide +kernel) rfl, T0_5 208 (by decide +kernel) rfl⟩
set_option maxRecDepth 100000 in
theorem ck_yX5_votesBehind : Cond.code yX5_votesBehind cX5_votesBehind 3 (some .int) ∈ T0 := T0_5 213 (rfl) rfl
theorem ok_yX5_votesBehind : MOkV yX5_votesBehind cX5_votesBehind 3 (some .int) 1 := ⟨⟨ck_yX5_votesBehind, ini_RX5, by decide +kernel, by decide +kernel, by decide +kernel⟩, T0_5 212 (by decide +kernel) rfl, T0_p (List.mem_of_getElem? (i := 67) (by decide +kernel)) rfl⟩
set_option maxRecDepth 100000 in
theorem ck_yX5_setting : Cond.code yX5_setting cX5_setting 6 (some .int) ∈ T0 := T0_5 217 (rfl) rfl
theorem ok_yX5_setting : MOkV yX5_setting cX5_setting 6 (some .int) 2 := ⟨⟨ck_yX5_setting, ini_RX5, by decide +kernel, by decide +kernel, by decide +kernel⟩, T0_5 215 (by decide +kernel) rfl, T0_5 216 (by decide +kernel) rfl⟩
set_option maxRecDepth 100000 in
theorem ck_yX5_settingNow : Cond.code yX5_settingNow cX5_settingNow 1 (some .int) ∈ T0 := T0_5 221 (rfl) rfl
theorem ok_yX5_settingNow : MOkV yX5_settingNow cX5_settingNow 1 (some .int) 0 := ⟨⟨ck_yX5_settingNow, ini_RX5, by decide +kernel, by decide +kernel, by decide +kernel⟩, T0_5 220 (by decide +kernel) rfl, T0_p (List.mem_of_getElem? (i := 68) (by decide +kernel)) rfl⟩
set_option maxRecDepth 100000 in
theorem ck_yX5_isSetting : Cond.code yX5_isSetting cX5_isSetting 2 (some .boolean) ∈ T0 := T0_5 224 (rfl) rfl
theorem ok_yX5_isSetting : MOkS yX5_isSetting cX5_isSetting 2 (some .boolean) 1 := ⟨⟨ck_yX5_isSetting, ini_RX5, by decide +kernel, by decide +kernel, by decide +kernel⟩, T0_5 223 (by decide +kernel) rfl⟩
set_option maxRecDepth 100000 in
theorem ck_yX5_unlike : Cond.code yX5_unlike cX5_unlike 2 (some .int) ∈ T0 := T0_5 230 (rfl) rfl
theorem ok_yX5_unlike : MOkS yX5_unlike cX5_unlike 2 (some .int) 2 := ⟨⟨ck_yX5_unlike, ini_RX5, by decide +kernel, by decide +kernel, by decide +kernel⟩, T0_5 229 (by decide +kernel) rfl⟩
set_option maxRecDepth 100000 in
theorem ck_yX5_sets : Cond.code yX5_sets cX5_sets 2 none ∈ T0 := T0_5 235 (rfl) rfl
theorem ok_yX5_sets : MOkV yX5_sets cX5_sets 2 none 1 := ⟨⟨ck_yX5_sets, ini_RX5, by decide +kernel, by decide +kernel, by decide +kernel⟩, T0_5 234 (by decide +kernel) rfl, T0_p (List.mem_of_getElem? (i := 69) (by decide +kernel)) rfl⟩
set_option maxRecDepth 100000 in
theorem ck_yX5_carriesBehind : Cond.code yX5_carriesBehind cX5_carriesBehind 2 (some .boolean) ∈ T0 := T0_5 239 (rfl) rfl
theorem ok_yX5_carriesBehind : MOkV yX5_carriesBehind cX5_carriesBehind 2 (some .boolean) 1 := ⟨⟨ck_yX5_carriesBehind, ini_RX5, by decide +kernel, by decide +kernel, by decide +kernel⟩, T0_5 238 (by decide +kernel) rfl, T0_p (List.mem_of_getElem? (i := 70) (by decide +kernel)) rfl⟩
set_option maxRecDepth 100000 in
theorem ck_yX5_which : Cond.code yX5_which cX5_which 9 (some .int) ∈ T0 := T0_6 3 (rfl) rfl
theorem ok_yX5_which : MOkV yX5_which cX5_which 9 (some .int) 3 := ⟨⟨ck_yX5_which, ini_RX5, by decide +kernel, by decide +kernel, by decide +kernel⟩, T0_6 1 (by decide +kernel) rfl, T0_6 2 (by decide +kernel) rfl⟩
set_option maxRecDepth 100000 in
theorem ck_yX5_noTold : Cond.code yX5_noTold cX5_noTold 3 (some .int) ∈ T0 := T0_6 7 (rfl) rfl
theorem ok_yX5_noTold : MOkV yX5_noTold cX5_noTold 3 (some .int) 2 := ⟨⟨ck_yX5_noTold, ini_RX5, by decide +kernel, by decide +kernel, by decide +kernel⟩, T0_6 6 (by decide +kernel) rfl, T0_p (List.mem_of_getElem? (i := 71) (by decide +kernel)) rfl⟩
set_option maxRecDepth 100000 in
theorem ck_yX5_comesTo : Cond.code yX5_comesTo cX5_comesTo 5 (some .boolean) ∈ T0 := T0_6 11 (rfl) rfl
theorem ok_yX5_comesTo : MOkV yX5_comesTo cX5_comesTo 5 (some .boolean) 2 := ⟨⟨ck_yX5_comesTo, ini_RX5, by decide +kernel, by decide +kernel, by decide +kernel⟩, T0_6 10 (by decide +kernel) rfl, T0_p (List.mem_of_getElem? (i := 72) (by decide +kernel)) rfl⟩
set_option maxRecDepth 100000 in
theorem ck_yX5_toldAt : Cond.code yX5_toldAt cX5_toldAt 3 (some .long) ∈ T0 := T0_6 15 (rfl) rfl
theorem ok_yX5_toldAt : MOkV yX5_toldAt cX5_toldAt 3 (some .long) 2 := ⟨⟨ck_yX5_toldAt, ini_RX5, by decide +kernel, by decide +kernel, by decide +kernel⟩, T0_6 14 (by decide +kernel) rfl, T0_p (List.mem_of_getElem? (i := 73) (by decide +kernel)) rfl⟩
set_option maxRecDepth 100000 in
theorem ck_yX5_kinds : Cond.code yX5_kinds cX5_kinds 8 (some .int) ∈ T0 := T0_6 19 (rfl) rfl
theorem ok_yX5_kinds : MOkV yX5_kinds cX5_kinds 8 (some .int) 3 := ⟨⟨ck_yX5_kinds, ini_RX5, by decide +kernel, by decide +kernel, by decide +kernel⟩, T0_6 17 (by decide +kernel) rfl, T0_6 18 (by decide +kernel) rfl⟩
set_option maxRecDepth 100000 in
theorem ck_yX5_goesSo : Cond.code yX5_goesSo cX5_goesSo 6 (some .boolean) ∈ T0 := T0_6 23 (rfl) rfl
theorem ok_yX5_goesSo : MOkV yX5_goesSo cX5_goesSo 6 (some .boolean) 3 := ⟨⟨ck_yX5_goesSo, ini_RX5, by decide +kernel, by decide +kernel, by decide +kernel⟩, T0_6 22 (by decide +kernel) rfl, T0_p (List.mem_of_getElem? (i := 74) (by decide +kernel)) rfl⟩
set_option maxRecDepth 100000 in
theorem ck_yX5_centre : Cond.code yX5_centre cX5_centre 4 (some .int) ∈ T0 := T0_6 27 (rfl) rfl
theorem ok_yX5_centre : MOkV yX5_centre cX5_centre 4 (some .int) 2 := ⟨⟨ck_yX5_centre, ini_RX5, by decide +kernel, by decide +kernel, by decide +kernel⟩, T0_6 25 (by decide +kernel) rfl, T0_6 26 (by decide +kernel) rfl⟩
set_option maxRecDepth 100000 in
theorem ck_yX5_spread : Cond.code yX5_spread cX5_spread 4 (some .int) ∈ T0 := T0_6 31 (rfl) rfl
theorem ok_yX5_spread : MOkV yX5_spread cX5_spread 4 (some .int) 0 := ⟨⟨ck_yX5_spread, ini_RX5, by decide +kernel, by decide +kernel, by decide +kernel⟩, T0_6 30 (by decide +kernel) rfl, T0_p (List.mem_of_getElem? (i := 75) (by decide +kernel)) rfl⟩
set_option maxRecDepth 100000 in
theorem ck_yX5_apart : Cond.code yX5_apart cX5_apart 2 (some .int) ∈ T0 := T0_6 34 (rfl) rfl
theorem ok_yX5_apart : MOkS yX5_apart cX5_apart 2 (some .int) 2 := ⟨⟨ck_yX5_apart, ini_RX5, by decide +kernel, by decide +kernel, by decide +kernel⟩, T0_6 33 (by decide +kernel) rfl⟩
set_option maxRecDepth 100000 in
theorem ck_yX5_sumOf : Cond.code yX5_sumOf cX5_sumOf 4 (some .int) ∈ T0 := T0_6 40 (rfl) rfl
theorem ok_yX5_sumOf : MOkV yX5_sumOf cX5_sumOf 4 (some .int) 1 := ⟨⟨ck_yX5_sumOf, ini_RX5, by decide +kernel, by decide +kernel, by decide +kernel⟩, T0_6 39 (by decide +kernel) rfl, T0_p (List.mem_of_getElem? (i := 76) (by decide +kernel)) rfl⟩
set_option maxRecDepth 100000 in
theorem ck_yX5_whips : Cond.code yX5_whips cX5_whips 8 (some .int) ∈ T0 := T0_6 44 (rfl) rfl
theorem ok_yX5_whips : MOkV yX5_whips cX5_whips 8 (some .int) 2 := ⟨⟨ck_yX5_whips, ini_RX5, by decide +kernel, by decide +kernel, by decide +kernel⟩, T0_6 42 (by decide +kernel) rfl, T0_6 43 (by decide +kernel) rfl⟩
set_option maxRecDepth 100000 in
theorem ck_yX5_turns : Cond.code yX5_turns cX5_turns 8 (some .int) ∈ T0 := T0_6 48 (rfl) rfl
theorem ok_yX5_turns : MOkV yX5_turns cX5_turns 8 (some .int) 2 := ⟨⟨ck_yX5_turns, ini_RX5, by decide +kernel, by decide +kernel, by decide +kernel⟩, T0_6 47 (by decide +kernel) rfl, T0_p (List.mem_of_getElem? (i := 77) (by decide +kernel)) rfl⟩
set_option maxRecDepth 100000 in
theorem ck_yX5_turnedVotes : Cond.code yX5_turnedVotes cX5_turnedVotes 5 (some .int) ∈ T0 := T0_6 52 (rfl) rfl
theorem ok_yX5_turnedVotes : MOkV yX5_turnedVotes cX5_turnedVotes 5 (some .int) 2 := ⟨⟨ck_yX5_turnedVotes, ini_RX5, by decide +kernel, by decide +kernel, by decide +kernel⟩, T0_6 51 (by decide +kernel) rfl, T0_p (List.mem_of_getElem? (i := 78) (by decide +kernel)) rfl⟩
set_option maxRecDepth 100000 in
theorem ck_yX5_answer : Cond.code yX5_answer cX5_answer 5 (some .int) ∈ T0 := T0_6 56 (rfl) rfl
theorem ok_yX5_answer : MOkV yX5_answer cX5_answer 5 (some .int) 2 := ⟨⟨ck_yX5_answer, ini_RX5, by decide +kernel, by decide +kernel, by decide +kernel⟩, T0_6 54 (by decide +kernel) rfl, T0_6 55 (by decide +kernel) rfl⟩
set_option maxRecDepth 100000 in
theorem ck_yX5_doorFor : Cond.code yX5_doorFor cX5_doorFor 2 (some .int) ∈ T0 := T0_6 60 (rfl) rfl
theorem ok_yX5_doorFor : MOkV yX5_doorFor cX5_doorFor 2 (some .int) 1 := ⟨⟨ck_yX5_doorFor, ini_RX5, by decide +kernel, by decide +kernel, by decide +kernel⟩, T0_6 58 (by decide +kernel) rfl, T0_6 59 (by decide +kernel) rfl⟩
set_option maxRecDepth 100000 in
theorem ck_yX5_odds : Cond.code yX5_odds cX5_odds 7 (some .int) ∈ T0 := T0_6 64 (rfl) rfl
theorem ok_yX5_odds : MOkV yX5_odds cX5_odds 7 (some .int) 2 := ⟨⟨ck_yX5_odds, ini_RX5, by decide +kernel, by decide +kernel, by decide +kernel⟩, T0_6 62 (by decide +kernel) rfl, T0_6 63 (by decide +kernel) rfl⟩
set_option maxRecDepth 100000 in
theorem ck_yX5_draughts : Cond.code yX5_draughts cX5_draughts 9 none ∈ T0 := T0_6 68 (rfl) rfl
theorem ok_yX5_draughts : MOkV yX5_draughts cX5_draughts 9 none 3 := ⟨⟨ck_yX5_draughts, ini_RX5, by decide +kernel, by decide +kernel, by decide +kernel⟩, T0_6 67 (by decide +kernel) rfl, T0_p (List.mem_of_getElem? (i := 79) (by decide +kernel)) rfl⟩
set_option maxRecDepth 100000 in
theorem ck_yX5_first : Cond.code yX5_first cX5_first 6 (some .int) ∈ T0 := T0_6 75 (rfl) rfl
theorem ok_yX5_first : MOkV yX5_first cX5_first 6 (some .int) 1 := ⟨⟨ck_yX5_first, ini_RX5, by decide +kernel, by decide +kernel, by decide +kernel⟩, T0_6 73 (by decide +kernel) rfl, T0_6 74 (by decide +kernel) rfl⟩
set_option maxRecDepth 100000 in
theorem ck_yX5_crowd : Cond.code yX5_crowd cX5_crowd 4 (some .int) ∈ T0 := T0_6 79 (rfl) rfl
theorem ok_yX5_crowd : MOkV yX5_crowd cX5_crowd 4 (some .int) 2 := ⟨⟨ck_yX5_crowd, ini_RX5, by decide +kernel, by decide +kernel, by decide +kernel⟩, T0_6 77 (by decide +kernel) rfl, T0_6 78 (by decide +kernel) rfl⟩
set_option maxRecDepth 100000 in
theorem ck_yX5_crowdIn : Cond.code yX5_crowdIn cX5_crowdIn 4 (some .int) ∈ T0 := T0_6 83 (rfl) rfl
theorem ok_yX5_crowdIn : MOkV yX5_crowdIn cX5_crowdIn 4 (some .int) 1 := ⟨⟨ck_yX5_crowdIn, ini_RX5, by decide +kernel, by decide +kernel, by decide +kernel⟩, T0_6 82 (by decide +kernel) rfl, T0_p (List.mem_of_getElem? (i := 80) (by decide +kernel)) rfl⟩
set_option maxRecDepth 100000 in
theorem ck_yX5_thick : Cond.code yX5_thick cX5_thick 4 (some .int) ∈ T0 := T0_6 87 (rfl) rfl
theorem ok_yX5_thick : MOkV yX5_thick cX5_thick 4 (some .int) 1 := ⟨⟨ck_yX5_thick, ini_RX5, by decide +kernel, by decide +kernel, by decide +kernel⟩, T0_6 85 (by decide +kernel) rfl, T0_6 86 (by decide +kernel) rfl⟩
set_option maxRecDepth 100000 in
theorem ck_yX5_arrives : Cond.code yX5_arrives cX5_arrives 5 (some .int) ∈ T0 := T0_6 91 (rfl) rfl
theorem ok_yX5_arrives : MOkV yX5_arrives cX5_arrives 5 (some .int) 2 := ⟨⟨ck_yX5_arrives, ini_RX5, by decide +kernel, by decide +kernel, by decide +kernel⟩, T0_6 89 (by decide +kernel) rfl, T0_6 90 (by decide +kernel) rfl⟩
set_option maxRecDepth 100000 in
theorem ck_yX5_lights : Cond.code yX5_lights cX5_lights 4 (some .int) ∈ T0 := T0_6 95 (rfl) rfl
theorem ok_yX5_lights : MOkV yX5_lights cX5_lights 4 (some .int) 1 := ⟨⟨ck_yX5_lights, ini_RX5, by decide +kernel, by decide +kernel, by decide +kernel⟩, T0_6 93 (by decide +kernel) rfl, T0_6 94 (by decide +kernel) rfl⟩
set_option maxRecDepth 100000 in
theorem ck_yX5_meet : Cond.code yX5_meet cX5_meet 5 (some .int) ∈ T0 := T0_6 99 (rfl) rfl
theorem ok_yX5_meet : MOkV yX5_meet cX5_meet 5 (some .int) 2 := ⟨⟨ck_yX5_meet, ini_RX5, by decide +kernel, by decide +kernel, by decide +kernel⟩, T0_6 97 (by decide +kernel) rfl, T0_6 98 (by decide +kernel) rfl⟩
set_option maxRecDepth 100000 in
theorem ck_yX5_areTwo : Cond.code yX5_areTwo cX5_areTwo 3 (some .boolean) ∈ T0 := T0_6 103 (rfl) rfl
theorem ok_yX5_areTwo : MOkV yX5_areTwo cX5_areTwo 3 (some .boolean) 2 := ⟨⟨ck_yX5_areTwo, ini_RX5, by decide +kernel, by decide +kernel, by decide +kernel⟩, T0_6 102 (by decide +kernel) rfl, T0_p (List.mem_of_getElem? (i := 81) (by decide +kernel)) rfl⟩
set_option maxRecDepth 100000 in
theorem ck_yX5_beamFor : Cond.code yX5_beamFor cX5_beamFor 7 (some .int) ∈ T0 := T0_6 107 (rfl) rfl
theorem ok_yX5_beamFor : MOkV yX5_beamFor cX5_beamFor 7 (some .int) 1 := ⟨⟨ck_yX5_beamFor, ini_RX5, by decide +kernel, by decide +kernel, by decide +kernel⟩, T0_6 105 (by decide +kernel) rfl, T0_6 106 (by decide +kernel) rfl⟩
set_option maxRecDepth 100000 in
theorem ck_yX5_warmthFor : Cond.code yX5_warmthFor cX5_warmthFor 5 (some .int) ∈ T0 := T0_6 111 (rfl) rfl
theorem ok_yX5_warmthFor : MOkV yX5_warmthFor cX5_warmthFor 5 (some .int) 1 := ⟨⟨ck_yX5_warmthFor, ini_RX5, by decide +kernel, by decide +kernel, by decide +kernel⟩, T0_6 109 (by decide +kernel) rfl, T0_6 110 (by decide +kernel) rfl⟩
set_option maxRecDepth 100000 in
theorem ck_yX5_bestCell : Cond.code yX5_bestCell cX5_bestCell 8 (some .int) ∈ T0 := T0_6 115 (rfl) rfl
theorem ok_yX5_bestCell : MOkV yX5_bestCell cX5_bestCell 8 (some .int) 2 := ⟨⟨ck_yX5_bestCell, ini_RX5, by decide +kernel, by decide +kernel, by decide +kernel⟩, T0_6 113 (by decide +kernel) rfl, T0_6 114 (by decide +kernel) rfl⟩
set_option maxRecDepth 100000 in
theorem ck_yX5_many : Cond.code yX5_many cX5_many 5 (some .int) ∈ T0 := T0_6 119 (rfl) rfl
theorem ok_yX5_many : MOkV yX5_many cX5_many 5 (some .int) 1 := ⟨⟨ck_yX5_many, ini_RX5, by decide +kernel, by decide +kernel, by decide +kernel⟩, T0_6 117 (by decide +kernel) rfl, T0_6 118 (by decide +kernel) rfl⟩
set_option maxRecDepth 100000 in
theorem ck_yX5_runs : Cond.code yX5_runs cX5_runs 4 (some .int) ∈ T0 := T0_6 123 (rfl) rfl
theorem ok_yX5_runs : MOkV yX5_runs cX5_runs 4 (some .int) 1 := ⟨⟨ck_yX5_runs, ini_RX5, by decide +kernel, by decide +kernel, by decide +kernel⟩, T0_6 121 (by decide +kernel) rfl, T0_6 122 (by decide +kernel) rfl⟩
set_option maxRecDepth 100000 in
theorem ck_yX5_together : Cond.code yX5_together cX5_together 5 (some .int) ∈ T0 := T0_6 127 (rfl) rfl
theorem ok_yX5_together : MOkV yX5_together cX5_together 5 (some .int) 2 := ⟨⟨ck_yX5_together, ini_RX5, by decide +kernel, by decide +kernel, by decide +kernel⟩, T0_6 125 (by decide +kernel) rfl, T0_6 126 (by decide +kernel) rfl⟩
set_option maxRecDepth 100000 in
theorem ck_yX5_round : Cond.code yX5_round cX5_round 5 (some .int) ∈ T0 := T0_6 131 (rfl) rfl
theorem ok_yX5_round : MOkV yX5_round cX5_round 5 (some .int) 0 := ⟨⟨ck_yX5_round, ini_RX5, by decide +kernel, by decide +kernel, by decide +kernel⟩, T0_6 129 (by decide +kernel) rfl, T0_6 130 (by decide +kernel) rfl⟩
set_option maxRecDepth 100000 in
theorem ck_yX5_way : Cond.code yX5_way cX5_way 5 (some .int) ∈ T0 := T0_6 135 (rfl) rfl
theorem ok_yX5_way : MOkV yX5_way cX5_way 5 (some .int) 1 := ⟨⟨ck_yX5_way, ini_RX5, by decide +kernel, by decide +kernel, by decide +kernel⟩, T0_6 133 (by decide +kernel) rfl, T0_6 134 (by decide +kernel) rfl⟩
set_option maxRecDepth 100000 in
theorem ck_yX5_walled : Cond.code yX5_walled cX5_walled 4 (some .int) ∈ T0 := T0_6 140 (rfl) rfl
theorem ok_yX5_walled : MOkV yX5_walled cX5_walled 4 (some .int) 1 := ⟨⟨ck_yX5_walled, ini_RX5, by decide +kernel, by decide +kernel, by decide +kernel⟩, T0_6 138 (by decide +kernel) rfl, T0_6 139 (by decide +kernel) rfl⟩
set_option maxRecDepth 100000 in
theorem ck_yX5_isWalled : Cond.code yX5_isWalled cX5_isWalled 2 (some .boolean) ∈ T0 := T0_6 144 (rfl) rfl
theorem ok_yX5_isWalled : MOkV yX5_isWalled cX5_isWalled 2 (some .boolean) 1 := ⟨⟨ck_yX5_isWalled, ini_RX5, by decide +kernel, by decide +kernel, by decide +kernel⟩, T0_6 143 (by decide +kernel) rfl, T0_p (List.mem_of_getElem? (i := 82) (by decide +kernel)) rfl⟩
set_option maxRecDepth 100000 in
theorem ck_yX5_stirred : Cond.code yX5_stirred cX5_stirred 3 (some .int) ∈ T0 := T0_6 148 (rfl) rfl
theorem ok_yX5_stirred : MOkV yX5_stirred cX5_stirred 3 (some .int) 0 := ⟨⟨ck_yX5_stirred, ini_RX5, by decide +kernel, by decide +kernel, by decide +kernel⟩, T0_6 146 (by decide +kernel) rfl, T0_6 147 (by decide +kernel) rfl⟩
set_option maxRecDepth 100000 in
theorem ck_yX5_ofKind : Cond.code yX5_ofKind cX5_ofKind 4 (some .int) ∈ T0 := T0_6 152 (rfl) rfl
theorem ok_yX5_ofKind : MOkV yX5_ofKind cX5_ofKind 4 (some .int) 1 := ⟨⟨ck_yX5_ofKind, ini_RX5, by decide +kernel, by decide +kernel, by decide +kernel⟩, T0_6 150 (by decide +kernel) rfl, T0_6 151 (by decide +kernel) rfl⟩
set_option maxRecDepth 100000 in
theorem ck_yX5_judge : Cond.code yX5_judge cX5_judge 4 (some .int) ∈ T0 := T0_6 156 (rfl) rfl
theorem ok_yX5_judge : MOkV yX5_judge cX5_judge 4 (some .int) 2 := ⟨⟨ck_yX5_judge, ini_RX5, by decide +kernel, by decide +kernel, by decide +kernel⟩, T0_6 154 (by decide +kernel) rfl, T0_6 155 (by decide +kernel) rfl⟩
set_option maxRecDepth 100000 in
theorem ck_yX5_wrong : Cond.code yX5_wrong cX5_wrong 4 (some .int) ∈ T0 := T0_6 160 (rfl) rfl
theorem ok_yX5_wrong : MOkV yX5_wrong cX5_wrong 4 (some .int) 2 := ⟨⟨ck_yX5_wrong, ini_RX5, by decide +kernel, by decide +kernel, by decide +kernel⟩, T0_6 159 (by decide +kernel) rfl, T0_p (List.mem_of_getElem? (i := 83) (by decide +kernel)) rfl⟩
set_option maxRecDepth 100000 in
theorem ck_yX5_behind : Cond.code yX5_behind cX5_behind 7 (some .int) ∈ T0 := T0_6 164 (rfl) rfl
theorem ok_yX5_behind : MOkV yX5_behind cX5_behind 7 (some .int) 3 := ⟨⟨ck_yX5_behind, ini_RX5, by decide +kernel, by decide +kernel, by decide +kernel⟩, T0_6 162 (by decide +kernel) rfl, T0_6 163 (by decide +kernel) rfl⟩
set_option maxRecDepth 100000 in
theorem ck_yX5_noSession : Cond.code yX5_noSession cX5_noSession 4 (some .int) ∈ T0 := T0_6 168 (rfl) rfl
theorem ok_yX5_noSession : MOkV yX5_noSession cX5_noSession 4 (some .int) 2 := ⟨⟨ck_yX5_noSession, ini_RX5, by decide +kernel, by decide +kernel, by decide +kernel⟩, T0_6 167 (by decide +kernel) rfl, T0_p (List.mem_of_getElem? (i := 84) (by decide +kernel)) rfl⟩
set_option maxRecDepth 100000 in
theorem ck_yX5_happens : Cond.code yX5_happens cX5_happens 4 none ∈ T0 := T0_6 172 (rfl) rfl
theorem ok_yX5_happens : MOkV yX5_happens cX5_happens 4 none 2 := ⟨⟨ck_yX5_happens, ini_RX5, by decide +kernel, by decide +kernel, by decide +kernel⟩, T0_6 171 (by decide +kernel) rfl, T0_p (List.mem_of_getElem? (i := 85) (by decide +kernel)) rfl⟩
set_option maxRecDepth 100000 in
theorem ck_yX5_done : Cond.code yX5_done cX5_done 4 (some .int) ∈ T0 := T0_6 176 (rfl) rfl
theorem ok_yX5_done : MOkV yX5_done cX5_done 4 (some .int) 2 := ⟨⟨ck_yX5_done, ini_RX5, by decide +kernel, by decide +kernel, by decide +kernel⟩, T0_6 174 (by decide +kernel) rfl, T0_6 175 (by decide +kernel) rfl⟩
set_option maxRecDepth 100000 in
theorem ck_yX5_steps : Cond.code yX5_steps cX5_steps 3 (some .int) ∈ T0 := T0_6 180 (rfl) rfl
theorem ok_yX5_steps : MOkV yX5_steps cX5_steps 3 (some .int) 1 := ⟨⟨ck_yX5_steps, ini_RX5, by decide +kernel, by decide +kernel, by decide +kernel⟩, T0_6 178 (by decide +kernel) rfl, T0_6 179 (by decide +kernel) rfl⟩
set_option maxRecDepth 100000 in
theorem ck_yX5_hours : Cond.code yX5_hours cX5_hours 5 (some .int) ∈ T0 := T0_6 184 (rfl) rfl
theorem ok_yX5_hours : MOkV yX5_hours cX5_hours 5 (some .int) 1 := ⟨⟨ck_yX5_hours, ini_RX5, by decide +kernel, by decide +kernel, by decide +kernel⟩, T0_6 182 (by decide +kernel) rfl, T0_6 183 (by decide +kernel) rfl⟩
set_option maxRecDepth 100000 in
theorem ck_yX5_draw : Cond.code yX5_draw cX5_draw 2 (some .int) ∈ T0 := T0_6 188 (rfl) rfl
theorem ok_yX5_draw : MOkV yX5_draw cX5_draw 2 (some .int) 1 := ⟨⟨ck_yX5_draw, ini_RX5, by decide +kernel, by decide +kernel, by decide +kernel⟩, T0_6 187 (by decide +kernel) rfl, T0_p (List.mem_of_getElem? (i := 86) (by decide +kernel)) rfl⟩
set_option maxRecDepth 100000 in
theorem ck_yX5_seed : Cond.code yX5_seed cX5_seed 3 (some .int) ∈ T0 := T0_6 193 (rfl) rfl
theorem ok_yX5_seed : MOkV yX5_seed cX5_seed 3 (some .int) 1 := ⟨⟨ck_yX5_seed, ini_RX5, by decide +kernel, by decide +kernel, by decide +kernel⟩, T0_6 191 (by decide +kernel) rfl, T0_6 192 (by decide +kernel) rfl⟩
set_option maxRecDepth 100000 in
theorem ck_yX5_image : Cond.code yX5_image cX5_image 1 (some .int) ∈ T0 := T0_6 197 (rfl) rfl
theorem ok_yX5_image : MOkV yX5_image cX5_image 1 (some .int) 0 := ⟨⟨ck_yX5_image, ini_RX5, by decide +kernel, by decide +kernel, by decide +kernel⟩, T0_6 195 (by decide +kernel) rfl, T0_6 196 (by decide +kernel) rfl⟩
set_option maxRecDepth 100000 in
theorem ck_yX5_back : Cond.code yX5_back cX5_back 2 (some .int) ∈ T0 := T0_6 201 (rfl) rfl
theorem ok_yX5_back : MOkV yX5_back cX5_back 2 (some .int) 0 := ⟨⟨ck_yX5_back, ini_RX5, by decide +kernel, by decide +kernel, by decide +kernel⟩, T0_6 199 (by decide +kernel) rfl, T0_6 200 (by decide +kernel) rfl⟩
set_option maxRecDepth 100000 in
theorem ck_yX5_status : Cond.code yX5_status cX5_status 4 (some .int) ∈ T0 := T0_6 205 (rfl) rfl
theorem ok_yX5_status : MOkV yX5_status cX5_status 4 (some .int) 1 := ⟨⟨ck_yX5_status, ini_RX5, by decide +kernel, by decide +kernel, by decide +kernel⟩, T0_6 203 (by decide +kernel) rfl, T0_6 204 (by decide +kernel) rfl⟩
