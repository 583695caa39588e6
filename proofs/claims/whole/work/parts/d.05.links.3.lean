theorem fX0_9 : v_fld RX0 9 0 0 := ⟨RX0, TX0, 11, by decide, rfl, by decide, inX0, Or.inl (gw_t 44 (by decide +kernel) rfl)⟩
theorem gX0_9 : v_fldP RX0 9 0 0 (.array .long) true := ⟨RX0, TX0, 11, tyX0, by decide, rfl, by decide, inX0, tyX0_ok, nmX0, rfl, by decide +kernel, (fun _ => rfl), Or.inl (gw_t 44 (by decide +kernel) rfl)⟩
theorem fX0_15 : v_fld RX0 15 0 1 := ⟨RX0, TX0, 11, by decide, rfl, by decide, inX0, Or.inl (gw_t 45 (by decide +kernel) rfl)⟩
theorem gX0_15 : v_fldP RX0 15 0 1 (.array .int) true := ⟨RX0, TX0, 11, tyX0, by decide, rfl, by decide, inX0, tyX0_ok, nmX0, rfl, by decide +kernel, (fun _ => rfl), Or.inl (gw_t 45 (by decide +kernel) rfl)⟩
theorem fX0_19 : v_fld RX0 19 0 2 := ⟨RX0, TX0, 11, by decide, rfl, by decide, inX0, Or.inl (gw_t 47 (by decide +kernel) rfl)⟩
theorem gX0_19 : v_fldP RX0 19 0 2 (.array .int) true := ⟨RX0, TX0, 11, tyX0, by decide, rfl, by decide, inX0, tyX0_ok, nmX0, rfl, by decide +kernel, (fun _ => rfl), Or.inl (gw_t 47 (by decide +kernel) rfl)⟩
theorem fX0_22 : v_fld RX0 22 0 3 := ⟨RX0, TX0, 11, by decide, rfl, by decide, inX0, Or.inl (gw_t 50 (by decide +kernel) rfl)⟩
theorem gX0_22 : v_fldP RX0 22 0 3 (.array .int) true := ⟨RX0, TX0, 11, tyX0, by decide, rfl, by decide, inX0, tyX0_ok, nmX0, rfl, by decide +kernel, (fun _ => rfl), Or.inl (gw_t 50 (by decide +kernel) rfl)⟩
theorem fX0_25 : v_fld RX0 25 0 4 := ⟨RX0, TX0, 11, by decide, rfl, by decide, inX0, Or.inl (gw_t 51 (by decide +kernel) rfl)⟩
theorem gX0_25 : v_fldP RX0 25 0 4 (.array .int) true := ⟨RX0, TX0, 11, tyX0, by decide, rfl, by decide, inX0, tyX0_ok, nmX0, rfl, by decide +kernel, (fun _ => rfl), Or.inl (gw_t 51 (by decide +kernel) rfl)⟩
theorem fX0_28 : v_fld RX0 28 0 5 := ⟨RX0, TX0, 11, by decide, rfl, by decide, inX0, Or.inl (gw_t 52 (by decide +kernel) rfl)⟩
theorem gX0_28 : v_fldP RX0 28 0 5 (.array .int) true := ⟨RX0, TX0, 11, tyX0, by decide, rfl, by decide, inX0, tyX0_ok, nmX0, rfl, by decide +kernel, (fun _ => rfl), Or.inl (gw_t 52 (by decide +kernel) rfl)⟩
theorem fX0_31 : v_fld RX0 31 0 6 := ⟨RX0, TX0, 11, by decide, rfl, by decide, inX0, Or.inl (gw_t 54 (by decide +kernel) rfl)⟩
theorem gX0_31 : v_fldP RX0 31 0 6 (.array .int) true := ⟨RX0, TX0, 11, tyX0, by decide, rfl, by decide, inX0, tyX0_ok, nmX0, rfl, by decide +kernel, (fun _ => rfl), Or.inl (gw_t 54 (by decide +kernel) rfl)⟩
theorem fX0_34 : v_fld RX0 34 0 7 := ⟨RX0, TX0, 11, by decide, rfl, by decide, inX0, Or.inl (gw_t 56 (by decide +kernel) rfl)⟩
theorem gX0_34 : v_fldP RX0 34 0 7 (.array .int) true := ⟨RX0, TX0, 11, tyX0, by decide, rfl, by decide, inX0, tyX0_ok, nmX0, rfl, by decide +kernel, (fun _ => rfl), Or.inl (gw_t 56 (by decide +kernel) rfl)⟩
theorem fX0_37 : v_fld RX0 37 0 8 := ⟨RX0, TX0, 11, by decide, rfl, by decide, inX0, Or.inl (gw_t 58 (by decide +kernel) rfl)⟩
theorem gX0_37 : v_fldP RX0 37 0 8 (.array .int) true := ⟨RX0, TX0, 11, tyX0, by decide, rfl, by decide, inX0, tyX0_ok, nmX0, rfl, by decide +kernel, (fun _ => rfl), Or.inl (gw_t 58 (by decide +kernel) rfl)⟩
theorem fX0_40 : v_fld RX0 40 0 9 := ⟨RX0, TX0, 11, by decide, rfl, by decide, inX0, Or.inl (gw_t 60 (by decide +kernel) rfl)⟩
theorem gX0_40 : v_fldP RX0 40 0 9 .int false := ⟨RX0, TX0, 11, tyX0, by decide, rfl, by decide, inX0, tyX0_ok, nmX0, rfl, by decide +kernel, (fun h => by cases h), Or.inl (gw_t 60 (by decide +kernel) rfl)⟩
theorem fX0_44 : v_fld RX0 44 0 10 := ⟨RX0, TX0, 11, by decide, rfl, by decide, inX0, Or.inl (gw_t 62 (by decide +kernel) rfl)⟩
theorem gX0_44 : v_fldP RX0 44 0 10 .int false := ⟨RX0, TX0, 11, tyX0, by decide, rfl, by decide, inX0, tyX0_ok, nmX0, rfl, by decide +kernel, (fun h => by cases h), Or.inl (gw_t 62 (by decide +kernel) rfl)⟩
theorem fX6_11 : v_fld RX6 11 6 0 := ⟨RX6, TX6, 11, by decide, rfl, by decide, inX6, Or.inl (gw_t 91 (by decide +kernel) rfl)⟩
theorem gX6_11 : v_fldP RX6 11 6 0 (.array .byte) true := ⟨RX6, TX6, 11, tyX6, by decide, rfl, by decide, inX6, tyX6_ok, nmX6, rfl, by decide +kernel, (fun _ => rfl), Or.inl (gw_t 91 (by decide +kernel) rfl)⟩
theorem fX6_22 : v_fld RX6 22 6 1 := ⟨RX6, TX6, 11, by decide, rfl, by decide, inX6, Or.inl (gw_t 92 (by decide +kernel) rfl)⟩
theorem gX6_22 : v_fldP RX6 22 6 1 .int false := ⟨RX6, TX6, 11, tyX6, by decide, rfl, by decide, inX6, tyX6_ok, nmX6, rfl, by decide +kernel, (fun h => by cases h), Or.inl (gw_t 92 (by decide +kernel) rfl)⟩
theorem fX6_30 : v_fld RX6 30 6 2 := ⟨RX6, TX6, 11, by decide, rfl, by decide, inX6, Or.inl (gw_t 94 (by decide +kernel) rfl)⟩
theorem gX6_30 : v_fldP RX6 30 6 2 .int false := ⟨RX6, TX6, 11, tyX6, by decide, rfl, by decide, inX6, tyX6_ok, nmX6, rfl, by decide +kernel, (fun h => by cases h), Or.inl (gw_t 94 (by decide +kernel) rfl)⟩
theorem fX6_33 : v_fld RX6 33 6 3 := ⟨RX6, TX6, 11, by decide, rfl, by decide, inX6, Or.inl (gw_t 95 (by decide +kernel) rfl)⟩
theorem gX6_33 : v_fldP RX6 33 6 3 .int false := ⟨RX6, TX6, 11, tyX6, by decide, rfl, by decide, inX6, tyX6_ok, nmX6, rfl, by decide +kernel, (fun h => by cases h), Or.inl (gw_t 95 (by decide +kernel) rfl)⟩
theorem fX6_52 : v_fld RX6 52 6 4 := ⟨RX6, TX6, 11, by decide, rfl, by decide, inX6, Or.inl (gw_t 96 (by decide +kernel) rfl)⟩
theorem gX6_52 : v_fldP RX6 52 6 4 .int false := ⟨RX6, TX6, 11, tyX6, by decide, rfl, by decide, inX6, tyX6_ok, nmX6, rfl, by decide +kernel, (fun h => by cases h), Or.inl (gw_t 96 (by decide +kernel) rfl)⟩
theorem fX6_55 : v_fld RX6 55 6 5 := ⟨RX6, TX6, 11, by decide, rfl, by decide, inX6, Or.inl (gw_t 97 (by decide +kernel) rfl)⟩
theorem gX6_55 : v_fldP RX6 55 6 5 .int false := ⟨RX6, TX6, 11, tyX6, by decide, rfl, by decide, inX6, tyX6_ok, nmX6, rfl, by decide +kernel, (fun h => by cases h), Or.inl (gw_t 97 (by decide +kernel) rfl)⟩
theorem fX6_79 : v_fld RX6 79 6 6 := ⟨RX6, TX6, 11, by decide, rfl, by decide, inX6, Or.inl (gw_t 98 (by decide +kernel) rfl)⟩
theorem gX6_79 : v_fldP RX6 79 6 6 .long false := ⟨RX6, TX6, 11, tyX6, by decide, rfl, by decide, inX6, tyX6_ok, nmX6, rfl, by decide +kernel, (fun h => by cases h), Or.inl (gw_t 98 (by decide +kernel) rfl)⟩
theorem fX6_83 : v_fld RX6 83 6 7 := ⟨RX6, TX6, 11, by decide, rfl, by decide, inX6, Or.inl (gw_t 99 (by decide +kernel) rfl)⟩
theorem gX6_83 : v_fldP RX6 83 6 7 .int false := ⟨RX6, TX6, 11, tyX6, by decide, rfl, by decide, inX6, tyX6_ok, nmX6, rfl, by decide +kernel, (fun h => by cases h), Or.inl (gw_t 99 (by decide +kernel) rfl)⟩
theorem fX6_36 : v_fld RX6 36 6 8 := ⟨RX6, TX6, 11, by decide, rfl, by decide, inX6, Or.inl (gw_t 100 (by decide +kernel) rfl)⟩
theorem gX6_36 : v_fldP RX6 36 6 8 .int false := ⟨RX6, TX6, 11, tyX6, by decide, rfl, by decide, inX6, tyX6_ok, nmX6, rfl, by decide +kernel, (fun h => by cases h), Or.inl (gw_t 100 (by decide +kernel) rfl)⟩
theorem fX6_39 : v_fld RX6 39 6 9 := ⟨RX6, TX6, 11, by decide, rfl, by decide, inX6, Or.inl (gw_t 102 (by decide +kernel) rfl)⟩
theorem gX6_39 : v_fldP RX6 39 6 9 .int false := ⟨RX6, TX6, 11, tyX6, by decide, rfl, by decide, inX6, tyX6_ok, nmX6, rfl, by decide +kernel, (fun h => by cases h), Or.inl (gw_t 102 (by decide +kernel) rfl)⟩
theorem fX6_18 : v_fld RX6 18 6 10 := ⟨RX6, TX6, 11, by decide, rfl, by decide, inX6, Or.inl (gw_t 104 (by decide +kernel) rfl)⟩
theorem gX6_18 : v_fldP RX6 18 6 10 (.object "DrawnWays$Book") false := ⟨RX6, TX6, 11, tyX6, by decide, rfl, by decide, inX6, tyX6_ok, nmX6, rfl, by decide +kernel, (fun h => by cases h), Or.inl (gw_t 104 (by decide +kernel) rfl)⟩
theorem fX4_9 : v_fld RX4 9 4 0 := ⟨RX4, TX4, 13, by decide, rfl, by decide, inX4, Or.inl (gw_t 141 (by decide +kernel) rfl)⟩
theorem gX4_9 : v_fldP RX4 9 4 0 (.array .int) true := ⟨RX4, TX4, 13, tyX4, by decide, rfl, by decide, inX4, tyX4_ok, nmX4, rfl, by decide +kernel, (fun _ => rfl), Or.inl (gw_t 141 (by decide +kernel) rfl)⟩
theorem fX4_15 : v_fld RX4 15 4 1 := ⟨RX4, TX4, 13, by decide, rfl, by decide, inX4, Or.inl (gw_t 143 (by decide +kernel) rfl)⟩
theorem gX4_15 : v_fldP RX4 15 4 1 (.array .int) true := ⟨RX4, TX4, 13, tyX4, by decide, rfl, by decide, inX4, tyX4_ok, nmX4, rfl, by decide +kernel, (fun _ => rfl), Or.inl (gw_t 143 (by decide +kernel) rfl)⟩
theorem fX4_18 : v_fld RX4 18 4 2 := ⟨RX4, TX4, 13, by decide, rfl, by decide, inX4, Or.inl (gw_t 144 (by decide +kernel) rfl)⟩
theorem gX4_18 : v_fldP RX4 18 4 2 (.array .int) true := ⟨RX4, TX4, 13, tyX4, by decide, rfl, by decide, inX4, tyX4_ok, nmX4, rfl, by decide +kernel, (fun _ => rfl), Or.inl (gw_t 144 (by decide +kernel) rfl)⟩
theorem fX4_21 : v_fld RX4 21 4 3 := ⟨RX4, TX4, 13, by decide, rfl, by decide, inX4, Or.inl (gw_t 146 (by decide +kernel) rfl)⟩
theorem gX4_21 : v_fldP RX4 21 4 3 (.array .int) true := ⟨RX4, TX4, 13, tyX4, by decide, rfl, by decide, inX4, tyX4_ok, nmX4, rfl, by decide +kernel, (fun _ => rfl), Or.inl (gw_t 146 (by decide +kernel) rfl)⟩
theorem fX4_24 : v_fld RX4 24 4 4 := ⟨RX4, TX4, 13, by decide, rfl, by decide, inX4, Or.inl (gw_t 147 (by decide +kernel) rfl)⟩
theorem gX4_24 : v_fldP RX4 24 4 4 (.array .int) true := ⟨RX4, TX4, 13, tyX4, by decide, rfl, by decide, inX4, tyX4_ok, nmX4, rfl, by decide +kernel, (fun _ => rfl), Or.inl (gw_t 147 (by decide +kernel) rfl)⟩
theorem fX4_27 : v_fld RX4 27 4 5 := ⟨RX4, TX4, 13, by decide, rfl, by decide, inX4, Or.inl (gw_t 148 (by decide +kernel) rfl)⟩
theorem gX4_27 : v_fldP RX4 27 4 5 (.array .int) true := ⟨RX4, TX4, 13, tyX4, by decide, rfl, by decide, inX4, tyX4_ok, nmX4, rfl, by decide +kernel, (fun _ => rfl), Or.inl (gw_t 148 (by decide +kernel) rfl)⟩
theorem fX4_30 : v_fld RX4 30 4 6 := ⟨RX4, TX4, 13, by decide, rfl, by decide, inX4, Or.inl (gw_t 150 (by decide +kernel) rfl)⟩
theorem gX4_30 : v_fldP RX4 30 4 6 (.array .int) true := ⟨RX4, TX4, 13, tyX4, by decide, rfl, by decide, inX4, tyX4_ok, nmX4, rfl, by decide +kernel, (fun _ => rfl), Or.inl (gw_t 150 (by decide +kernel) rfl)⟩
theorem fX4_33 : v_fld RX4 33 4 7 := ⟨RX4, TX4, 13, by decide, rfl, by decide, inX4, Or.inl (gw_t 151 (by decide +kernel) rfl)⟩
theorem gX4_33 : v_fldP RX4 33 4 7 .int false := ⟨RX4, TX4, 13, tyX4, by decide, rfl, by decide, inX4, tyX4_ok, nmX4, rfl, by decide +kernel, (fun h => by cases h), Or.inl (gw_t 151 (by decide +kernel) rfl)⟩
theorem fX4_42 : v_fld RX4 42 4 8 := ⟨RX4, TX4, 13, by decide, rfl, by decide, inX4, Or.inl (gw_t 152 (by decide +kernel) rfl)⟩
theorem gX4_42 : v_fldP RX4 42 4 8 .int false := ⟨RX4, TX4, 13, tyX4, by decide, rfl, by decide, inX4, tyX4_ok, nmX4, rfl, by decide +kernel, (fun h => by cases h), Or.inl (gw_t 152 (by decide +kernel) rfl)⟩
theorem fX4_45 : v_fld RX4 45 4 9 := ⟨RX4, TX4, 13, by decide, rfl, by decide, inX4, Or.inl (gw_t 155 (by decide +kernel) rfl)⟩
theorem gX4_45 : v_fldP RX4 45 4 9 .int false := ⟨RX4, TX4, 13, tyX4, by decide, rfl, by decide, inX4, tyX4_ok, nmX4, rfl, by decide +kernel, (fun h => by cases h), Or.inl (gw_t 155 (by decide +kernel) rfl)⟩
theorem fX4_76 : v_fld RX4 76 4 10 := ⟨RX4, TX4, 13, by decide, rfl, by decide, inX4, Or.inl (gw_t 158 (by decide +kernel) rfl)⟩
theorem gX4_76 : v_fldP RX4 76 4 10 .int false := ⟨RX4, TX4, 13, tyX4, by decide, rfl, by decide, inX4, tyX4_ok, nmX4, rfl, by decide +kernel, (fun h => by cases h), Or.inl (gw_t 158 (by decide +kernel) rfl)⟩
theorem fX4_79 : v_fld RX4 79 4 11 := ⟨RX4, TX4, 13, by decide, rfl, by decide, inX4, Or.inl (gw_t 159 (by decide +kernel) rfl)⟩
theorem gX4_79 : v_fldP RX4 79 4 11 .int false := ⟨RX4, TX4, 13, tyX4, by decide, rfl, by decide, inX4, tyX4_ok, nmX4, rfl, by decide +kernel, (fun h => by cases h), Or.inl (gw_t 159 (by decide +kernel) rfl)⟩
theorem fX4_89 : v_fld RX4 89 4 12 := ⟨RX4, TX4, 13, by decide, rfl, by decide, inX4, Or.inl (gw_t 161 (by decide +kernel) rfl)⟩
theorem gX4_89 : v_fldP RX4 89 4 12 .int false := ⟨RX4, TX4, 13, tyX4, by decide, rfl, by decide, inX4, tyX4_ok, nmX4, rfl, by decide +kernel, (fun h => by cases h), Or.inl (gw_t 161 (by decide +kernel) rfl)⟩
theorem fX3_9 : v_fld RX3 9 3 0 := ⟨RX3, TX3, 20, by decide, rfl, by decide, inX3, Or.inl (gw_t 195 (by decide +kernel) rfl)⟩
theorem gX3_9 : v_fldP RX3 9 3 0 (.array .long) true := ⟨RX3, TX3, 20, tyX3, by decide, rfl, by decide, inX3, tyX3_ok, nmX3, rfl, by decide +kernel, (fun _ => rfl), Or.inl (gw_t 195 (by decide +kernel) rfl)⟩
theorem fX3_15 : v_fld RX3 15 3 1 := ⟨RX3, TX3, 20, by decide, rfl, by decide, inX3, Or.inl (gw_t 196 (by decide +kernel) rfl)⟩
theorem gX3_15 : v_fldP RX3 15 3 1 (.array .int) true := ⟨RX3, TX3, 20, tyX3, by decide, rfl, by decide, inX3, tyX3_ok, nmX3, rfl, by decide +kernel, (fun _ => rfl), Or.inl (gw_t 196 (by decide +kernel) rfl)⟩
theorem fX3_19 : v_fld RX3 19 3 2 := ⟨RX3, TX3, 20, by decide, rfl, by decide, inX3, Or.inl (gw_t 198 (by decide +kernel) rfl)⟩
theorem gX3_19 : v_fldP RX3 19 3 2 (.array .int) true := ⟨RX3, TX3, 20, tyX3, by decide, rfl, by decide, inX3, tyX3_ok, nmX3, rfl, by decide +kernel, (fun _ => rfl), Or.inl (gw_t 198 (by decide +kernel) rfl)⟩
theorem fX3_22 : v_fld RX3 22 3 3 := ⟨RX3, TX3, 20, by decide, rfl, by decide, inX3, Or.inl (gw_t 200 (by decide +kernel) rfl)⟩
theorem gX3_22 : v_fldP RX3 22 3 3 (.array .int) true := ⟨RX3, TX3, 20, tyX3, by decide, rfl, by decide, inX3, tyX3_ok, nmX3, rfl, by decide +kernel, (fun _ => rfl), Or.inl (gw_t 200 (by decide +kernel) rfl)⟩
theorem fX3_25 : v_fld RX3 25 3 4 := ⟨RX3, TX3, 20, by decide, rfl, by decide, inX3, Or.inl (gw_t 201 (by decide +kernel) rfl)⟩
theorem gX3_25 : v_fldP RX3 25 3 4 (.array .int) true := ⟨RX3, TX3, 20, tyX3, by decide, rfl, by decide, inX3, tyX3_ok, nmX3, rfl, by decide +kernel, (fun _ => rfl), Or.inl (gw_t 201 (by decide +kernel) rfl)⟩
theorem fX3_28 : v_fld RX3 28 3 5 := ⟨RX3, TX3, 20, by decide, rfl, by decide, inX3, Or.inl (gw_t 203 (by decide +kernel) rfl)⟩
theorem gX3_28 : v_fldP RX3 28 3 5 (.array .int) true := ⟨RX3, TX3, 20, tyX3, by decide, rfl, by decide, inX3, tyX3_ok, nmX3, rfl, by decide +kernel, (fun _ => rfl), Or.inl (gw_t 203 (by decide +kernel) rfl)⟩
theorem fX3_31 : v_fld RX3 31 3 6 := ⟨RX3, TX3, 20, by decide, rfl, by decide, inX3, Or.inl (gw_t 204 (by decide +kernel) rfl)⟩
theorem gX3_31 : v_fldP RX3 31 3 6 (.array .int) true := ⟨RX3, TX3, 20, tyX3, by decide, rfl, by decide, inX3, tyX3_ok, nmX3, rfl, by decide +kernel, (fun _ => rfl), Or.inl (gw_t 204 (by decide +kernel) rfl)⟩
theorem fX3_34 : v_fld RX3 34 3 7 := ⟨RX3, TX3, 20, by decide, rfl, by decide, inX3, Or.inl (gw_t 205 (by decide +kernel) rfl)⟩
theorem gX3_34 : v_fldP RX3 34 3 7 (.array .int) true := ⟨RX3, TX3, 20, tyX3, by decide, rfl, by decide, inX3, tyX3_ok, nmX3, rfl, by decide +kernel, (fun _ => rfl), Or.inl (gw_t 205 (by decide +kernel) rfl)⟩
theorem fX3_37 : v_fld RX3 37 3 8 := ⟨RX3, TX3, 20, by decide, rfl, by decide, inX3, Or.inl (gw_t 207 (by decide +kernel) rfl)⟩
theorem gX3_37 : v_fldP RX3 37 3 8 (.array .int) true := ⟨RX3, TX3, 20, tyX3, by decide, rfl, by decide, inX3, tyX3_ok, nmX3, rfl, by decide +kernel, (fun _ => rfl), Or.inl (gw_t 207 (by decide +kernel) rfl)⟩
theorem fX3_40 : v_fld RX3 40 3 9 := ⟨RX3, TX3, 20, by decide, rfl, by decide, inX3, Or.inl (gw_t 208 (by decide +kernel) rfl)⟩
theorem gX3_40 : v_fldP RX3 40 3 9 (.array .int) true := ⟨RX3, TX3, 20, tyX3, by decide, rfl, by decide, inX3, tyX3_ok, nmX3, rfl, by decide +kernel, (fun _ => rfl), Or.inl (gw_t 208 (by decide +kernel) rfl)⟩
theorem fX3_43 : v_fld RX3 43 3 10 := ⟨RX3, TX3, 20, by decide, rfl, by decide, inX3, Or.inl (gw_t 209 (by decide +kernel) rfl)⟩
theorem gX3_43 : v_fldP RX3 43 3 10 (.array .int) true := ⟨RX3, TX3, 20, tyX3, by decide, rfl, by decide, inX3, tyX3_ok, nmX3, rfl, by decide +kernel, (fun _ => rfl), Or.inl (gw_t 209 (by decide +kernel) rfl)⟩
theorem fX3_46 : v_fld RX3 46 3 11 := ⟨RX3, TX3, 20, by decide, rfl, by decide, inX3, Or.inl (gw_t 210 (by decide +kernel) rfl)⟩
theorem gX3_46 : v_fldP RX3 46 3 11 (.array .int) true := ⟨RX3, TX3, 20, tyX3, by decide, rfl, by decide, inX3, tyX3_ok, nmX3, rfl, by decide +kernel, (fun _ => rfl), Or.inl (gw_t 210 (by decide +kernel) rfl)⟩
theorem fX3_49 : v_fld RX3 49 3 12 := ⟨RX3, TX3, 20, by decide, rfl, by decide, inX3, Or.inl (gw_t 211 (by decide +kernel) rfl)⟩
theorem gX3_49 : v_fldP RX3 49 3 12 (.array .int) true := ⟨RX3, TX3, 20, tyX3, by decide, rfl, by decide, inX3, tyX3_ok, nmX3, rfl, by decide +kernel, (fun _ => rfl), Or.inl (gw_t 211 (by decide +kernel) rfl)⟩
theorem fX3_52 : v_fld RX3 52 3 13 := ⟨RX3, TX3, 20, by decide, rfl, by decide, inX3, Or.inl (gw_t 214 (by decide +kernel) rfl)⟩
theorem gX3_52 : v_fldP RX3 52 3 13 (.array .int) true := ⟨RX3, TX3, 20, tyX3, by decide, rfl, by decide, inX3, tyX3_ok, nmX3, rfl, by decide +kernel, (fun _ => rfl), Or.inl (gw_t 214 (by decide +kernel) rfl)⟩
theorem fX3_55 : v_fld RX3 55 3 14 := ⟨RX3, TX3, 20, by decide, rfl, by decide, inX3, Or.inl (gw_t 218 (by decide +kernel) rfl)⟩
theorem gX3_55 : v_fldP RX3 55 3 14 (.array .int) true := ⟨RX3, TX3, 20, tyX3, by decide, rfl, by decide, inX3, tyX3_ok, nmX3, rfl, by decide +kernel, (fun _ => rfl), Or.inl (gw_t 218 (by decide +kernel) rfl)⟩
theorem fX3_58 : v_fld RX3 58 3 15 := ⟨RX3, TX3, 20, by decide, rfl, by decide, inX3, Or.inl (gw_t 221 (by decide +kernel) rfl)⟩
theorem gX3_58 : v_fldP RX3 58 3 15 (.array .boolean) true := ⟨RX3, TX3, 20, tyX3, by decide, rfl, by decide, inX3, tyX3_ok, nmX3, rfl, by decide +kernel, (fun _ => rfl), Or.inl (gw_t 221 (by decide +kernel) rfl)⟩
theorem fX3_62 : v_fld RX3 62 3 16 := ⟨RX3, TX3, 20, by decide, rfl, by decide, inX3, Or.inl (gw_t 223 (by decide +kernel) rfl)⟩
theorem gX3_62 : v_fldP RX3 62 3 16 .int false := ⟨RX3, TX3, 20, tyX3, by decide, rfl, by decide, inX3, tyX3_ok, nmX3, rfl, by decide +kernel, (fun h => by cases h), Or.inl (gw_t 223 (by decide +kernel) rfl)⟩
theorem fX3_66 : v_fld RX3 66 3 17 := ⟨RX3, TX3, 20, by decide, rfl, by decide, inX3, Or.inl (gw_t 226 (by decide +kernel) rfl)⟩
theorem gX3_66 : v_fldP RX3 66 3 17 .int false := ⟨RX3, TX3, 20, tyX3, by decide, rfl, by decide, inX3, tyX3_ok, nmX3, rfl, by decide +kernel, (fun h => by cases h), Or.inl (gw_t 226 (by decide +kernel) rfl)⟩
theorem fX3_69 : v_fld RX3 69 3 18 := ⟨RX3, TX3, 20, by decide, rfl, by decide, inX3, Or.inl (gw_t 229 (by decide +kernel) rfl)⟩
theorem gX3_69 : v_fldP RX3 69 3 18 .int false := ⟨RX3, TX3, 20, tyX3, by decide, rfl, by decide, inX3, tyX3_ok, nmX3, rfl, by decide +kernel, (fun h => by cases h), Or.inl (gw_t 229 (by decide +kernel) rfl)⟩
theorem fX3_72 : v_fld RX3 72 3 19 := ⟨RX3, TX3, 20, by decide, rfl, by decide, inX3, Or.inl (gw_t 232 (by decide +kernel) rfl)⟩
theorem gX3_72 : v_fldP RX3 72 3 19 .boolean false := ⟨RX3, TX3, 20, tyX3, by decide, rfl, by decide, inX3, tyX3_ok, nmX3, rfl, by decide +kernel, (fun h => by cases h), Or.inl (gw_t 232 (by decide +kernel) rfl)⟩
theorem fX5_12 : v_fld RX5 12 5 0 := ⟨RX5, TX5, 3, by decide, rfl, by decide, inX5, Or.inl (gw_t 276 (by decide +kernel) rfl)⟩
theorem gX5_12 : v_fldP RX5 12 5 0 (.object "DrawnWays$Layout") true := ⟨RX5, TX5, 3, tyX5, by decide, rfl, by decide, inX5, tyX5_ok, nmX5, rfl, by decide +kernel, (fun _ => rfl), Or.inl (gw_t 276 (by decide +kernel) rfl)⟩
theorem fX5_18 : v_fld RX5 18 5 1 := ⟨RX5, TX5, 3, by decide, rfl, by decide, inX5, Or.inl (gw_t 277 (by decide +kernel) rfl)⟩
theorem gX5_18 : v_fldP RX5 18 5 1 (.array .int) true := ⟨RX5, TX5, 3, tyX5, by decide, rfl, by decide, inX5, tyX5_ok, nmX5, rfl, by decide +kernel, (fun _ => rfl), Or.inl (gw_t 277 (by decide +kernel) rfl)⟩
theorem fX5_25 : v_fld RX5 25 5 2 := ⟨RX5, TX5, 3, by decide, rfl, by decide, inX5, Or.inl (gw_t 278 (by decide +kernel) rfl)⟩
theorem gX5_25 : v_fldP RX5 25 5 2 (.object "DrawnWays$Gallery") false := ⟨RX5, TX5, 3, tyX5, by decide, rfl, by decide, inX5, tyX5_ok, nmX5, rfl, by decide +kernel, (fun h => by cases h), Or.inl (gw_t 278 (by decide +kernel) rfl)⟩
theorem fX2_9 : v_fld RX2 9 2 0 := ⟨RX2, TX2, 6, by decide, rfl, by decide, inX2, Or.inl (gw_t 293 (by decide +kernel) rfl)⟩
theorem gX2_9 : v_fldP RX2 9 2 0 (.array .int) true := ⟨RX2, TX2, 6, tyX2, by decide, rfl, by decide, inX2, tyX2_ok, nmX2, rfl, by decide +kernel, (fun _ => rfl), Or.inl (gw_t 293 (by decide +kernel) rfl)⟩
theorem fX2_13 : v_fld RX2 13 2 1 := ⟨RX2, TX2, 6, by decide, rfl, by decide, inX2, Or.inl (gw_t 294 (by decide +kernel) rfl)⟩
theorem gX2_13 : v_fldP RX2 13 2 1 (.array .long) true := ⟨RX2, TX2, 6, tyX2, by decide, rfl, by decide, inX2, tyX2_ok, nmX2, rfl, by decide +kernel, (fun _ => rfl), Or.inl (gw_t 294 (by decide +kernel) rfl)⟩
theorem fX2_17 : v_fld RX2 17 2 2 := ⟨RX2, TX2, 6, by decide, rfl, by decide, inX2, Or.inl (gw_t 295 (by decide +kernel) rfl)⟩
theorem gX2_17 : v_fldP RX2 17 2 2 (.array .long) true := ⟨RX2, TX2, 6, tyX2, by decide, rfl, by decide, inX2, tyX2_ok, nmX2, rfl, by decide +kernel, (fun _ => rfl), Or.inl (gw_t 295 (by decide +kernel) rfl)⟩
theorem fX2_70 : v_fld RX2 70 2 3 := ⟨RX2, TX2, 6, by decide, rfl, by decide, inX2, Or.inl (gw_t 296 (by decide +kernel) rfl)⟩
theorem gX2_70 : v_fldP RX2 70 2 3 .boolean false := ⟨RX2, TX2, 6, tyX2, by decide, rfl, by decide, inX2, tyX2_ok, nmX2, rfl, by decide +kernel, (fun h => by cases h), Or.inl (gw_t 296 (by decide +kernel) rfl)⟩
theorem fX2_58 : v_fld RX2 58 2 4 := ⟨RX2, TX2, 6, by decide, rfl, by decide, inX2, Or.inl (gw_t 298 (by decide +kernel) rfl)⟩
theorem gX2_58 : v_fldP RX2 58 2 4 .long false := ⟨RX2, TX2, 6, tyX2, by decide, rfl, by decide, inX2, tyX2_ok, nmX2, rfl, by decide +kernel, (fun h => by cases h), Or.inl (gw_t 298 (by decide +kernel) rfl)⟩
theorem fX2_65 : v_fld RX2 65 2 5 := ⟨RX2, TX2, 6, by decide, rfl, by decide, inX2, Or.inl (gw_t 300 (by decide +kernel) rfl)⟩
theorem gX2_65 : v_fldP RX2 65 2 5 .long false := ⟨RX2, TX2, 6, tyX2, by decide, rfl, by decide, inX2, tyX2_ok, nmX2, rfl, by decide +kernel, (fun h => by cases h), Or.inl (gw_t 300 (by decide +kernel) rfl)⟩
theorem fX1_9 : v_fld RX1 9 1 0 := ⟨RX1, TX1, 3, by decide, rfl, by decide, inX1, Or.inl (gw_t 321 (by decide +kernel) rfl)⟩
theorem gX1_9 : v_fldP RX1 9 1 0 (.array .int) true := ⟨RX1, TX1, 3, tyX1, by decide, rfl, by decide, inX1, tyX1_ok, nmX1, rfl, by decide +kernel, (fun _ => rfl), Or.inl (gw_t 321 (by decide +kernel) rfl)⟩
theorem fX1_15 : v_fld RX1 15 1 1 := ⟨RX1, TX1, 3, by decide, rfl, by decide, inX1, Or.inl (gw_t 324 (by decide +kernel) rfl)⟩
theorem gX1_15 : v_fldP RX1 15 1 1 (.array .int) true := ⟨RX1, TX1, 3, tyX1, by decide, rfl, by decide, inX1, tyX1_ok, nmX1, rfl, by decide +kernel, (fun _ => rfl), Or.inl (gw_t 324 (by decide +kernel) rfl)⟩
theorem fX1_18 : v_fld RX1 18 1 2 := ⟨RX1, TX1, 3, by decide, rfl, by decide, inX1, Or.inl (gw_t 326 (by decide +kernel) rfl)⟩
theorem gX1_18 : v_fldP RX1 18 1 2 .int false := ⟨RX1, TX1, 3, tyX1, by decide, rfl, by decide, inX1, tyX1_ok, nmX1, rfl, by decide +kernel, (fun h => by cases h), Or.inl (gw_t 326 (by decide +kernel) rfl)⟩
theorem fX7_11 : v_fld RX7 11 7 0 := ⟨RX7, TX7, 6, by decide, rfl, by decide, inX7, Or.inl (gw_t 342 (by decide +kernel) rfl)⟩
theorem gX7_11 : v_fldP RX7 11 7 0 (.array .long) true := ⟨RX7, TX7, 6, tyX7, by decide, rfl, by decide, inX7, tyX7_ok, nmX7, rfl, by decide +kernel, (fun _ => rfl), Or.inl (gw_t 342 (by decide +kernel) rfl)⟩
theorem fX7_15 : v_fld RX7 15 7 1 := ⟨RX7, TX7, 6, by decide, rfl, by decide, inX7, Or.inl (gw_t 343 (by decide +kernel) rfl)⟩
theorem gX7_15 : v_fldP RX7 15 7 1 (.array .long) true := ⟨RX7, TX7, 6, tyX7, by decide, rfl, by decide, inX7, tyX7_ok, nmX7, rfl, by decide +kernel, (fun _ => rfl), Or.inl (gw_t 343 (by decide +kernel) rfl)⟩
theorem fX7_18 : v_fld RX7 18 7 2 := ⟨RX7, TX7, 6, by decide, rfl, by decide, inX7, Or.inl (gw_t 344 (by decide +kernel) rfl)⟩
theorem gX7_18 : v_fldP RX7 18 7 2 .int false := ⟨RX7, TX7, 6, tyX7, by decide, rfl, by decide, inX7, tyX7_ok, nmX7, rfl, by decide +kernel, (fun h => by cases h), Or.inl (gw_t 344 (by decide +kernel) rfl)⟩
theorem fX7_22 : v_fld RX7 22 7 3 := ⟨RX7, TX7, 6, by decide, rfl, by decide, inX7, Or.inl (gw_t 346 (by decide +kernel) rfl)⟩
theorem gX7_22 : v_fldP RX7 22 7 3 .boolean false := ⟨RX7, TX7, 6, tyX7, by decide, rfl, by decide, inX7, tyX7_ok, nmX7, rfl, by decide +kernel, (fun h => by cases h), Or.inl (gw_t 346 (by decide +kernel) rfl)⟩
theorem fX7_118 : v_fld RX7 118 7 4 := ⟨RX7, TX7, 6, by decide, rfl, by decide, inX7, Or.inl (gw_t 347 (by decide +kernel) rfl)⟩
theorem gX7_118 : v_fldP RX7 118 7 4 .long false := ⟨RX7, TX7, 6, tyX7, by decide, rfl, by decide, inX7, tyX7_ok, nmX7, rfl, by decide +kernel, (fun h => by cases h), Or.inl (gw_t 347 (by decide +kernel) rfl)⟩
theorem fX7_122 : v_fld RX7 122 7 5 := ⟨RX7, TX7, 6, by decide, rfl, by decide, inX7, Or.inl (gw_t 349 (by decide +kernel) rfl)⟩
theorem gX7_122 : v_fldP RX7 122 7 5 .long false := ⟨RX7, TX7, 6, tyX7, by decide, rfl, by decide, inX7, tyX7_ok, nmX7, rfl, by decide +kernel, (fun h => by cases h), Or.inl (gw_t 349 (by decide +kernel) rfl)⟩
theorem fX8_10 : v_fld RX8 10 8 0 := ⟨RX8, TX8, 18, by decide, rfl, by decide, inX8, Or.inl (gw_t 368 (by decide +kernel) rfl)⟩
theorem gX8_10 : v_fldP RX8 10 8 0 (.object "DrawnWays$Reader") true := ⟨RX8, TX8, 18, tyX8, by decide, rfl, by decide, inX8, tyX8_ok, nmX8, rfl, by decide +kernel, (fun _ => rfl), Or.inl (gw_t 368 (by decide +kernel) rfl)⟩
theorem fX8_19 : v_fld RX8 19 8 1 := ⟨RX8, TX8, 18, by decide, rfl, by decide, inX8, Or.inl (gw_t 369 (by decide +kernel) rfl)⟩
theorem gX8_19 : v_fldP RX8 19 8 1 (.object "DrawnWays$Lister") true := ⟨RX8, TX8, 18, tyX8, by decide, rfl, by decide, inX8, tyX8_ok, nmX8, rfl, by decide +kernel, (fun _ => rfl), Or.inl (gw_t 369 (by decide +kernel) rfl)⟩
theorem fX8_26 : v_fld RX8 26 8 2 := ⟨RX8, TX8, 18, by decide, rfl, by decide, inX8, Or.inl (gw_t 370 (by decide +kernel) rfl)⟩
theorem gX8_26 : v_fldP RX8 26 8 2 (.object "DrawnWays$ExactSum") true := ⟨RX8, TX8, 18, tyX8, by decide, rfl, by decide, inX8, tyX8_ok, nmX8, rfl, by decide +kernel, (fun _ => rfl), Or.inl (gw_t 370 (by decide +kernel) rfl)⟩
theorem fX8_33 : v_fld RX8 33 8 3 := ⟨RX8, TX8, 18, by decide, rfl, by decide, inX8, Or.inl (gw_t 371 (by decide +kernel) rfl)⟩
theorem gX8_33 : v_fldP RX8 33 8 3 (.object "DrawnWays$Ends") true := ⟨RX8, TX8, 18, tyX8, by decide, rfl, by decide, inX8, tyX8_ok, nmX8, rfl, by decide +kernel, (fun _ => rfl), Or.inl (gw_t 371 (by decide +kernel) rfl)⟩
theorem fX8_37 : v_fld RX8 37 8 4 := ⟨RX8, TX8, 18, by decide, rfl, by decide, inX8, Or.inl (gw_t 372 (by decide +kernel) rfl)⟩
theorem gX8_37 : v_fldP RX8 37 8 4 (.object "DrawnWays$Ends") true := ⟨RX8, TX8, 18, tyX8, by decide, rfl, by decide, inX8, tyX8_ok, nmX8, rfl, by decide +kernel, (fun _ => rfl), Or.inl (gw_t 372 (by decide +kernel) rfl)⟩
theorem fX8_40 : v_fld RX8 40 8 5 := ⟨RX8, TX8, 18, by decide, rfl, by decide, inX8, Or.inl (gw_t 373 (by decide +kernel) rfl)⟩
theorem gX8_40 : v_fldP RX8 40 8 5 (.object "DrawnWays$Ends") true := ⟨RX8, TX8, 18, tyX8, by decide, rfl, by decide, inX8, tyX8_ok, nmX8, rfl, by decide +kernel, (fun _ => rfl), Or.inl (gw_t 373 (by decide +kernel) rfl)⟩
theorem fX8_46 : v_fld RX8 46 8 6 := ⟨RX8, TX8, 18, by decide, rfl, by decide, inX8, Or.inl (gw_t 374 (by decide +kernel) rfl)⟩
theorem gX8_46 : v_fldP RX8 46 8 6 (.object "DrawnWays$Reckoning") true := ⟨RX8, TX8, 18, tyX8, by decide, rfl, by decide, inX8, tyX8_ok, nmX8, rfl, by decide +kernel, (fun _ => rfl), Or.inl (gw_t 374 (by decide +kernel) rfl)⟩
theorem fX8_50 : v_fld RX8 50 8 7 := ⟨RX8, TX8, 18, by decide, rfl, by decide, inX8, Or.inl (gw_t 375 (by decide +kernel) rfl)⟩
theorem gX8_50 : v_fldP RX8 50 8 7 (.object "DrawnWays$Reckoning") true := ⟨RX8, TX8, 18, tyX8, by decide, rfl, by decide, inX8, tyX8_ok, nmX8, rfl, by decide +kernel, (fun _ => rfl), Or.inl (gw_t 375 (by decide +kernel) rfl)⟩
theorem fX8_53 : v_fld RX8 53 8 8 := ⟨RX8, TX8, 18, by decide, rfl, by decide, inX8, Or.inl (gw_t 376 (by decide +kernel) rfl)⟩
theorem gX8_53 : v_fldP RX8 53 8 8 (.array .int) true := ⟨RX8, TX8, 18, tyX8, by decide, rfl, by decide, inX8, tyX8_ok, nmX8, rfl, by decide +kernel, (fun _ => rfl), Or.inl (gw_t 376 (by decide +kernel) rfl)⟩
theorem fX8_57 : v_fld RX8 57 8 9 := ⟨RX8, TX8, 18, by decide, rfl, by decide, inX8, Or.inl (gw_t 377 (by decide +kernel) rfl)⟩
theorem gX8_57 : v_fldP RX8 57 8 9 (.array .int) true := ⟨RX8, TX8, 18, tyX8, by decide, rfl, by decide, inX8, tyX8_ok, nmX8, rfl, by decide +kernel, (fun _ => rfl), Or.inl (gw_t 377 (by decide +kernel) rfl)⟩
theorem fX8_63 : v_fld RX8 63 8 10 := ⟨RX8, TX8, 18, by decide, rfl, by decide, inX8, Or.inl (gw_t 378 (by decide +kernel) rfl)⟩
theorem gX8_63 : v_fldP RX8 63 8 10 (.object "DrawnWays$Book") false := ⟨RX8, TX8, 18, tyX8, by decide, rfl, by decide, inX8, tyX8_ok, nmX8, rfl, by decide +kernel, (fun h => by cases h), Or.inl (gw_t 378 (by decide +kernel) rfl)⟩
theorem fX8_70 : v_fld RX8 70 8 11 := ⟨RX8, TX8, 18, by decide, rfl, by decide, inX8, Or.inl (gw_t 379 (by decide +kernel) rfl)⟩
theorem gX8_70 : v_fldP RX8 70 8 11 (.object "DrawnWays$Gallery") false := ⟨RX8, TX8, 18, tyX8, by decide, rfl, by decide, inX8, tyX8_ok, nmX8, rfl, by decide +kernel, (fun h => by cases h), Or.inl (gw_t 379 (by decide +kernel) rfl)⟩
theorem fX8_74 : v_fld RX8 74 8 12 := ⟨RX8, TX8, 18, by decide, rfl, by decide, inX8, Or.inl (gw_t 380 (by decide +kernel) rfl)⟩
theorem gX8_74 : v_fldP RX8 74 8 12 (.object "DrawnWays$Reckoning") false := ⟨RX8, TX8, 18, tyX8, by decide, rfl, by decide, inX8, tyX8_ok, nmX8, rfl, by decide +kernel, (fun h => by cases h), Or.inl (gw_t 380 (by decide +kernel) rfl)⟩
theorem fX8_77 : v_fld RX8 77 8 13 := ⟨RX8, TX8, 18, by decide, rfl, by decide, inX8, Or.inl (gw_t 381 (by decide +kernel) rfl)⟩
theorem gX8_77 : v_fldP RX8 77 8 13 (.object "DrawnWays$Reckoning") false := ⟨RX8, TX8, 18, tyX8, by decide, rfl, by decide, inX8, tyX8_ok, nmX8, rfl, by decide +kernel, (fun h => by cases h), Or.inl (gw_t 381 (by decide +kernel) rfl)⟩
theorem fX8_102 : v_fld RX8 102 8 14 := ⟨RX8, TX8, 18, by decide, rfl, by decide, inX8, Or.inl (gw_t 382 (by decide +kernel) rfl)⟩
theorem gX8_102 : v_fldP RX8 102 8 14 .boolean false := ⟨RX8, TX8, 18, tyX8, by decide, rfl, by decide, inX8, tyX8_ok, nmX8, rfl, by decide +kernel, (fun h => by cases h), Or.inl (gw_t 382 (by decide +kernel) rfl)⟩
theorem fX8_238 : v_fld RX8 238 8 15 := ⟨RX8, TX8, 18, by decide, rfl, by decide, inX8, Or.inl (gw_t 383 (by decide +kernel) rfl)⟩
theorem gX8_238 : v_fldP RX8 238 8 15 .boolean false := ⟨RX8, TX8, 18, tyX8, by decide, rfl, by decide, inX8, tyX8_ok, nmX8, rfl, by decide +kernel, (fun h => by cases h), Or.inl (gw_t 383 (by decide +kernel) rfl)⟩
theorem fX8_106 : v_fld RX8 106 8 16 := ⟨RX8, TX8, 18, by decide, rfl, by decide, inX8, Or.inl (gw_t 384 (by decide +kernel) rfl)⟩
theorem gX8_106 : v_fldP RX8 106 8 16 .int false := ⟨RX8, TX8, 18, tyX8, by decide, rfl, by decide, inX8, tyX8_ok, nmX8, rfl, by decide +kernel, (fun h => by cases h), Or.inl (gw_t 384 (by decide +kernel) rfl)⟩
theorem fX8_251 : v_fld RX8 251 8 17 := ⟨RX8, TX8, 18, by decide, rfl, by decide, inX8, Or.inl (gw_t 385 (by decide +kernel) rfl)⟩
theorem gX8_251 : v_fldP RX8 251 8 17 .int false := ⟨RX8, TX8, 18, tyX8, by decide, rfl, by decide, inX8, tyX8_ok, nmX8, rfl, by decide +kernel, (fun h => by cases h), Or.inl (gw_t 385 (by decide +kernel) rfl)⟩
theorem fX9_44 : v_fld RX9 44 9 0 := ⟨RX9, TX9, 12, by decide, rfl, by decide, inX9, Or.inl (gw_t 1196 (by decide +kernel) rfl)⟩
theorem gX9_44 : v_fldP RX9 44 9 0 .int false := ⟨RX9, TX9, 12, tyX9, by decide, rfl, by decide, inX9, tyX9_ok, nmX9, rfl, by decide +kernel, (fun h => by cases h), Or.inl (gw_t 1196 (by decide +kernel) rfl)⟩
theorem fX9_9 : v_fld RX9 9 9 2 := ⟨RX9, TX9, 12, by decide, rfl, by decide, inX9, Or.inl (gw_t 1199 (by decide +kernel) rfl)⟩
theorem gX9_9 : v_fldP RX9 9 9 2 (.array .long) true := ⟨RX9, TX9, 12, tyX9, by decide, rfl, by decide, inX9, tyX9_ok, nmX9, rfl, by decide +kernel, (fun _ => rfl), Or.inl (gw_t 1199 (by decide +kernel) rfl)⟩
theorem fX9_15 : v_fld RX9 15 9 3 := ⟨RX9, TX9, 12, by decide, rfl, by decide, inX9, Or.inl (gw_t 1201 (by decide +kernel) rfl)⟩
theorem gX9_15 : v_fldP RX9 15 9 3 (.array .int) true := ⟨RX9, TX9, 12, tyX9, by decide, rfl, by decide, inX9, tyX9_ok, nmX9, rfl, by decide +kernel, (fun _ => rfl), Or.inl (gw_t 1201 (by decide +kernel) rfl)⟩
theorem fX9_19 : v_fld RX9 19 9 4 := ⟨RX9, TX9, 12, by decide, rfl, by decide, inX9, Or.inl (gw_t 1203 (by decide +kernel) rfl)⟩
theorem gX9_19 : v_fldP RX9 19 9 4 (.array .int) true := ⟨RX9, TX9, 12, tyX9, by decide, rfl, by decide, inX9, tyX9_ok, nmX9, rfl, by decide +kernel, (fun _ => rfl), Or.inl (gw_t 1203 (by decide +kernel) rfl)⟩
theorem fX9_22 : v_fld RX9 22 9 5 := ⟨RX9, TX9, 12, by decide, rfl, by decide, inX9, Or.inl (gw_t 1205 (by decide +kernel) rfl)⟩
theorem gX9_22 : v_fldP RX9 22 9 5 (.array .int) true := ⟨RX9, TX9, 12, tyX9, by decide, rfl, by decide, inX9, tyX9_ok, nmX9, rfl, by decide +kernel, (fun _ => rfl), Or.inl (gw_t 1205 (by decide +kernel) rfl)⟩
theorem fX9_25 : v_fld RX9 25 9 6 := ⟨RX9, TX9, 12, by decide, rfl, by decide, inX9, Or.inl (gw_t 1207 (by decide +kernel) rfl)⟩
theorem gX9_25 : v_fldP RX9 25 9 6 (.array .int) true := ⟨RX9, TX9, 12, tyX9, by decide, rfl, by decide, inX9, tyX9_ok, nmX9, rfl, by decide +kernel, (fun _ => rfl), Or.inl (gw_t 1207 (by decide +kernel) rfl)⟩
theorem fX9_28 : v_fld RX9 28 9 7 := ⟨RX9, TX9, 12, by decide, rfl, by decide, inX9, Or.inl (gw_t 1209 (by decide +kernel) rfl)⟩
theorem gX9_28 : v_fldP RX9 28 9 7 (.array .int) true := ⟨RX9, TX9, 12, tyX9, by decide, rfl, by decide, inX9, tyX9_ok, nmX9, rfl, by decide +kernel, (fun _ => rfl), Or.inl (gw_t 1209 (by decide +kernel) rfl)⟩
theorem fX9_31 : v_fld RX9 31 9 8 := ⟨RX9, TX9, 12, by decide, rfl, by decide, inX9, Or.inl (gw_t 1211 (by decide +kernel) rfl)⟩
theorem gX9_31 : v_fldP RX9 31 9 8 (.array .int) true := ⟨RX9, TX9, 12, tyX9, by decide, rfl, by decide, inX9, tyX9_ok, nmX9, rfl, by decide +kernel, (fun _ => rfl), Or.inl (gw_t 1211 (by decide +kernel) rfl)⟩
theorem fX9_34 : v_fld RX9 34 9 9 := ⟨RX9, TX9, 12, by decide, rfl, by decide, inX9, Or.inl (gw_t 1213 (by decide +kernel) rfl)⟩
theorem gX9_34 : v_fldP RX9 34 9 9 (.array .int) true := ⟨RX9, TX9, 12, tyX9, by decide, rfl, by decide, inX9, tyX9_ok, nmX9, rfl, by decide +kernel, (fun _ => rfl), Or.inl (gw_t 1213 (by decide +kernel) rfl)⟩
theorem fX9_37 : v_fld RX9 37 9 10 := ⟨RX9, TX9, 12, by decide, rfl, by decide, inX9, Or.inl (gw_t 1215 (by decide +kernel) rfl)⟩
theorem gX9_37 : v_fldP RX9 37 9 10 (.array .int) true := ⟨RX9, TX9, 12, tyX9, by decide, rfl, by decide, inX9, tyX9_ok, nmX9, rfl, by decide +kernel, (fun _ => rfl), Or.inl (gw_t 1215 (by decide +kernel) rfl)⟩
theorem fX9_40 : v_fld RX9 40 9 11 := ⟨RX9, TX9, 12, by decide, rfl, by decide, inX9, Or.inl (gw_t 1217 (by decide +kernel) rfl)⟩
theorem gX9_40 : v_fldP RX9 40 9 11 (.array .boolean) true := ⟨RX9, TX9, 12, tyX9, by decide, rfl, by decide, inX9, tyX9_ok, nmX9, rfl, by decide +kernel, (fun _ => rfl), Or.inl (gw_t 1217 (by decide +kernel) rfl)⟩
theorem fX10_9 : v_fld RX10 9 10 4 := ⟨RX10, TX10, 10, by decide, rfl, by decide, inX10, Or.inl (gw_t 1283 (by decide +kernel) rfl)⟩
theorem gX10_9 : v_fldP RX10 9 10 4 (.array .int) true := ⟨RX10, TX10, 10, tyX10, by decide, rfl, by decide, inX10, tyX10_ok, nmX10, rfl, by decide +kernel, (fun _ => rfl), Or.inl (gw_t 1283 (by decide +kernel) rfl)⟩
theorem fX10_15 : v_fld RX10 15 10 5 := ⟨RX10, TX10, 10, by decide, rfl, by decide, inX10, Or.inl (gw_t 1285 (by decide +kernel) rfl)⟩
theorem gX10_15 : v_fldP RX10 15 10 5 (.array .int) true := ⟨RX10, TX10, 10, tyX10, by decide, rfl, by decide, inX10, tyX10_ok, nmX10, rfl, by decide +kernel, (fun _ => rfl), Or.inl (gw_t 1285 (by decide +kernel) rfl)⟩
theorem fX10_18 : v_fld RX10 18 10 6 := ⟨RX10, TX10, 10, by decide, rfl, by decide, inX10, Or.inl (gw_t 1287 (by decide +kernel) rfl)⟩
theorem gX10_18 : v_fldP RX10 18 10 6 (.array .int) true := ⟨RX10, TX10, 10, tyX10, by decide, rfl, by decide, inX10, tyX10_ok, nmX10, rfl, by decide +kernel, (fun _ => rfl), Or.inl (gw_t 1287 (by decide +kernel) rfl)⟩
theorem fX10_21 : v_fld RX10 21 10 7 := ⟨RX10, TX10, 10, by decide, rfl, by decide, inX10, Or.inl (gw_t 1289 (by decide +kernel) rfl)⟩
theorem gX10_21 : v_fldP RX10 21 10 7 (.array .int) true := ⟨RX10, TX10, 10, tyX10, by decide, rfl, by decide, inX10, tyX10_ok, nmX10, rfl, by decide +kernel, (fun _ => rfl), Or.inl (gw_t 1289 (by decide +kernel) rfl)⟩
theorem fX10_24 : v_fld RX10 24 10 8 := ⟨RX10, TX10, 10, by decide, rfl, by decide, inX10, Or.inl (gw_t 1291 (by decide +kernel) rfl)⟩
theorem gX10_24 : v_fldP RX10 24 10 8 (.array .int) true := ⟨RX10, TX10, 10, tyX10, by decide, rfl, by decide, inX10, tyX10_ok, nmX10, rfl, by decide +kernel, (fun _ => rfl), Or.inl (gw_t 1291 (by decide +kernel) rfl)⟩
theorem fX10_27 : v_fld RX10 27 10 9 := ⟨RX10, TX10, 10, by decide, rfl, by decide, inX10, Or.inl (gw_t 1293 (by decide +kernel) rfl)⟩
theorem gX10_27 : v_fldP RX10 27 10 9 (.array .long) true := ⟨RX10, TX10, 10, tyX10, by decide, rfl, by decide, inX10, tyX10_ok, nmX10, rfl, by decide +kernel, (fun _ => rfl), Or.inl (gw_t 1293 (by decide +kernel) rfl)⟩
theorem fX12_147 : v_fld RX12 147 12 0 := ⟨RX12, TX12, 59, by decide, rfl, by decide, inX12, Or.inl (gw_t 1317 (by decide +kernel) rfl)⟩
theorem gX12_147 : v_fldP RX12 147 12 0 .int false := ⟨RX12, TX12, 59, tyX12, by decide, rfl, by decide, inX12, tyX12_ok, nmX12, rfl, by decide +kernel, (fun h => by cases h), Or.inl (gw_t 1317 (by decide +kernel) rfl)⟩
theorem fX12_150 : v_fld RX12 150 12 1 := ⟨RX12, TX12, 59, by decide, rfl, by decide, inX12, Or.inl (gw_t 1318 (by decide +kernel) rfl)⟩
theorem gX12_150 : v_fldP RX12 150 12 1 .int false := ⟨RX12, TX12, 59, tyX12, by decide, rfl, by decide, inX12, tyX12_ok, nmX12, rfl, by decide +kernel, (fun h => by cases h), Or.inl (gw_t 1318 (by decide +kernel) rfl)⟩
theorem fX12_9 : v_fld RX12 9 12 2 := ⟨RX12, TX12, 59, by decide, rfl, by decide, inX12, Or.inl (gw_t 1319 (by decide +kernel) rfl)⟩
theorem gX12_9 : v_fldP RX12 9 12 2 .int false := ⟨RX12, TX12, 59, tyX12, by decide, rfl, by decide, inX12, tyX12_ok, nmX12, rfl, by decide +kernel, (fun h => by cases h), Or.inl (gw_t 1319 (by decide +kernel) rfl)⟩
theorem fX12_306 : v_fld RX12 306 12 3 := ⟨RX12, TX12, 59, by decide, rfl, by decide, inX12, Or.inl (gw_t 1320 (by decide +kernel) rfl)⟩
theorem gX12_306 : v_fldP RX12 306 12 3 .int false := ⟨RX12, TX12, 59, tyX12, by decide, rfl, by decide, inX12, tyX12_ok, nmX12, rfl, by decide +kernel, (fun h => by cases h), Or.inl (gw_t 1320 (by decide +kernel) rfl)⟩
theorem fX12_13 : v_fld RX12 13 12 4 := ⟨RX12, TX12, 59, by decide, rfl, by decide, inX12, Or.inl (gw_t 1321 (by decide +kernel) rfl)⟩
theorem gX12_13 : v_fldP RX12 13 12 4 .int false := ⟨RX12, TX12, 59, tyX12, by decide, rfl, by decide, inX12, tyX12_ok, nmX12, rfl, by decide +kernel, (fun h => by cases h), Or.inl (gw_t 1321 (by decide +kernel) rfl)⟩
theorem fX12_312 : v_fld RX12 312 12 5 := ⟨RX12, TX12, 59, by decide, rfl, by decide, inX12, Or.inl (gw_t 1322 (by decide +kernel) rfl)⟩
theorem gX12_312 : v_fldP RX12 312 12 5 (.object "DrawnWaysModel$Book") false := ⟨RX12, TX12, 59, tyX12, by decide, rfl, by decide, inX12, tyX12_ok, nmX12, rfl, by decide +kernel, (fun h => by cases h), Or.inl (gw_t 1322 (by decide +kernel) rfl)⟩
theorem fX12_19 : v_fld RX12 19 12 6 := ⟨RX12, TX12, 59, by decide, rfl, by decide, inX12, Or.inl (gw_t 1323 (by decide +kernel) rfl)⟩
theorem gX12_19 : v_fldP RX12 19 12 6 (.object "DrawnWaysModel$Book") false := ⟨RX12, TX12, 59, tyX12, by decide, rfl, by decide, inX12, tyX12_ok, nmX12, rfl, by decide +kernel, (fun h => by cases h), Or.inl (gw_t 1323 (by decide +kernel) rfl)⟩
theorem fX12_26 : v_fld RX12 26 12 7 := ⟨RX12, TX12, 59, by decide, rfl, by decide, inX12, Or.inl (gw_t 1324 (by decide +kernel) rfl)⟩
theorem gX12_26 : v_fldP RX12 26 12 7 (.object "DrawnWaysModel$Stop") true := ⟨RX12, TX12, 59, tyX12, by decide, rfl, by decide, inX12, tyX12_ok, nmX12, rfl, by decide +kernel, (fun _ => rfl), Or.inl (gw_t 1324 (by decide +kernel) rfl)⟩
theorem fX12_30 : v_fld RX12 30 12 8 := ⟨RX12, TX12, 59, by decide, rfl, by decide, inX12, Or.inl (gw_t 1325 (by decide +kernel) rfl)⟩
theorem gX12_30 : v_fldP RX12 30 12 8 (.array .byte) true := ⟨RX12, TX12, 59, tyX12, by decide, rfl, by decide, inX12, tyX12_ok, nmX12, rfl, by decide +kernel, (fun _ => rfl), Or.inl (gw_t 1325 (by decide +kernel) rfl)⟩
theorem fX12_300 : v_fld RX12 300 12 9 := ⟨RX12, TX12, 59, by decide, rfl, by decide, inX12, Or.inl (gw_t 1326 (by decide +kernel) rfl)⟩
theorem gX12_300 : v_fldP RX12 300 12 9 .int false := ⟨RX12, TX12, 59, tyX12, by decide, rfl, by decide, inX12, tyX12_ok, nmX12, rfl, by decide +kernel, (fun h => by cases h), Or.inl (gw_t 1326 (by decide +kernel) rfl)⟩
theorem fX12_164 : v_fld RX12 164 12 10 := ⟨RX12, TX12, 59, by decide, rfl, by decide, inX12, Or.inl (gw_t 1327 (by decide +kernel) rfl)⟩
theorem gX12_164 : v_fldP RX12 164 12 10 .int false := ⟨RX12, TX12, 59, tyX12, by decide, rfl, by decide, inX12, tyX12_ok, nmX12, rfl, by decide +kernel, (fun h => by cases h), Or.inl (gw_t 1327 (by decide +kernel) rfl)⟩
theorem fX12_179 : v_fld RX12 179 12 11 := ⟨RX12, TX12, 59, by decide, rfl, by decide, inX12, Or.inl (gw_t 1328 (by decide +kernel) rfl)⟩
theorem gX12_179 : v_fldP RX12 179 12 11 .int false := ⟨RX12, TX12, 59, tyX12, by decide, rfl, by decide, inX12, tyX12_ok, nmX12, rfl, by decide +kernel, (fun h => by cases h), Or.inl (gw_t 1328 (by decide +kernel) rfl)⟩
theorem fX12_186 : v_fld RX12 186 12 12 := ⟨RX12, TX12, 59, by decide, rfl, by decide, inX12, Or.inl (gw_t 1329 (by decide +kernel) rfl)⟩
theorem gX12_186 : v_fldP RX12 186 12 12 .int false := ⟨RX12, TX12, 59, tyX12, by decide, rfl, by decide, inX12, tyX12_ok, nmX12, rfl, by decide +kernel, (fun h => by cases h), Or.inl (gw_t 1329 (by decide +kernel) rfl)⟩
theorem fX12_159 : v_fld RX12 159 12 13 := ⟨RX12, TX12, 59, by decide, rfl, by decide, inX12, Or.inl (gw_t 1330 (by decide +kernel) rfl)⟩
theorem gX12_159 : v_fldP RX12 159 12 13 .int false := ⟨RX12, TX12, 59, tyX12, by decide, rfl, by decide, inX12, tyX12_ok, nmX12, rfl, by decide +kernel, (fun h => by cases h), Or.inl (gw_t 1330 (by decide +kernel) rfl)⟩
theorem fX12_189 : v_fld RX12 189 12 14 := ⟨RX12, TX12, 59, by decide, rfl, by decide, inX12, Or.inl (gw_t 1331 (by decide +kernel) rfl)⟩
theorem gX12_189 : v_fldP RX12 189 12 14 .int false := ⟨RX12, TX12, 59, tyX12, by decide, rfl, by decide, inX12, tyX12_ok, nmX12, rfl, by decide +kernel, (fun h => by cases h), Or.inl (gw_t 1331 (by decide +kernel) rfl)⟩
theorem fX12_202 : v_fld RX12 202 12 15 := ⟨RX12, TX12, 59, by decide, rfl, by decide, inX12, Or.inl (gw_t 1332 (by decide +kernel) rfl)⟩
theorem gX12_202 : v_fldP RX12 202 12 15 .int false := ⟨RX12, TX12, 59, tyX12, by decide, rfl, by decide, inX12, tyX12_ok, nmX12, rfl, by decide +kernel, (fun h => by cases h), Or.inl (gw_t 1332 (by decide +kernel) rfl)⟩
theorem fX12_196 : v_fld RX12 196 12 16 := ⟨RX12, TX12, 59, by decide, rfl, by decide, inX12, Or.inl (gw_t 1333 (by decide +kernel) rfl)⟩
theorem gX12_196 : v_fldP RX12 196 12 16 .long false := ⟨RX12, TX12, 59, tyX12, by decide, rfl, by decide, inX12, tyX12_ok, nmX12, rfl, by decide +kernel, (fun h => by cases h), Or.inl (gw_t 1333 (by decide +kernel) rfl)⟩
theorem fX12_315 : v_fld RX12 315 12 17 := ⟨RX12, TX12, 59, by decide, rfl, by decide, inX12, Or.inl (gw_t 1334 (by decide +kernel) rfl)⟩
theorem gX12_315 : v_fldP RX12 315 12 17 .int false := ⟨RX12, TX12, 59, tyX12, by decide, rfl, by decide, inX12, tyX12_ok, nmX12, rfl, by decide +kernel, (fun h => by cases h), Or.inl (gw_t 1334 (by decide +kernel) rfl)⟩
theorem fX12_318 : v_fld RX12 318 12 18 := ⟨RX12, TX12, 59, by decide, rfl, by decide, inX12, Or.inl (gw_t 1335 (by decide +kernel) rfl)⟩
theorem gX12_318 : v_fldP RX12 318 12 18 .boolean false := ⟨RX12, TX12, 59, tyX12, by decide, rfl, by decide, inX12, tyX12_ok, nmX12, rfl, by decide +kernel, (fun h => by cases h), Or.inl (gw_t 1335 (by decide +kernel) rfl)⟩
theorem fX12_34 : v_fld RX12 34 12 19 := ⟨RX12, TX12, 59, by decide, rfl, by decide, inX12, Or.inl (gw_t 1336 (by decide +kernel) rfl)⟩
theorem gX12_34 : v_fldP RX12 34 12 19 (.array .int) true := ⟨RX12, TX12, 59, tyX12, by decide, rfl, by decide, inX12, tyX12_ok, nmX12, rfl, by decide +kernel, (fun _ => rfl), Or.inl (gw_t 1336 (by decide +kernel) rfl)⟩
theorem fX12_38 : v_fld RX12 38 12 20 := ⟨RX12, TX12, 59, by decide, rfl, by decide, inX12, Or.inl (gw_t 1337 (by decide +kernel) rfl)⟩
theorem gX12_38 : v_fldP RX12 38 12 20 (.array .int) true := ⟨RX12, TX12, 59, tyX12, by decide, rfl, by decide, inX12, tyX12_ok, nmX12, rfl, by decide +kernel, (fun _ => rfl), Or.inl (gw_t 1337 (by decide +kernel) rfl)⟩
theorem fX12_41 : v_fld RX12 41 12 21 := ⟨RX12, TX12, 59, by decide, rfl, by decide, inX12, Or.inl (gw_t 1338 (by decide +kernel) rfl)⟩
theorem gX12_41 : v_fldP RX12 41 12 21 (.array .int) true := ⟨RX12, TX12, 59, tyX12, by decide, rfl, by decide, inX12, tyX12_ok, nmX12, rfl, by decide +kernel, (fun _ => rfl), Or.inl (gw_t 1338 (by decide +kernel) rfl)⟩
theorem fX12_47 : v_fld RX12 47 12 22 := ⟨RX12, TX12, 59, by decide, rfl, by decide, inX12, Or.inl (gw_t 1339 (by decide +kernel) rfl)⟩
theorem gX12_47 : v_fldP RX12 47 12 22 (.object "DrawnWaysModel$Listing") true := ⟨RX12, TX12, 59, tyX12, by decide, rfl, by decide, inX12, tyX12_ok, nmX12, rfl, by decide +kernel, (fun _ => rfl), Or.inl (gw_t 1339 (by decide +kernel) rfl)⟩
theorem fX12_51 : v_fld RX12 51 12 23 := ⟨RX12, TX12, 59, by decide, rfl, by decide, inX12, Or.inl (gw_t 1340 (by decide +kernel) rfl)⟩
theorem gX12_51 : v_fldP RX12 51 12 23 (.object "DrawnWaysModel$Listing") true := ⟨RX12, TX12, 59, tyX12, by decide, rfl, by decide, inX12, tyX12_ok, nmX12, rfl, by decide +kernel, (fun _ => rfl), Or.inl (gw_t 1340 (by decide +kernel) rfl)⟩
theorem fX12_54 : v_fld RX12 54 12 24 := ⟨RX12, TX12, 59, by decide, rfl, by decide, inX12, Or.inl (gw_t 1341 (by decide +kernel) rfl)⟩
theorem gX12_54 : v_fldP RX12 54 12 24 (.object "DrawnWaysModel$Listing") true := ⟨RX12, TX12, 59, tyX12, by decide, rfl, by decide, inX12, tyX12_ok, nmX12, rfl, by decide +kernel, (fun _ => rfl), Or.inl (gw_t 1341 (by decide +kernel) rfl)⟩
theorem fX12_331 : v_fld RX12 331 12 25 := ⟨RX12, TX12, 59, by decide, rfl, by decide, inX12, Or.inl (gw_t 1342 (by decide +kernel) rfl)⟩
theorem gX12_331 : v_fldP RX12 331 12 25 .int false := ⟨RX12, TX12, 59, tyX12, by decide, rfl, by decide, inX12, tyX12_ok, nmX12, rfl, by decide +kernel, (fun h => by cases h), Or.inl (gw_t 1342 (by decide +kernel) rfl)⟩
theorem fX12_342 : v_fld RX12 342 12 26 := ⟨RX12, TX12, 59, by decide, rfl, by decide, inX12, Or.inl (gw_t 1343 (by decide +kernel) rfl)⟩
theorem gX12_342 : v_fldP RX12 342 12 26 .int false := ⟨RX12, TX12, 59, tyX12, by decide, rfl, by decide, inX12, tyX12_ok, nmX12, rfl, by decide +kernel, (fun h => by cases h), Or.inl (gw_t 1343 (by decide +kernel) rfl)⟩
theorem fX12_57 : v_fld RX12 57 12 27 := ⟨RX12, TX12, 59, by decide, rfl, by decide, inX12, Or.inl (gw_t 1344 (by decide +kernel) rfl)⟩
theorem gX12_57 : v_fldP RX12 57 12 27 (.array .int) true := ⟨RX12, TX12, 59, tyX12, by decide, rfl, by decide, inX12, tyX12_ok, nmX12, rfl, by decide +kernel, (fun _ => rfl), Or.inl (gw_t 1344 (by decide +kernel) rfl)⟩
theorem fX12_60 : v_fld RX12 60 12 28 := ⟨RX12, TX12, 59, by decide, rfl, by decide, inX12, Or.inl (gw_t 1345 (by decide +kernel) rfl)⟩
theorem gX12_60 : v_fldP RX12 60 12 28 (.array .int) true := ⟨RX12, TX12, 59, tyX12, by decide, rfl, by decide, inX12, tyX12_ok, nmX12, rfl, by decide +kernel, (fun _ => rfl), Or.inl (gw_t 1345 (by decide +kernel) rfl)⟩
theorem fX12_63 : v_fld RX12 63 12 29 := ⟨RX12, TX12, 59, by decide, rfl, by decide, inX12, Or.inl (gw_t 1346 (by decide +kernel) rfl)⟩
theorem gX12_63 : v_fldP RX12 63 12 29 (.array .int) true := ⟨RX12, TX12, 59, tyX12, by decide, rfl, by decide, inX12, tyX12_ok, nmX12, rfl, by decide +kernel, (fun _ => rfl), Or.inl (gw_t 1346 (by decide +kernel) rfl)⟩
theorem fX12_66 : v_fld RX12 66 12 30 := ⟨RX12, TX12, 59, by decide, rfl, by decide, inX12, Or.inl (gw_t 1347 (by decide +kernel) rfl)⟩
theorem gX12_66 : v_fldP RX12 66 12 30 (.array .int) true := ⟨RX12, TX12, 59, tyX12, by decide, rfl, by decide, inX12, tyX12_ok, nmX12, rfl, by decide +kernel, (fun _ => rfl), Or.inl (gw_t 1347 (by decide +kernel) rfl)⟩
theorem fX12_69 : v_fld RX12 69 12 31 := ⟨RX12, TX12, 59, by decide, rfl, by decide, inX12, Or.inl (gw_t 1348 (by decide +kernel) rfl)⟩
theorem gX12_69 : v_fldP RX12 69 12 31 (.array .int) true := ⟨RX12, TX12, 59, tyX12, by decide, rfl, by decide, inX12, tyX12_ok, nmX12, rfl, by decide +kernel, (fun _ => rfl), Or.inl (gw_t 1348 (by decide +kernel) rfl)⟩
theorem fX12_72 : v_fld RX12 72 12 32 := ⟨RX12, TX12, 59, by decide, rfl, by decide, inX12, Or.inl (gw_t 1349 (by decide +kernel) rfl)⟩
theorem gX12_72 : v_fldP RX12 72 12 32 (.array .long) true := ⟨RX12, TX12, 59, tyX12, by decide, rfl, by decide, inX12, tyX12_ok, nmX12, rfl, by decide +kernel, (fun _ => rfl), Or.inl (gw_t 1349 (by decide +kernel) rfl)⟩
theorem fX12_76 : v_fld RX12 76 12 33 := ⟨RX12, TX12, 59, by decide, rfl, by decide, inX12, Or.inl (gw_t 1350 (by decide +kernel) rfl)⟩
theorem gX12_76 : v_fldP RX12 76 12 33 (.array .int) true := ⟨RX12, TX12, 59, tyX12, by decide, rfl, by decide, inX12, tyX12_ok, nmX12, rfl, by decide +kernel, (fun _ => rfl), Or.inl (gw_t 1350 (by decide +kernel) rfl)⟩
theorem fX12_79 : v_fld RX12 79 12 34 := ⟨RX12, TX12, 59, by decide, rfl, by decide, inX12, Or.inl (gw_t 1351 (by decide +kernel) rfl)⟩
theorem gX12_79 : v_fldP RX12 79 12 34 (.array .int) true := ⟨RX12, TX12, 59, tyX12, by decide, rfl, by decide, inX12, tyX12_ok, nmX12, rfl, by decide +kernel, (fun _ => rfl), Or.inl (gw_t 1351 (by decide +kernel) rfl)⟩
theorem fX12_353 : v_fld RX12 353 12 35 := ⟨RX12, TX12, 59, by decide, rfl, by decide, inX12, Or.inl (gw_t 1352 (by decide +kernel) rfl)⟩
theorem gX12_353 : v_fldP RX12 353 12 35 .int false := ⟨RX12, TX12, 59, tyX12, by decide, rfl, by decide, inX12, tyX12_ok, nmX12, rfl, by decide +kernel, (fun h => by cases h), Or.inl (gw_t 1352 (by decide +kernel) rfl)⟩
theorem fX12_82 : v_fld RX12 82 12 36 := ⟨RX12, TX12, 59, by decide, rfl, by decide, inX12, Or.inl (gw_t 1353 (by decide +kernel) rfl)⟩
theorem gX12_82 : v_fldP RX12 82 12 36 (.array .int) true := ⟨RX12, TX12, 59, tyX12, by decide, rfl, by decide, inX12, tyX12_ok, nmX12, rfl, by decide +kernel, (fun _ => rfl), Or.inl (gw_t 1353 (by decide +kernel) rfl)⟩
theorem fX12_85 : v_fld RX12 85 12 37 := ⟨RX12, TX12, 59, by decide, rfl, by decide, inX12, Or.inl (gw_t 1354 (by decide +kernel) rfl)⟩
theorem gX12_85 : v_fldP RX12 85 12 37 (.array .int) true := ⟨RX12, TX12, 59, tyX12, by decide, rfl, by decide, inX12, tyX12_ok, nmX12, rfl, by decide +kernel, (fun _ => rfl), Or.inl (gw_t 1354 (by decide +kernel) rfl)⟩
theorem fX12_376 : v_fld RX12 376 12 38 := ⟨RX12, TX12, 59, by decide, rfl, by decide, inX12, Or.inl (gw_t 1355 (by decide +kernel) rfl)⟩
theorem gX12_376 : v_fldP RX12 376 12 38 .int false := ⟨RX12, TX12, 59, tyX12, by decide, rfl, by decide, inX12, tyX12_ok, nmX12, rfl, by decide +kernel, (fun h => by cases h), Or.inl (gw_t 1355 (by decide +kernel) rfl)⟩
theorem fX12_88 : v_fld RX12 88 12 39 := ⟨RX12, TX12, 59, by decide, rfl, by decide, inX12, Or.inl (gw_t 1356 (by decide +kernel) rfl)⟩
theorem gX12_88 : v_fldP RX12 88 12 39 (.array .int) true := ⟨RX12, TX12, 59, tyX12, by decide, rfl, by decide, inX12, tyX12_ok, nmX12, rfl, by decide +kernel, (fun _ => rfl), Or.inl (gw_t 1356 (by decide +kernel) rfl)⟩
theorem fX12_439 : v_fld RX12 439 12 40 := ⟨RX12, TX12, 59, by decide, rfl, by decide, inX12, Or.inl (gw_t 1357 (by decide +kernel) rfl)⟩
theorem gX12_439 : v_fldP RX12 439 12 40 .int false := ⟨RX12, TX12, 59, tyX12, by decide, rfl, by decide, inX12, tyX12_ok, nmX12, rfl, by decide +kernel, (fun h => by cases h), Or.inl (gw_t 1357 (by decide +kernel) rfl)⟩
theorem fX12_91 : v_fld RX12 91 12 41 := ⟨RX12, TX12, 59, by decide, rfl, by decide, inX12, Or.inl (gw_t 1358 (by decide +kernel) rfl)⟩
theorem gX12_91 : v_fldP RX12 91 12 41 (.array .int) true := ⟨RX12, TX12, 59, tyX12, by decide, rfl, by decide, inX12, tyX12_ok, nmX12, rfl, by decide +kernel, (fun _ => rfl), Or.inl (gw_t 1358 (by decide +kernel) rfl)⟩
theorem fX12_94 : v_fld RX12 94 12 42 := ⟨RX12, TX12, 59, by decide, rfl, by decide, inX12, Or.inl (gw_t 1359 (by decide +kernel) rfl)⟩
theorem gX12_94 : v_fldP RX12 94 12 42 (.array .int) true := ⟨RX12, TX12, 59, tyX12, by decide, rfl, by decide, inX12, tyX12_ok, nmX12, rfl, by decide +kernel, (fun _ => rfl), Or.inl (gw_t 1359 (by decide +kernel) rfl)⟩
theorem fX12_97 : v_fld RX12 97 12 43 := ⟨RX12, TX12, 59, by decide, rfl, by decide, inX12, Or.inl (gw_t 1360 (by decide +kernel) rfl)⟩
theorem gX12_97 : v_fldP RX12 97 12 43 (.array .int) true := ⟨RX12, TX12, 59, tyX12, by decide, rfl, by decide, inX12, tyX12_ok, nmX12, rfl, by decide +kernel, (fun _ => rfl), Or.inl (gw_t 1360 (by decide +kernel) rfl)⟩
theorem fX12_100 : v_fld RX12 100 12 44 := ⟨RX12, TX12, 59, by decide, rfl, by decide, inX12, Or.inl (gw_t 1361 (by decide +kernel) rfl)⟩
theorem gX12_100 : v_fldP RX12 100 12 44 (.array .int) true := ⟨RX12, TX12, 59, tyX12, by decide, rfl, by decide, inX12, tyX12_ok, nmX12, rfl, by decide +kernel, (fun _ => rfl), Or.inl (gw_t 1361 (by decide +kernel) rfl)⟩
theorem fX12_103 : v_fld RX12 103 12 45 := ⟨RX12, TX12, 59, by decide, rfl, by decide, inX12, Or.inl (gw_t 1362 (by decide +kernel) rfl)⟩
theorem gX12_103 : v_fldP RX12 103 12 45 (.array .int) true := ⟨RX12, TX12, 59, tyX12, by decide, rfl, by decide, inX12, tyX12_ok, nmX12, rfl, by decide +kernel, (fun _ => rfl), Or.inl (gw_t 1362 (by decide +kernel) rfl)⟩
theorem fX12_106 : v_fld RX12 106 12 46 := ⟨RX12, TX12, 59, by decide, rfl, by decide, inX12, Or.inl (gw_t 1363 (by decide +kernel) rfl)⟩
theorem gX12_106 : v_fldP RX12 106 12 46 (.array .int) true := ⟨RX12, TX12, 59, tyX12, by decide, rfl, by decide, inX12, tyX12_ok, nmX12, rfl, by decide +kernel, (fun _ => rfl), Or.inl (gw_t 1363 (by decide +kernel) rfl)⟩
theorem fX12_109 : v_fld RX12 109 12 47 := ⟨RX12, TX12, 59, by decide, rfl, by decide, inX12, Or.inl (gw_t 1364 (by decide +kernel) rfl)⟩
theorem gX12_109 : v_fldP RX12 109 12 47 (.array .int) true := ⟨RX12, TX12, 59, tyX12, by decide, rfl, by decide, inX12, tyX12_ok, nmX12, rfl, by decide +kernel, (fun _ => rfl), Or.inl (gw_t 1364 (by decide +kernel) rfl)⟩
theorem fX12_112 : v_fld RX12 112 12 48 := ⟨RX12, TX12, 59, by decide, rfl, by decide, inX12, Or.inl (gw_t 1365 (by decide +kernel) rfl)⟩
theorem gX12_112 : v_fldP RX12 112 12 48 (.array .int) true := ⟨RX12, TX12, 59, tyX12, by decide, rfl, by decide, inX12, tyX12_ok, nmX12, rfl, by decide +kernel, (fun _ => rfl), Or.inl (gw_t 1365 (by decide +kernel) rfl)⟩
theorem fX12_115 : v_fld RX12 115 12 49 := ⟨RX12, TX12, 59, by decide, rfl, by decide, inX12, Or.inl (gw_t 1366 (by decide +kernel) rfl)⟩
theorem gX12_115 : v_fldP RX12 115 12 49 (.array .int) true := ⟨RX12, TX12, 59, tyX12, by decide, rfl, by decide, inX12, tyX12_ok, nmX12, rfl, by decide +kernel, (fun _ => rfl), Or.inl (gw_t 1366 (by decide +kernel) rfl)⟩
theorem fX12_118 : v_fld RX12 118 12 50 := ⟨RX12, TX12, 59, by decide, rfl, by decide, inX12, Or.inl (gw_t 1367 (by decide +kernel) rfl)⟩
theorem gX12_118 : v_fldP RX12 118 12 50 (.array .long) true := ⟨RX12, TX12, 59, tyX12, by decide, rfl, by decide, inX12, tyX12_ok, nmX12, rfl, by decide +kernel, (fun _ => rfl), Or.inl (gw_t 1367 (by decide +kernel) rfl)⟩
theorem fX12_121 : v_fld RX12 121 12 51 := ⟨RX12, TX12, 59, by decide, rfl, by decide, inX12, Or.inl (gw_t 1368 (by decide +kernel) rfl)⟩
theorem gX12_121 : v_fldP RX12 121 12 51 (.array .long) true := ⟨RX12, TX12, 59, tyX12, by decide, rfl, by decide, inX12, tyX12_ok, nmX12, rfl, by decide +kernel, (fun _ => rfl), Or.inl (gw_t 1368 (by decide +kernel) rfl)⟩
theorem fX12_124 : v_fld RX12 124 12 52 := ⟨RX12, TX12, 59, by decide, rfl, by decide, inX12, Or.inl (gw_t 1369 (by decide +kernel) rfl)⟩
theorem gX12_124 : v_fldP RX12 124 12 52 (.array .int) true := ⟨RX12, TX12, 59, tyX12, by decide, rfl, by decide, inX12, tyX12_ok, nmX12, rfl, by decide +kernel, (fun _ => rfl), Or.inl (gw_t 1369 (by decide +kernel) rfl)⟩
theorem fX12_131 : v_fld RX12 131 12 53 := ⟨RX12, TX12, 59, by decide, rfl, by decide, inX12, Or.inl (gw_t 1370 (by decide +kernel) rfl)⟩
theorem gX12_131 : v_fldP RX12 131 12 53 .long false := ⟨RX12, TX12, 59, tyX12, by decide, rfl, by decide, inX12, tyX12_ok, nmX12, rfl, by decide +kernel, (fun h => by cases h), Or.inl (gw_t 1370 (by decide +kernel) rfl)⟩
theorem fX12_135 : v_fld RX12 135 12 54 := ⟨RX12, TX12, 59, by decide, rfl, by decide, inX12, Or.inl (gw_t 1371 (by decide +kernel) rfl)⟩
theorem gX12_135 : v_fldP RX12 135 12 54 .long false := ⟨RX12, TX12, 59, tyX12, by decide, rfl, by decide, inX12, tyX12_ok, nmX12, rfl, by decide +kernel, (fun h => by cases h), Or.inl (gw_t 1371 (by decide +kernel) rfl)⟩
theorem fX12_138 : v_fld RX12 138 12 55 := ⟨RX12, TX12, 59, by decide, rfl, by decide, inX12, Or.inl (gw_t 1372 (by decide +kernel) rfl)⟩
theorem gX12_138 : v_fldP RX12 138 12 55 (.array .int) true := ⟨RX12, TX12, 59, tyX12, by decide, rfl, by decide, inX12, tyX12_ok, nmX12, rfl, by decide +kernel, (fun _ => rfl), Or.inl (gw_t 1372 (by decide +kernel) rfl)⟩
theorem fX12_141 : v_fld RX12 141 12 56 := ⟨RX12, TX12, 59, by decide, rfl, by decide, inX12, Or.inl (gw_t 1373 (by decide +kernel) rfl)⟩
theorem gX12_141 : v_fldP RX12 141 12 56 (.array .int) true := ⟨RX12, TX12, 59, tyX12, by decide, rfl, by decide, inX12, tyX12_ok, nmX12, rfl, by decide +kernel, (fun _ => rfl), Or.inl (gw_t 1373 (by decide +kernel) rfl)⟩
theorem fX12_566 : v_fld RX12 566 12 57 := ⟨RX12, TX12, 59, by decide, rfl, by decide, inX12, Or.inl (gw_t 1374 (by decide +kernel) rfl)⟩
theorem gX12_566 : v_fldP RX12 566 12 57 .int false := ⟨RX12, TX12, 59, tyX12, by decide, rfl, by decide, inX12, tyX12_ok, nmX12, rfl, by decide +kernel, (fun h => by cases h), Or.inl (gw_t 1374 (by decide +kernel) rfl)⟩
theorem fX12_144 : v_fld RX12 144 12 58 := ⟨RX12, TX12, 59, by decide, rfl, by decide, inX12, Or.inl (gw_t 1375 (by decide +kernel) rfl)⟩
theorem gX12_144 : v_fldP RX12 144 12 58 (.array .long) true := ⟨RX12, TX12, 59, tyX12, by decide, rfl, by decide, inX12, tyX12_ok, nmX12, rfl, by decide +kernel, (fun _ => rfl), Or.inl (gw_t 1375 (by decide +kernel) rfl)⟩
theorem fX4_82 : v_fld RX4 82 0 1 := ⟨RX0, TX0, 11, by decide, rfl, by decide, inX0, Or.inr ⟨"DrawnWays", lw_t 46 (by decide +kernel)⟩⟩
theorem fX7_73 : v_fld RX7 73 0 2 := ⟨RX0, TX0, 11, by decide, rfl, by decide, inX0, Or.inr ⟨"DrawnWays", lw_t 48 (by decide +kernel)⟩⟩
theorem fX5_135 : v_fld RX5 135 0 2 := ⟨RX0, TX0, 11, by decide, rfl, by decide, inX0, Or.inr ⟨"DrawnWays", lw_t 49 (by decide +kernel)⟩⟩
theorem fX4_61 : v_fld RX4 61 0 5 := ⟨RX0, TX0, 11, by decide, rfl, by decide, inX0, Or.inr ⟨"DrawnWays", lw_t 53 (by decide +kernel)⟩⟩
theorem fX3_81 : v_fld RX3 81 0 6 := ⟨RX0, TX0, 11, by decide, rfl, by decide, inX0, Or.inr ⟨"DrawnWays", lw_t 55 (by decide +kernel)⟩⟩
theorem fX3_84 : v_fld RX3 84 0 7 := ⟨RX0, TX0, 11, by decide, rfl, by decide, inX0, Or.inr ⟨"DrawnWays", lw_t 57 (by decide +kernel)⟩⟩
theorem fX4_75 : v_fld RX4 75 0 8 := ⟨RX0, TX0, 11, by decide, rfl, by decide, inX0, Or.inr ⟨"DrawnWays", lw_t 59 (by decide +kernel)⟩⟩
theorem fX8_109 : v_fld RX8 109 0 9 := ⟨RX0, TX0, 11, by decide, rfl, by decide, inX0, Or.inr ⟨"DrawnWays", lw_t 61 (by decide +kernel)⟩⟩
theorem gX8_109 : v_fldP RX8 109 0 9 .int false := ⟨RX0, TX0, 11, tyX0, by decide, rfl, by decide, inX0, tyX0_ok, nmX0, rfl, by decide +kernel, (fun h => by cases h), Or.inr ⟨rfl, "DrawnWays", lw_t 61 (by decide +kernel)⟩⟩
theorem fX4_57 : v_fld RX4 57 0 10 := ⟨RX0, TX0, 11, by decide, rfl, by decide, inX0, Or.inr ⟨"DrawnWays", lw_t 63 (by decide +kernel)⟩⟩
theorem gX4_57 : v_fldP RX4 57 0 10 .int false := ⟨RX0, TX0, 11, tyX0, by decide, rfl, by decide, inX0, tyX0_ok, nmX0, rfl, by decide +kernel, (fun h => by cases h), Or.inr ⟨rfl, "DrawnWays", lw_t 63 (by decide +kernel)⟩⟩
theorem fX8_254 : v_fld RX8 254 0 10 := ⟨RX0, TX0, 11, by decide, rfl, by decide, inX0, Or.inr ⟨"DrawnWays", lw_t 64 (by decide +kernel)⟩⟩
theorem gX8_254 : v_fldP RX8 254 0 10 .int false := ⟨RX0, TX0, 11, tyX0, by decide, rfl, by decide, inX0, tyX0_ok, nmX0, rfl, by decide +kernel, (fun h => by cases h), Or.inr ⟨rfl, "DrawnWays", lw_t 64 (by decide +kernel)⟩⟩
theorem fX8_84 : v_fld RX8 84 6 1 := ⟨RX6, TX6, 11, by decide, rfl, by decide, inX6, Or.inr ⟨"DrawnWays", lw_t 93 (by decide +kernel)⟩⟩
theorem gX8_84 : v_fldP RX8 84 6 1 .int false := ⟨RX6, TX6, 11, tyX6, by decide, rfl, by decide, inX6, tyX6_ok, nmX6, rfl, by decide +kernel, (fun h => by cases h), Or.inr ⟨rfl, "DrawnWays", lw_t 93 (by decide +kernel)⟩⟩
theorem fX8_112 : v_fld RX8 112 6 8 := ⟨RX6, TX6, 11, by decide, rfl, by decide, inX6, Or.inr ⟨"DrawnWays", lw_t 101 (by decide +kernel)⟩⟩
theorem gX8_112 : v_fldP RX8 112 6 8 .int false := ⟨RX6, TX6, 11, tyX6, by decide, rfl, by decide, inX6, tyX6_ok, nmX6, rfl, by decide +kernel, (fun h => by cases h), Or.inr ⟨rfl, "DrawnWays", lw_t 101 (by decide +kernel)⟩⟩
theorem fX8_115 : v_fld RX8 115 6 9 := ⟨RX6, TX6, 11, by decide, rfl, by decide, inX6, Or.inr ⟨"DrawnWays", lw_t 103 (by decide +kernel)⟩⟩
theorem gX8_115 : v_fldP RX8 115 6 9 .int false := ⟨RX6, TX6, 11, tyX6, by decide, rfl, by decide, inX6, tyX6_ok, nmX6, rfl, by decide +kernel, (fun h => by cases h), Or.inr ⟨rfl, "DrawnWays", lw_t 103 (by decide +kernel)⟩⟩
theorem fX8_96 : v_fld RX8 96 6 10 := ⟨RX6, TX6, 11, by decide, rfl, by decide, inX6, Or.inr ⟨"DrawnWays", lw_t 105 (by decide +kernel)⟩⟩
theorem gX8_96 : v_fldP RX8 96 6 10 (.object "DrawnWays$Book") false := ⟨RX6, TX6, 11, tyX6, by decide, rfl, by decide, inX6, tyX6_ok, nmX6, rfl, by decide +kernel, (fun h => by cases h), Or.inr ⟨rfl, "DrawnWays", lw_t 105 (by decide +kernel)⟩⟩
theorem fX5_140 : v_fld RX5 140 4 0 := ⟨RX4, TX4, 13, by decide, rfl, by decide, inX4, Or.inr ⟨"DrawnWays", lw_t 142 (by decide +kernel)⟩⟩
theorem fX5_119 : v_fld RX5 119 4 2 := ⟨RX4, TX4, 13, by decide, rfl, by decide, inX4, Or.inr ⟨"DrawnWays", lw_t 145 (by decide +kernel)⟩⟩
theorem fX3_76 : v_fld RX3 76 4 5 := ⟨RX4, TX4, 13, by decide, rfl, by decide, inX4, Or.inr ⟨"DrawnWays", lw_t 149 (by decide +kernel)⟩⟩
theorem fX3_89 : v_fld RX3 89 4 8 := ⟨RX4, TX4, 13, by decide, rfl, by decide, inX4, Or.inr ⟨"DrawnWays", lw_t 153 (by decide +kernel)⟩⟩
theorem gX3_89 : v_fldP RX3 89 4 8 .int false := ⟨RX4, TX4, 13, tyX4, by decide, rfl, by decide, inX4, tyX4_ok, nmX4, rfl, by decide +kernel, (fun h => by cases h), Or.inr ⟨rfl, "DrawnWays", lw_t 153 (by decide +kernel)⟩⟩
theorem fX5_129 : v_fld RX5 129 4 8 := ⟨RX4, TX4, 13, by decide, rfl, by decide, inX4, Or.inr ⟨"DrawnWays", lw_t 154 (by decide +kernel)⟩⟩
theorem gX5_129 : v_fldP RX5 129 4 8 .int false := ⟨RX4, TX4, 13, tyX4, by decide, rfl, by decide, inX4, tyX4_ok, nmX4, rfl, by decide +kernel, (fun h => by cases h), Or.inr ⟨rfl, "DrawnWays", lw_t 154 (by decide +kernel)⟩⟩
theorem fX5_63 : v_fld RX5 63 4 9 := ⟨RX4, TX4, 13, by decide, rfl, by decide, inX4, Or.inr ⟨"DrawnWays", lw_t 156 (by decide +kernel)⟩⟩
theorem gX5_63 : v_fldP RX5 63 4 9 .int false := ⟨RX4, TX4, 13, tyX4, by decide, rfl, by decide, inX4, tyX4_ok, nmX4, rfl, by decide +kernel, (fun h => by cases h), Or.inr ⟨rfl, "DrawnWays", lw_t 156 (by decide +kernel)⟩⟩
theorem fX3_87 : v_fld RX3 87 4 9 := ⟨RX4, TX4, 13, by decide, rfl, by decide, inX4, Or.inr ⟨"DrawnWays", lw_t 157 (by decide +kernel)⟩⟩
theorem gX3_87 : v_fldP RX3 87 4 9 .int false := ⟨RX4, TX4, 13, tyX4, by decide, rfl, by decide, inX4, tyX4_ok, nmX4, rfl, by decide +kernel, (fun h => by cases h), Or.inr ⟨rfl, "DrawnWays", lw_t 157 (by decide +kernel)⟩⟩
theorem fX3_92 : v_fld RX3 92 4 12 := ⟨RX4, TX4, 13, by decide, rfl, by decide, inX4, Or.inr ⟨"DrawnWays", lw_t 160 (by decide +kernel)⟩⟩
theorem gX3_92 : v_fldP RX3 92 4 12 .int false := ⟨RX4, TX4, 13, tyX4, by decide, rfl, by decide, inX4, tyX4_ok, nmX4, rfl, by decide +kernel, (fun h => by cases h), Or.inr ⟨rfl, "DrawnWays", lw_t 160 (by decide +kernel)⟩⟩
theorem fX7_65 : v_fld RX7 65 3 1 := ⟨RX3, TX3, 20, by decide, rfl, by decide, inX3, Or.inr ⟨"DrawnWays", lw_t 197 (by decide +kernel)⟩⟩
theorem fX7_43 : v_fld RX7 43 3 2 := ⟨RX3, TX3, 20, by decide, rfl, by decide, inX3, Or.inr ⟨"DrawnWays", lw_t 199 (by decide +kernel)⟩⟩
theorem fX7_55 : v_fld RX7 55 3 4 := ⟨RX3, TX3, 20, by decide, rfl, by decide, inX3, Or.inr ⟨"DrawnWays", lw_t 202 (by decide +kernel)⟩⟩
theorem fX5_181 : v_fld RX5 181 3 7 := ⟨RX3, TX3, 20, by decide, rfl, by decide, inX3, Or.inr ⟨"DrawnWays", lw_t 206 (by decide +kernel)⟩⟩
theorem fX7_90 : v_fld RX7 90 3 12 := ⟨RX3, TX3, 20, by decide, rfl, by decide, inX3, Or.inr ⟨"DrawnWays", lw_t 212 (by decide +kernel)⟩⟩
theorem fX8_287 : v_fld RX8 287 3 12 := ⟨RX3, TX3, 20, by decide, rfl, by decide, inX3, Or.inr ⟨"DrawnWays", lw_t 213 (by decide +kernel)⟩⟩
theorem fX7_93 : v_fld RX7 93 3 13 := ⟨RX3, TX3, 20, by decide, rfl, by decide, inX3, Or.inr ⟨"DrawnWays", lw_t 215 (by decide +kernel)⟩⟩
theorem fX5_171 : v_fld RX5 171 3 13 := ⟨RX3, TX3, 20, by decide, rfl, by decide, inX3, Or.inr ⟨"DrawnWays", lw_t 216 (by decide +kernel)⟩⟩
theorem fX8_270 : v_fld RX8 270 3 13 := ⟨RX3, TX3, 20, by decide, rfl, by decide, inX3, Or.inr ⟨"DrawnWays", lw_t 217 (by decide +kernel)⟩⟩
theorem fX5_184 : v_fld RX5 184 3 14 := ⟨RX3, TX3, 20, by decide, rfl, by decide, inX3, Or.inr ⟨"DrawnWays", lw_t 219 (by decide +kernel)⟩⟩
theorem fX8_281 : v_fld RX8 281 3 14 := ⟨RX3, TX3, 20, by decide, rfl, by decide, inX3, Or.inr ⟨"DrawnWays", lw_t 220 (by decide +kernel)⟩⟩
theorem fX5_174 : v_fld RX5 174 3 15 := ⟨RX3, TX3, 20, by decide, rfl, by decide, inX3, Or.inr ⟨"DrawnWays", lw_t 222 (by decide +kernel)⟩⟩
theorem fX5_178 : v_fld RX5 178 3 16 := ⟨RX3, TX3, 20, by decide, rfl, by decide, inX3, Or.inr ⟨"DrawnWays", lw_t 224 (by decide +kernel)⟩⟩
theorem gX5_178 : v_fldP RX5 178 3 16 .int false := ⟨RX3, TX3, 20, tyX3, by decide, rfl, by decide, inX3, tyX3_ok, nmX3, rfl, by decide +kernel, (fun h => by cases h), Or.inr ⟨rfl, "DrawnWays", lw_t 224 (by decide +kernel)⟩⟩
theorem fX8_187 : v_fld RX8 187 3 16 := ⟨RX3, TX3, 20, by decide, rfl, by decide, inX3, Or.inr ⟨"DrawnWays", lw_t 225 (by decide +kernel)⟩⟩
theorem gX8_187 : v_fldP RX8 187 3 16 .int false := ⟨RX3, TX3, 20, tyX3, by decide, rfl, by decide, inX3, tyX3_ok, nmX3, rfl, by decide +kernel, (fun h => by cases h), Or.inr ⟨rfl, "DrawnWays", lw_t 225 (by decide +kernel)⟩⟩
theorem fX7_26 : v_fld RX7 26 3 17 := ⟨RX3, TX3, 20, by decide, rfl, by decide, inX3, Or.inr ⟨"DrawnWays", lw_t 227 (by decide +kernel)⟩⟩
theorem gX7_26 : v_fldP RX7 26 3 17 .int false := ⟨RX3, TX3, 20, tyX3, by decide, rfl, by decide, inX3, tyX3_ok, nmX3, rfl, by decide +kernel, (fun h => by cases h), Or.inr ⟨rfl, "DrawnWays", lw_t 227 (by decide +kernel)⟩⟩
theorem fX8_150 : v_fld RX8 150 3 17 := ⟨RX3, TX3, 20, by decide, rfl, by decide, inX3, Or.inr ⟨"DrawnWays", lw_t 228 (by decide +kernel)⟩⟩
theorem gX8_150 : v_fldP RX8 150 3 17 .int false := ⟨RX3, TX3, 20, tyX3, by decide, rfl, by decide, inX3, tyX3_ok, nmX3, rfl, by decide +kernel, (fun h => by cases h), Or.inr ⟨rfl, "DrawnWays", lw_t 228 (by decide +kernel)⟩⟩
theorem fX5_168 : v_fld RX5 168 3 18 := ⟨RX3, TX3, 20, by decide, rfl, by decide, inX3, Or.inr ⟨"DrawnWays", lw_t 230 (by decide +kernel)⟩⟩
theorem gX5_168 : v_fldP RX5 168 3 18 .int false := ⟨RX3, TX3, 20, tyX3, by decide, rfl, by decide, inX3, tyX3_ok, nmX3, rfl, by decide +kernel, (fun h => by cases h), Or.inr ⟨rfl, "DrawnWays", lw_t 230 (by decide +kernel)⟩⟩
theorem fX8_267 : v_fld RX8 267 3 18 := ⟨RX3, TX3, 20, by decide, rfl, by decide, inX3, Or.inr ⟨"DrawnWays", lw_t 231 (by decide +kernel)⟩⟩
theorem gX8_267 : v_fldP RX8 267 3 18 .int false := ⟨RX3, TX3, 20, tyX3, by decide, rfl, by decide, inX3, tyX3_ok, nmX3, rfl, by decide +kernel, (fun h => by cases h), Or.inr ⟨rfl, "DrawnWays", lw_t 231 (by decide +kernel)⟩⟩
theorem fX5_33 : v_fld RX5 33 3 19 := ⟨RX3, TX3, 20, by decide, rfl, by decide, inX3, Or.inr ⟨"DrawnWays", lw_t 233 (by decide +kernel)⟩⟩
theorem gX5_33 : v_fldP RX5 33 3 19 .boolean false := ⟨RX3, TX3, 20, tyX3, by decide, rfl, by decide, inX3, tyX3_ok, nmX3, rfl, by decide +kernel, (fun h => by cases h), Or.inr ⟨rfl, "DrawnWays", lw_t 233 (by decide +kernel)⟩⟩
theorem fX8_147 : v_fld RX8 147 5 2 := ⟨RX5, TX5, 3, by decide, rfl, by decide, inX5, Or.inr ⟨"DrawnWays", lw_t 279 (by decide +kernel)⟩⟩
theorem gX8_147 : v_fldP RX8 147 5 2 (.object "DrawnWays$Gallery") false := ⟨RX5, TX5, 3, tyX5, by decide, rfl, by decide, inX5, tyX5_ok, nmX5, rfl, by decide +kernel, (fun h => by cases h), Or.inr ⟨rfl, "DrawnWays", lw_t 279 (by decide +kernel)⟩⟩
theorem fX8_296 : v_fld RX8 296 2 3 := ⟨RX2, TX2, 6, by decide, rfl, by decide, inX2, Or.inr ⟨"DrawnWays", lw_t 297 (by decide +kernel)⟩⟩
theorem gX8_296 : v_fldP RX8 296 2 3 .boolean false := ⟨RX2, TX2, 6, tyX2, by decide, rfl, by decide, inX2, tyX2_ok, nmX2, rfl, by decide +kernel, (fun h => by cases h), Or.inr ⟨rfl, "DrawnWays", lw_t 297 (by decide +kernel)⟩⟩
theorem fX8_300 : v_fld RX8 300 2 4 := ⟨RX2, TX2, 6, by decide, rfl, by decide, inX2, Or.inr ⟨"DrawnWays", lw_t 299 (by decide +kernel)⟩⟩
theorem gX8_300 : v_fldP RX8 300 2 4 .long false := ⟨RX2, TX2, 6, tyX2, by decide, rfl, by decide, inX2, tyX2_ok, nmX2, rfl, by decide +kernel, (fun h => by cases h), Or.inr ⟨rfl, "DrawnWays", lw_t 299 (by decide +kernel)⟩⟩
theorem fX8_299 : v_fld RX8 299 2 5 := ⟨RX2, TX2, 6, by decide, rfl, by decide, inX2, Or.inr ⟨"DrawnWays", lw_t 301 (by decide +kernel)⟩⟩
theorem gX8_299 : v_fldP RX8 299 2 5 .long false := ⟨RX2, TX2, 6, tyX2, by decide, rfl, by decide, inX2, tyX2_ok, nmX2, rfl, by decide +kernel, (fun h => by cases h), Or.inr ⟨rfl, "DrawnWays", lw_t 301 (by decide +kernel)⟩⟩
theorem fX4_48 : v_fld RX4 48 1 0 := ⟨RX1, TX1, 3, by decide, rfl, by decide, inX1, Or.inr ⟨"DrawnWays", lw_t 322 (by decide +kernel)⟩⟩
theorem fX8_319 : v_fld RX8 319 1 0 := ⟨RX1, TX1, 3, by decide, rfl, by decide, inX1, Or.inr ⟨"DrawnWays", lw_t 323 (by decide +kernel)⟩⟩
theorem fX8_226 : v_fld RX8 226 1 1 := ⟨RX1, TX1, 3, by decide, rfl, by decide, inX1, Or.inr ⟨"DrawnWays", lw_t 325 (by decide +kernel)⟩⟩
theorem fX4_37 : v_fld RX4 37 1 2 := ⟨RX1, TX1, 3, by decide, rfl, by decide, inX1, Or.inr ⟨"DrawnWays", lw_t 327 (by decide +kernel)⟩⟩
theorem gX4_37 : v_fldP RX4 37 1 2 .int false := ⟨RX1, TX1, 3, tyX1, by decide, rfl, by decide, inX1, tyX1_ok, nmX1, rfl, by decide +kernel, (fun h => by cases h), Or.inr ⟨rfl, "DrawnWays", lw_t 327 (by decide +kernel)⟩⟩
theorem fX8_222 : v_fld RX8 222 1 2 := ⟨RX1, TX1, 3, by decide, rfl, by decide, inX1, Or.inr ⟨"DrawnWays", lw_t 328 (by decide +kernel)⟩⟩
theorem gX8_222 : v_fldP RX8 222 1 2 .int false := ⟨RX1, TX1, 3, tyX1, by decide, rfl, by decide, inX1, tyX1_ok, nmX1, rfl, by decide +kernel, (fun h => by cases h), Or.inr ⟨rfl, "DrawnWays", lw_t 328 (by decide +kernel)⟩⟩
theorem fX8_321 : v_fld RX8 321 7 2 := ⟨RX7, TX7, 6, by decide, rfl, by decide, inX7, Or.inr ⟨"DrawnWays", lw_t 345 (by decide +kernel)⟩⟩
theorem gX8_321 : v_fldP RX8 321 7 2 .int false := ⟨RX7, TX7, 6, tyX7, by decide, rfl, by decide, inX7, tyX7_ok, nmX7, rfl, by decide +kernel, (fun h => by cases h), Or.inr ⟨rfl, "DrawnWays", lw_t 345 (by decide +kernel)⟩⟩
theorem fX8_245 : v_fld RX8 245 7 4 := ⟨RX7, TX7, 6, by decide, rfl, by decide, inX7, Or.inr ⟨"DrawnWays", lw_t 348 (by decide +kernel)⟩⟩
theorem gX8_245 : v_fldP RX8 245 7 4 .long false := ⟨RX7, TX7, 6, tyX7, by decide, rfl, by decide, inX7, tyX7_ok, nmX7, rfl, by decide +kernel, (fun h => by cases h), Or.inr ⟨rfl, "DrawnWays", lw_t 348 (by decide +kernel)⟩⟩
theorem fX8_241 : v_fld RX8 241 7 5 := ⟨RX7, TX7, 6, by decide, rfl, by decide, inX7, Or.inr ⟨"DrawnWays", lw_t 350 (by decide +kernel)⟩⟩
theorem gX8_241 : v_fldP RX8 241 7 5 .long false := ⟨RX7, TX7, 6, tyX7, by decide, rfl, by decide, inX7, tyX7_ok, nmX7, rfl, by decide +kernel, (fun h => by cases h), Or.inr ⟨rfl, "DrawnWays", lw_t 350 (by decide +kernel)⟩⟩
theorem fX12_272 : v_fld RX12 272 9 0 := ⟨RX9, TX9, 12, by decide, rfl, by decide, inX9, Or.inr ⟨"DrawnWaysModel", lw_t 1197 (by decide +kernel)⟩⟩
theorem gX12_272 : v_fldP RX12 272 9 0 .int false := ⟨RX9, TX9, 12, tyX9, by decide, rfl, by decide, inX9, tyX9_ok, nmX9, rfl, by decide +kernel, (fun h => by cases h), Or.inr ⟨rfl, "DrawnWaysModel", lw_t 1197 (by decide +kernel)⟩⟩
theorem fX12_278 : v_fld RX12 278 9 1 := ⟨RX9, TX9, 12, by decide, rfl, by decide, inX9, Or.inr ⟨"DrawnWaysModel", lw_t 1198 (by decide +kernel)⟩⟩
theorem gX12_278 : v_fldP RX12 278 9 1 .int false := ⟨RX9, TX9, 12, tyX9, by decide, rfl, by decide, inX9, tyX9_ok, nmX9, rfl, by decide +kernel, (fun h => by cases h), Or.inr ⟨rfl, "DrawnWaysModel", lw_t 1198 (by decide +kernel)⟩⟩
theorem fX12_275 : v_fld RX12 275 9 2 := ⟨RX9, TX9, 12, by decide, rfl, by decide, inX9, Or.inr ⟨"DrawnWaysModel", lw_t 1200 (by decide +kernel)⟩⟩
theorem fX12_257 : v_fld RX12 257 9 3 := ⟨RX9, TX9, 12, by decide, rfl, by decide, inX9, Or.inr ⟨"DrawnWaysModel", lw_t 1202 (by decide +kernel)⟩⟩
theorem fX12_252 : v_fld RX12 252 9 4 := ⟨RX9, TX9, 12, by decide, rfl, by decide, inX9, Or.inr ⟨"DrawnWaysModel", lw_t 1204 (by decide +kernel)⟩⟩
theorem fX12_255 : v_fld RX12 255 9 5 := ⟨RX9, TX9, 12, by decide, rfl, by decide, inX9, Or.inr ⟨"DrawnWaysModel", lw_t 1206 (by decide +kernel)⟩⟩
theorem fX12_250 : v_fld RX12 250 9 6 := ⟨RX9, TX9, 12, by decide, rfl, by decide, inX9, Or.inr ⟨"DrawnWaysModel", lw_t 1208 (by decide +kernel)⟩⟩
theorem fX12_284 : v_fld RX12 284 9 7 := ⟨RX9, TX9, 12, by decide, rfl, by decide, inX9, Or.inr ⟨"DrawnWaysModel", lw_t 1210 (by decide +kernel)⟩⟩
theorem fX12_281 : v_fld RX12 281 9 8 := ⟨RX9, TX9, 12, by decide, rfl, by decide, inX9, Or.inr ⟨"DrawnWaysModel", lw_t 1212 (by decide +kernel)⟩⟩
theorem fX12_287 : v_fld RX12 287 9 9 := ⟨RX9, TX9, 12, by decide, rfl, by decide, inX9, Or.inr ⟨"DrawnWaysModel", lw_t 1214 (by decide +kernel)⟩⟩
theorem fX12_290 : v_fld RX12 290 9 10 := ⟨RX9, TX9, 12, by decide, rfl, by decide, inX9, Or.inr ⟨"DrawnWaysModel", lw_t 1216 (by decide +kernel)⟩⟩
theorem fX12_260 : v_fld RX12 260 9 11 := ⟨RX9, TX9, 12, by decide, rfl, by decide, inX9, Or.inr ⟨"DrawnWaysModel", lw_t 1218 (by decide +kernel)⟩⟩
theorem fX12_153 : v_fld RX12 153 11 6 := ⟨RX11, TX11, 8, by decide, rfl, by decide, inX11, Or.inr ⟨"DrawnWaysModel", lw_t 1265 (by decide +kernel)⟩⟩
theorem gX12_153 : v_fldP RX12 153 11 6 .int false := ⟨RX11, TX11, 8, tyX11, by decide, rfl, by decide, inX11, tyX11_ok, nmX11, rfl, by decide +kernel, (fun h => by cases h), Or.inr ⟨rfl, "DrawnWaysModel", lw_t 1265 (by decide +kernel)⟩⟩
theorem fX12_156 : v_fld RX12 156 11 7 := ⟨RX11, TX11, 8, by decide, rfl, by decide, inX11, Or.inr ⟨"DrawnWaysModel", lw_t 1266 (by decide +kernel)⟩⟩
theorem gX12_156 : v_fldP RX12 156 11 7 .int false := ⟨RX11, TX11, 8, tyX11, by decide, rfl, by decide, inX11, tyX11_ok, nmX11, rfl, by decide +kernel, (fun h => by cases h), Or.inr ⟨rfl, "DrawnWaysModel", lw_t 1266 (by decide +kernel)⟩⟩
theorem fX12_404 : v_fld RX12 404 10 0 := ⟨RX10, TX10, 10, by decide, rfl, by decide, inX10, Or.inr ⟨"DrawnWaysModel", lw_t 1279 (by decide +kernel)⟩⟩
theorem gX12_404 : v_fldP RX12 404 10 0 .int false := ⟨RX10, TX10, 10, tyX10, by decide, rfl, by decide, inX10, tyX10_ok, nmX10, rfl, by decide +kernel, (fun h => by cases h), Or.inr ⟨rfl, "DrawnWaysModel", lw_t 1279 (by decide +kernel)⟩⟩
theorem fX12_339 : v_fld RX12 339 10 1 := ⟨RX10, TX10, 10, by decide, rfl, by decide, inX10, Or.inr ⟨"DrawnWaysModel", lw_t 1280 (by decide +kernel)⟩⟩
theorem gX12_339 : v_fldP RX12 339 10 1 .int false := ⟨RX10, TX10, 10, tyX10, by decide, rfl, by decide, inX10, tyX10_ok, nmX10, rfl, by decide +kernel, (fun h => by cases h), Or.inr ⟨rfl, "DrawnWaysModel", lw_t 1280 (by decide +kernel)⟩⟩
theorem fX12_333 : v_fld RX12 333 10 2 := ⟨RX10, TX10, 10, by decide, rfl, by decide, inX10, Or.inr ⟨"DrawnWaysModel", lw_t 1281 (by decide +kernel)⟩⟩
theorem gX12_333 : v_fldP RX12 333 10 2 .int false := ⟨RX10, TX10, 10, tyX10, by decide, rfl, by decide, inX10, tyX10_ok, nmX10, rfl, by decide +kernel, (fun h => by cases h), Or.inr ⟨rfl, "DrawnWaysModel", lw_t 1281 (by decide +kernel)⟩⟩
theorem fX12_423 : v_fld RX12 423 10 3 := ⟨RX10, TX10, 10, by decide, rfl, by decide, inX10, Or.inr ⟨"DrawnWaysModel", lw_t 1282 (by decide +kernel)⟩⟩
theorem gX12_423 : v_fldP RX12 423 10 3 .int false := ⟨RX10, TX10, 10, tyX10, by decide, rfl, by decide, inX10, tyX10_ok, nmX10, rfl, by decide +kernel, (fun h => by cases h), Or.inr ⟨rfl, "DrawnWaysModel", lw_t 1282 (by decide +kernel)⟩⟩
theorem fX12_334 : v_fld RX12 334 10 4 := ⟨RX10, TX10, 10, by decide, rfl, by decide, inX10, Or.inr ⟨"DrawnWaysModel", lw_t 1284 (by decide +kernel)⟩⟩
theorem fX12_426 : v_fld RX12 426 10 5 := ⟨RX10, TX10, 10, by decide, rfl, by decide, inX10, Or.inr ⟨"DrawnWaysModel", lw_t 1286 (by decide +kernel)⟩⟩
theorem fX12_407 : v_fld RX12 407 10 6 := ⟨RX10, TX10, 10, by decide, rfl, by decide, inX10, Or.inr ⟨"DrawnWaysModel", lw_t 1288 (by decide +kernel)⟩⟩
theorem fX12_416 : v_fld RX12 416 10 7 := ⟨RX10, TX10, 10, by decide, rfl, by decide, inX10, Or.inr ⟨"DrawnWaysModel", lw_t 1290 (by decide +kernel)⟩⟩
theorem fX12_413 : v_fld RX12 413 10 8 := ⟨RX10, TX10, 10, by decide, rfl, by decide, inX10, Or.inr ⟨"DrawnWaysModel", lw_t 1292 (by decide +kernel)⟩⟩
theorem fX12_410 : v_fld RX12 410 10 9 := ⟨RX10, TX10, 10, by decide, rfl, by decide, inX10, Or.inr ⟨"DrawnWaysModel", lw_t 1294 (by decide +kernel)⟩⟩

