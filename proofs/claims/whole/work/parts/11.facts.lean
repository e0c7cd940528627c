/-! Words that fields, calls and constants need. -/
theorem fp_X0_24 : f_P RX0 24 0 3 (.array (.object "SpoolLink$Job")) true := ⟨RX0, TX0, 6, tyX0, rfl, by decide, inX0, gm 79 (by decide +kernel) rfl, tyX0_ok, nmX0, rfl, (fun _ => rfl), by decide +kernel⟩
theorem fp_X0_27 : f_P RX0 27 0 4 .int false := ⟨RX0, TX0, 6, tyX0, rfl, by decide, inX0, gm 80 (by decide +kernel) rfl, tyX0_ok, nmX0, rfl, (fun h => by cases h), by decide +kernel⟩
theorem fp_X0_30 : f_P RX0 30 0 5 .int false := ⟨RX0, TX0, 6, tyX0, rfl, by decide, inX0, gm 82 (by decide +kernel) rfl, tyX0_ok, nmX0, rfl, (fun h => by cases h), by decide +kernel⟩
theorem fp_X0_13 : f_P RX0 13 0 0 (.array (.object "SpoolLink$Job")) true := ⟨RX0, TX0, 6, tyX0, rfl, by decide, inX0, gm 74 (by decide +kernel) rfl, tyX0_ok, nmX0, rfl, (fun _ => rfl), by decide +kernel⟩
theorem fp_X0_17 : f_P RX0 17 0 1 .int false := ⟨RX0, TX0, 6, tyX0, rfl, by decide, inX0, gm 75 (by decide +kernel) rfl, tyX0_ok, nmX0, rfl, (fun h => by cases h), by decide +kernel⟩
theorem fp_X0_21 : f_P RX0 21 0 2 .int false := ⟨RX0, TX0, 6, tyX0, rfl, by decide, inX0, gm 77 (by decide +kernel) rfl, tyX0_ok, nmX0, rfl, (fun h => by cases h), by decide +kernel⟩
theorem cj_X0_3 : Cond.methodLink RX0 3 objectInit ∈ G := gm 71 (by decide +kernel) rfl
theorem gj_o1 : Cond.instanceMethod objectInit ∈ G := gm 19 (by decide +kernel) rfl
theorem gj_o2 : Cond.code objectInit ⟨#[0xb1]⟩ 1 none ∈ G := gm 20 rfl rfl
theorem fa_X0_21 : f_A RX0 21 0 2 := ⟨RX0, TX0, 6, rfl, by decide, inX0, gm 77 (by decide +kernel) rfl⟩
theorem fa_X0_17 : f_A RX0 17 0 1 := ⟨RX0, TX0, 6, rfl, by decide, inX0, gm 75 (by decide +kernel) rfl⟩
theorem fp_X2_13 : f_P RX2 13 2 1 (.array .int) true := ⟨RX2, TX2, 2, tyX2, rfl, by decide, inX2, gm 247 (by decide +kernel) rfl, tyX2_ok, nmX2, rfl, (fun _ => rfl), by decide +kernel⟩
theorem fa_X2_13 : f_A RX2 13 2 1 := ⟨RX2, TX2, 2, rfl, by decide, inX2, gm 247 (by decide +kernel) rfl⟩
theorem cj_X2_17 : Cond.methodLink RX2 17 arraycopyName ∈ G := gm 240 (by decide +kernel) rfl
theorem gj_a1 : Cond.native arraycopyName ∈ G := gm 242 (by decide +kernel) rfl
theorem gj_a2 : Cond.static arraycopyName ∈ G := gm 241 (by decide +kernel) rfl
theorem gj_a3 : Cond.initialized "java/lang/System" ∈ G := gm 11 (by decide +kernel) rfl
theorem cj_X2_1 : Cond.methodLink RX2 1 objectInit ∈ G := gm 239 (by decide +kernel) rfl
theorem fp_X2_7 : f_P RX2 7 2 0 .int true := ⟨RX2, TX2, 2, tyX2, rfl, by decide, inX2, gm 243 (by decide +kernel) rfl, tyX2_ok, nmX2, rfl, (fun _ => rfl), by decide +kernel⟩
set_option maxRecDepth 100000 in
theorem cd_X2_init : Cond.code yX2_init cX2_init 4 (none) ∈ G := gm 238 rfl rfl
theorem cf_X0_33 : c_I RX0 33 yX2_init cX2_init 4 3 := ⟨(gm 236 (by decide +kernel) rfl), rfl, (gm 237 (by decide +kernel) rfl), (gm 10 (by decide +kernel) rfl), cd_X2_init, by decide +kernel, by decide +kernel, by decide +kernel⟩
theorem fn_X0_11 : f_N RX0 11 2 2 := ⟨RX2, TX2, tyX2, rfl, inX2, tyX2_ok, gm 72 (by decide +kernel) rfl, gm 235 (by decide +kernel) rfl, gm 10 (by decide +kernel) rfl, by decide +kernel⟩
theorem fa_X0_13 : f_A RX0 13 0 0 := ⟨RX0, TX0, 6, rfl, by decide, inX0, gm 74 (by decide +kernel) rfl⟩
theorem fa_X0_27 : f_A RX0 27 0 4 := ⟨RX0, TX0, 6, rfl, by decide, inX0, gm 80 (by decide +kernel) rfl⟩
theorem fa_X0_24 : f_A RX0 24 0 3 := ⟨RX0, TX0, 6, rfl, by decide, inX0, gm 79 (by decide +kernel) rfl⟩
theorem fa_X0_36 : f_A RX0 36 2 0 := ⟨RX2, TX2, 2, rfl, by decide, inX2, gm 244 (by decide +kernel) rfl⟩
theorem fp_X1_9 : f_P RX1 9 1 0 (.array .int) true := ⟨RX1, TX1, 5, tyX1, rfl, by decide, inX1, gm 147 (by decide +kernel) rfl, tyX1_ok, nmX1, rfl, (fun _ => rfl), by decide +kernel⟩
theorem fp_X1_15 : f_P RX1 15 1 1 .boolean false := ⟨RX1, TX1, 5, tyX1, rfl, by decide, inX1, gm 148 (by decide +kernel) rfl, tyX1_ok, nmX1, rfl, (fun h => by cases h), by decide +kernel⟩
theorem fp_X1_19 : f_P RX1 19 1 2 .int false := ⟨RX1, TX1, 5, tyX1, rfl, by decide, inX1, gm 150 (by decide +kernel) rfl, tyX1_ok, nmX1, rfl, (fun h => by cases h), by decide +kernel⟩
theorem fp_X1_23 : f_P RX1 23 1 3 .int false := ⟨RX1, TX1, 5, tyX1, rfl, by decide, inX1, gm 151 (by decide +kernel) rfl, tyX1_ok, nmX1, rfl, (fun h => by cases h), by decide +kernel⟩
theorem fp_X1_26 : f_P RX1 26 1 4 .int false := ⟨RX1, TX1, 5, tyX1, rfl, by decide, inX1, gm 152 (by decide +kernel) rfl, tyX1_ok, nmX1, rfl, (fun h => by cases h), by decide +kernel⟩
theorem cj_X1_3 : Cond.methodLink RX1 3 objectInit ∈ G := gm 146 (by decide +kernel) rfl
theorem fa_X4_9 : f_A RX4 9 4 0 := ⟨RX4, TX4, 2, rfl, by decide, inX4, gm 34 (by decide +kernel) rfl⟩
set_option maxRecDepth 100000 in
theorem cd_X4_messageLength : Cond.code yX4_messageLength cX4_messageLength 1 (some .int) ∈ G := gm 392 rfl rfl
theorem cf_X1_29 : c_V RX1 29 yX4_messageLength cX4_messageLength 1 (some .int) 0 := ⟨(gm 442 (by decide +kernel) rfl), (gm 390 (by decide +kernel) rfl), (gm 391 (by decide +kernel) rfl), (gm 3 (by decide +kernel) rfl), cd_X4_messageLength, by decide +kernel, by decide +kernel, by decide +kernel⟩
theorem fa_X1_26 : f_A RX1 26 1 4 := ⟨RX1, TX1, 5, rfl, by decide, inX1, gm 152 (by decide +kernel) rfl⟩
theorem fa_X1_23 : f_A RX1 23 1 3 := ⟨RX1, TX1, 5, rfl, by decide, inX1, gm 151 (by decide +kernel) rfl⟩
theorem fa_X1_9 : f_A RX1 9 1 0 := ⟨RX1, TX1, 5, rfl, by decide, inX1, gm 147 (by decide +kernel) rfl⟩
set_option maxRecDepth 100000 in
theorem cd_X4_messageByte : Cond.code yX4_messageByte cX4_messageByte 2 (some .int) ∈ G := gm 396 rfl rfl
theorem cf_X1_35 : c_V RX1 35 yX4_messageByte cX4_messageByte 2 (some .int) 1 := ⟨(gm 443 (by decide +kernel) rfl), (gm 394 (by decide +kernel) rfl), (gm 395 (by decide +kernel) rfl), (gm 3 (by decide +kernel) rfl), cd_X4_messageByte, by decide +kernel, by decide +kernel, by decide +kernel⟩
theorem fa_X1_15 : f_A RX1 15 1 1 := ⟨RX1, TX1, 5, rfl, by decide, inX1, gm 148 (by decide +kernel) rfl⟩
theorem fa_X1_19 : f_A RX1 19 1 2 := ⟨RX1, TX1, 5, rfl, by decide, inX1, gm 150 (by decide +kernel) rfl⟩
theorem cf_X1_41 : c_I RX1 41 yX2_init cX2_init 4 3 := ⟨(gm 461 (by decide +kernel) rfl), rfl, (gm 237 (by decide +kernel) rfl), (gm 10 (by decide +kernel) rfl), cd_X2_init, by decide +kernel, by decide +kernel, by decide +kernel⟩
theorem fn_X1_39 : f_N RX1 39 2 2 := ⟨RX2, TX2, tyX2, rfl, inX2, tyX2_ok, gm 460 (by decide +kernel) rfl, gm 235 (by decide +kernel) rfl, gm 10 (by decide +kernel) rfl, by decide +kernel⟩
theorem fp_X3_9 : f_P RX3 9 3 0 (.array .int) true := ⟨RX3, TX3, 2, tyX3, rfl, by decide, inX3, gm 111 (by decide +kernel) rfl, tyX3_ok, nmX3, rfl, (fun _ => rfl), by decide +kernel⟩
theorem fp_X3_13 : f_P RX3 13 3 1 .int false := ⟨RX3, TX3, 2, tyX3, rfl, by decide, inX3, gm 114 (by decide +kernel) rfl, tyX3_ok, nmX3, rfl, (fun h => by cases h), by decide +kernel⟩
theorem cj_X3_1 : Cond.methodLink RX3 1 objectInit ∈ G := gm 110 (by decide +kernel) rfl
theorem fa_X3_13 : f_A RX3 13 3 1 := ⟨RX3, TX3, 2, rfl, by decide, inX3, gm 114 (by decide +kernel) rfl⟩
theorem fa_X3_9 : f_A RX3 9 3 0 := ⟨RX3, TX3, 2, rfl, by decide, inX3, gm 111 (by decide +kernel) rfl⟩
theorem fp_X4_9 : f_P RX4 9 4 0 (.array .int) true := ⟨RX4, TX4, 2, tyX4, rfl, by decide, inX4, gm 34 (by decide +kernel) rfl, tyX4_ok, nmX4, rfl, (fun _ => rfl), by decide +kernel⟩
theorem fp_X4_13 : f_P RX4 13 4 1 .int false := ⟨RX4, TX4, 2, tyX4, rfl, by decide, inX4, gm 36 (by decide +kernel) rfl, tyX4_ok, nmX4, rfl, (fun h => by cases h), by decide +kernel⟩
theorem cj_X4_1 : Cond.methodLink RX4 1 objectInit ∈ G := gm 33 (by decide +kernel) rfl
theorem ck_X4_17 : Cond.constant RX4 17 (43690 : Int32) ∈ G := gm 287 (by decide +kernel) rfl
set_option maxRecDepth 100000 in
theorem cd_X4_fillHead : Cond.code yX4_fillHead cX4_fillHead 6 (none) ∈ G := gm 291 rfl rfl
theorem cf_X4_18 : c_V RX4 18 yX4_fillHead cX4_fillHead 6 (none) 3 := ⟨(gm 288 (by decide +kernel) rfl), (gm 290 (by decide +kernel) rfl), (gs 0 (by decide +kernel) rfl), (gm 3 (by decide +kernel) rfl), cd_X4_fillHead, by decide +kernel, by decide +kernel, by decide +kernel⟩
theorem ck_X4_48 : Cond.constant RX4 48 (65535 : Int32) ∈ G := gm 328 (by decide +kernel) rfl
set_option maxRecDepth 100000 in
theorem cd_X4_sum : Cond.code yX4_sum cX4_sum 6 (some .int) ∈ G := gm 327 rfl rfl
theorem cf_X4_26 : c_V RX4 26 yX4_sum cX4_sum 6 (some .int) 0 := ⟨(gm 324 (by decide +kernel) rfl), (gm 326 (by decide +kernel) rfl), (gs 3 (by decide +kernel) rfl), (gm 3 (by decide +kernel) rfl), cd_X4_sum, by decide +kernel, by decide +kernel, by decide +kernel⟩
theorem fa_X4_22 : f_A RX4 22 3 1 := ⟨RX3, TX3, 2, rfl, by decide, inX3, gm 115 (by decide +kernel) rfl⟩
theorem fa_X4_25 : f_A RX4 25 3 0 := ⟨RX3, TX3, 2, rfl, by decide, inX3, gm 113 (by decide +kernel) rfl⟩
theorem fa_X4_13 : f_A RX4 13 4 1 := ⟨RX4, TX4, 2, rfl, by decide, inX4, gm 36 (by decide +kernel) rfl⟩
set_option maxRecDepth 100000 in
theorem cd_X4_isData : Cond.code yX4_isData cX4_isData 1 (some .boolean) ∈ G := gm 319 rfl rfl
theorem cf_X4_30 : c_V RX4 30 yX4_isData cX4_isData 1 (some .boolean) 0 := ⟨(gm 316 (by decide +kernel) rfl), (gm 317 (by decide +kernel) rfl), (gm 318 (by decide +kernel) rfl), (gm 3 (by decide +kernel) rfl), cd_X4_isData, by decide +kernel, by decide +kernel, by decide +kernel⟩
set_option maxRecDepth 100000 in
theorem cd_X4_x : Cond.code yX4_x cX4_x 1 (some .int) ∈ G := gm 336 rfl rfl
theorem cf_X4_41 : c_V RX4 41 yX4_x cX4_x 1 (some .int) 0 := ⟨(gm 333 (by decide +kernel) rfl), (gm 334 (by decide +kernel) rfl), (gm 335 (by decide +kernel) rfl), (gm 3 (by decide +kernel) rfl), cd_X4_x, by decide +kernel, by decide +kernel, by decide +kernel⟩
set_option maxRecDepth 100000 in
theorem cd_X4_isControl : Cond.code yX4_isControl cX4_isControl 1 (some .boolean) ∈ G := gm 339 rfl rfl
theorem cf_X4_44 : c_S RX4 44 yX4_isControl cX4_isControl 1 (some .boolean) 1 := ⟨(gm 337 (by decide +kernel) rfl), (gm 338 (by decide +kernel) rfl), (gm 3 (by decide +kernel) rfl), cd_X4_isControl, by decide +kernel, by decide +kernel, by decide +kernel⟩
set_option maxRecDepth 100000 in
theorem cd_X4_hasHead : Cond.code yX4_hasHead cX4_hasHead 6 (some .boolean) ∈ G := gm 332 rfl rfl
theorem cf_X4_37 : c_V RX4 37 yX4_hasHead cX4_hasHead 6 (some .boolean) 3 := ⟨(gm 329 (by decide +kernel) rfl), (gm 331 (by decide +kernel) rfl), (gs 4 (by decide +kernel) rfl), (gm 3 (by decide +kernel) rfl), cd_X4_hasHead, by decide +kernel, by decide +kernel, by decide +kernel⟩
set_option maxRecDepth 100000 in
theorem cd_X4_isMessageWellFormed : Cond.code yX4_isMessageWellFormed cX4_isMessageWellFormed 3 (some .boolean) ∈ G := gm 323 rfl rfl
theorem cf_X4_34 : c_V RX4 34 yX4_isMessageWellFormed cX4_isMessageWellFormed 3 (some .boolean) 0 := ⟨(gm 320 (by decide +kernel) rfl), (gm 322 (by decide +kernel) rfl), (gs 2 (by decide +kernel) rfl), (gm 3 (by decide +kernel) rfl), cd_X4_isMessageWellFormed, by decide +kernel, by decide +kernel, by decide +kernel⟩
set_option maxRecDepth 100000 in
theorem cd_X3_init : Cond.code yX3_init cX3_init 1 (none) ∈ G := gm 109 rfl rfl
theorem cf_X6_28 : c_N RX6 28 yX3_init cX3_init 1 0 := ⟨fun _ h => h.2.2.1, rfl, (gm 108 (by decide +kernel) rfl), (gm 7 (by decide +kernel) rfl), cd_X3_init, by decide +kernel, by decide +kernel, by decide +kernel⟩
theorem fn_X6_22 : f_N RX6 22 3 2 := ⟨RX3, TX3, tyX3, rfl, inX3, tyX3_ok, gm 104 (by decide +kernel) rfl, gm 106 (by decide +kernel) rfl, gm 7 (by decide +kernel) rfl, by decide +kernel⟩
theorem fa_X6_24 : f_A RX6 24 6 0 := ⟨RX6, TX6, 5, rfl, by decide, inX6, gm 122 (by decide +kernel) rfl⟩
theorem fp_X6_24 : f_P RX6 24 6 0 (.array (.object "SpoolLink$Message")) true := ⟨RX6, TX6, 5, tyX6, rfl, by decide, inX6, gm 122 (by decide +kernel) rfl, tyX6_ok, nmX6, rfl, (fun _ => rfl), by decide +kernel⟩
theorem cj_X6_3 : Cond.methodLink RX6 3 objectInit ∈ G := gm 103 (by decide +kernel) rfl
theorem fp_X6_9 : f_P RX6 9 6 1 .int false := ⟨RX6, TX6, 5, tyX6, rfl, by decide, inX6, gm 123 (by decide +kernel) rfl, tyX6_ok, nmX6, rfl, (fun h => by cases h), by decide +kernel⟩
theorem fp_X6_13 : f_P RX6 13 6 2 .int false := ⟨RX6, TX6, 5, tyX6, rfl, by decide, inX6, gm 124 (by decide +kernel) rfl, tyX6_ok, nmX6, rfl, (fun h => by cases h), by decide +kernel⟩
theorem fp_X6_16 : f_P RX6 16 6 3 .int false := ⟨RX6, TX6, 5, tyX6, rfl, by decide, inX6, gm 125 (by decide +kernel) rfl, tyX6_ok, nmX6, rfl, (fun h => by cases h), by decide +kernel⟩
theorem fp_X6_19 : f_P RX6 19 6 4 .int false := ⟨RX6, TX6, 5, tyX6, rfl, by decide, inX6, gm 128 (by decide +kernel) rfl, tyX6_ok, nmX6, rfl, (fun h => by cases h), by decide +kernel⟩
theorem fp_X5_28 : f_P RX5 28 5 4 (.object "SpoolLink$Intake") true := ⟨RX5, TX5, 13, tyX5, rfl, by decide, inX5, gm 170 (by decide +kernel) rfl, tyX5_ok, nmX5, rfl, (fun _ => rfl), by decide +kernel⟩
theorem fp_X5_32 : f_P RX5 32 5 5 .int false := ⟨RX5, TX5, 13, tyX5, rfl, by decide, inX5, gm 171 (by decide +kernel) rfl, tyX5_ok, nmX5, rfl, (fun h => by cases h), by decide +kernel⟩
theorem fp_X5_36 : f_P RX5 36 5 6 .int false := ⟨RX5, TX5, 13, tyX5, rfl, by decide, inX5, gm 173 (by decide +kernel) rfl, tyX5_ok, nmX5, rfl, (fun h => by cases h), by decide +kernel⟩
theorem fp_X5_39 : f_P RX5 39 5 7 .int false := ⟨RX5, TX5, 13, tyX5, rfl, by decide, inX5, gm 174 (by decide +kernel) rfl, tyX5_ok, nmX5, rfl, (fun h => by cases h), by decide +kernel⟩
theorem fp_X5_42 : f_P RX5 42 5 8 .int false := ⟨RX5, TX5, 13, tyX5, rfl, by decide, inX5, gm 175 (by decide +kernel) rfl, tyX5_ok, nmX5, rfl, (fun h => by cases h), by decide +kernel⟩
theorem fp_X5_45 : f_P RX5 45 5 9 .boolean false := ⟨RX5, TX5, 13, tyX5, rfl, by decide, inX5, gm 176 (by decide +kernel) rfl, tyX5_ok, nmX5, rfl, (fun h => by cases h), by decide +kernel⟩
theorem fp_X5_49 : f_P RX5 49 5 10 .int false := ⟨RX5, TX5, 13, tyX5, rfl, by decide, inX5, gm 177 (by decide +kernel) rfl, tyX5_ok, nmX5, rfl, (fun h => by cases h), by decide +kernel⟩
theorem fp_X5_52 : f_P RX5 52 5 11 .int false := ⟨RX5, TX5, 13, tyX5, rfl, by decide, inX5, gm 178 (by decide +kernel) rfl, tyX5_ok, nmX5, rfl, (fun h => by cases h), by decide +kernel⟩
theorem fp_X5_55 : f_P RX5 55 5 12 .int false := ⟨RX5, TX5, 13, tyX5, rfl, by decide, inX5, gm 179 (by decide +kernel) rfl, tyX5_ok, nmX5, rfl, (fun h => by cases h), by decide +kernel⟩
theorem fp_X5_58 : f_P RX5 58 5 0 .int true := ⟨RX5, TX5, 13, tyX5, rfl, by decide, inX5, gm 164 (by decide +kernel) rfl, tyX5_ok, nmX5, rfl, (fun _ => rfl), by decide +kernel⟩
theorem fp_X5_61 : f_P RX5 61 5 1 (.object "SpoolLink$Wire") true := ⟨RX5, TX5, 13, tyX5, rfl, by decide, inX5, gm 165 (by decide +kernel) rfl, tyX5_ok, nmX5, rfl, (fun _ => rfl), by decide +kernel⟩
set_option maxRecDepth 100000 in
theorem cd_X1_init : Cond.code yX1_init cX1_init 1 (none) ∈ G := gm 145 rfl rfl
theorem cf_X5_27 : c_N RX5 27 yX1_init cX1_init 1 0 := ⟨fun _ h => h.2.1, rfl, (gm 144 (by decide +kernel) rfl), (gm 8 (by decide +kernel) rfl), cd_X1_init, by decide +kernel, by decide +kernel, by decide +kernel⟩
theorem fn_X5_25 : f_N RX5 25 1 5 := ⟨RX1, TX1, tyX1, rfl, inX1, tyX1_ok, gm 141 (by decide +kernel) rfl, gm 142 (by decide +kernel) rfl, gm 8 (by decide +kernel) rfl, by decide +kernel⟩
theorem fp_X5_21 : f_P RX5 21 5 3 (.object "SpoolLink$Window") true := ⟨RX5, TX5, 13, tyX5, rfl, by decide, inX5, gm 168 (by decide +kernel) rfl, tyX5_ok, nmX5, rfl, (fun _ => rfl), by decide +kernel⟩
set_option maxRecDepth 100000 in
theorem cd_X6_init : Cond.code yX6_init cX6_init 2 (none) ∈ G := gm 102 rfl rfl
theorem cf_X5_20 : c_I RX5 20 yX6_init cX6_init 2 0 := ⟨(gm 100 (by decide +kernel) rfl), rfl, (gm 101 (by decide +kernel) rfl), (gm 6 (by decide +kernel) rfl), cd_X6_init, by decide +kernel, by decide +kernel, by decide +kernel⟩
theorem fn_X5_18 : f_N RX5 18 6 5 := ⟨RX6, TX6, tyX6, rfl, inX6, tyX6_ok, gm 98 (by decide +kernel) rfl, gm 99 (by decide +kernel) rfl, gm 6 (by decide +kernel) rfl, by decide +kernel⟩
theorem fp_X5_12 : f_P RX5 12 5 2 (.object "SpoolLink$Disk") true := ⟨RX5, TX5, 13, tyX5, rfl, by decide, inX5, gm 166 (by decide +kernel) rfl, tyX5_ok, nmX5, rfl, (fun _ => rfl), by decide +kernel⟩
set_option maxRecDepth 100000 in
theorem cd_X0_init : Cond.code yX0_init cX0_init 1 (none) ∈ G := gm 70 rfl rfl
theorem cf_X5_11 : c_N RX5 11 yX0_init cX0_init 1 0 := ⟨fun _ h => h.1, rfl, (gm 69 (by decide +kernel) rfl), (gm 5 (by decide +kernel) rfl), cd_X0_init, by decide +kernel, by decide +kernel, by decide +kernel⟩
theorem fn_X5_9 : f_N RX5 9 0 6 := ⟨RX0, TX0, tyX0, rfl, inX0, tyX0_ok, gm 66 (by decide +kernel) rfl, gm 67 (by decide +kernel) rfl, gm 5 (by decide +kernel) rfl, by decide +kernel⟩
theorem cj_X5_3 : Cond.methodLink RX5 3 objectInit ∈ G := gm 65 (by decide +kernel) rfl
theorem fa_X5_21 : f_A RX5 21 5 3 := ⟨RX5, TX5, 13, rfl, by decide, inX5, gm 168 (by decide +kernel) rfl⟩
set_option maxRecDepth 100000 in
theorem cd_X6_clear : Cond.code yX6_clear cX6_clear 1 (none) ∈ G := gm 274 rfl rfl
theorem cf_X5_65 : c_V RX5 65 yX6_clear cX6_clear 1 (none) 0 := ⟨(gm 271 (by decide +kernel) rfl), (gm 272 (by decide +kernel) rfl), (gm 273 (by decide +kernel) rfl), (gm 6 (by decide +kernel) rfl), cd_X6_clear, by decide +kernel, by decide +kernel, by decide +kernel⟩
theorem fa_X5_28 : f_A RX5 28 5 4 := ⟨RX5, TX5, 13, rfl, by decide, inX5, gm 170 (by decide +kernel) rfl⟩
set_option maxRecDepth 100000 in
theorem cd_X1_forget : Cond.code yX1_forget cX1_forget 1 (none) ∈ G := gm 278 rfl rfl
theorem cf_X5_68 : c_V RX5 68 yX1_forget cX1_forget 1 (none) 0 := ⟨(gm 275 (by decide +kernel) rfl), (gm 276 (by decide +kernel) rfl), (gm 277 (by decide +kernel) rfl), (gm 8 (by decide +kernel) rfl), cd_X1_forget, by decide +kernel, by decide +kernel, by decide +kernel⟩
theorem fa_X7_20 : f_A RX7 20 7 3 := ⟨RX7, TX7, 4, rfl, by decide, inX7, gm 48 (by decide +kernel) rfl⟩
theorem fp_X7_20 : f_P RX7 20 7 3 .int false := ⟨RX7, TX7, 4, tyX7, rfl, by decide, inX7, gm 48 (by decide +kernel) rfl, tyX7_ok, nmX7, rfl, (fun h => by cases h), by decide +kernel⟩
theorem fa_X7_23 : f_A RX7 23 7 0 := ⟨RX7, TX7, 4, rfl, by decide, inX7, gm 45 (by decide +kernel) rfl⟩
theorem fa_X7_16 : f_A RX7 16 7 2 := ⟨RX7, TX7, 4, rfl, by decide, inX7, gm 47 (by decide +kernel) rfl⟩
theorem fa_X7_10 : f_A RX7 10 7 1 := ⟨RX7, TX7, 4, rfl, by decide, inX7, gm 46 (by decide +kernel) rfl⟩
set_option maxRecDepth 100000 in
theorem cd_X5_begin : Cond.code yX5_begin cX5_begin 2 (none) ∈ G := gm 270 rfl rfl
theorem cf_X5_71 : c_V RX5 71 yX5_begin cX5_begin 2 (none) 1 := ⟨(gm 267 (by decide +kernel) rfl), (gm 268 (by decide +kernel) rfl), (gm 269 (by decide +kernel) rfl), (gm 4 (by decide +kernel) rfl), cd_X5_begin, by decide +kernel, by decide +kernel, by decide +kernel⟩
theorem fa_X5_12 : f_A RX5 12 5 2 := ⟨RX5, TX5, 13, rfl, by decide, inX5, gm 166 (by decide +kernel) rfl⟩
theorem fa_X5_75 : f_A RX5 75 0 5 := ⟨RX0, TX0, 6, rfl, by decide, inX0, gm 83 (by decide +kernel) rfl⟩
theorem fp_X5_75 : f_P RX5 75 0 5 .int false := ⟨RX0, TX0, 6, tyX0, rfl, by decide, inX0, gm 83 (by decide +kernel) rfl, tyX0_ok, nmX0, rfl, (fun h => by cases h), by decide +kernel⟩
theorem fa_X5_61 : f_A RX5 61 5 1 := ⟨RX5, TX5, 13, rfl, by decide, inX5, gm 165 (by decide +kernel) rfl⟩
set_option maxRecDepth 100000 in
theorem cd_X7_add : Cond.code yX7_add cX7_add 1 (some (.object "SpoolLink$Packet")) ∈ G := gm 282 rfl rfl
theorem cf_X5_78 : c_V RX5 78 yX7_add cX7_add 1 (some (.object "SpoolLink$Packet")) 0 := ⟨(gm 279 (by decide +kernel) rfl), (gm 280 (by decide +kernel) rfl), (gm 281 (by decide +kernel) rfl), (gm 2 (by decide +kernel) rfl), cd_X7_add, by decide +kernel, by decide +kernel, by decide +kernel⟩
theorem fa_X5_36 : f_A RX5 36 5 6 := ⟨RX5, TX5, 13, rfl, by decide, inX5, gm 173 (by decide +kernel) rfl⟩
set_option maxRecDepth 100000 in
theorem cd_X4_fillControl : Cond.code yX4_fillControl cX4_fillControl 4 (none) ∈ G := gm 286 rfl rfl
theorem cf_X5_86 : c_V RX5 86 yX4_fillControl cX4_fillControl 4 (none) 2 := ⟨(gm 283 (by decide +kernel) rfl), (gm 284 (by decide +kernel) rfl), (gm 285 (by decide +kernel) rfl), (gm 3 (by decide +kernel) rfl), cd_X4_fillControl, by decide +kernel, by decide +kernel, by decide +kernel⟩
theorem fa_X6_13 : f_A RX6 13 6 2 := ⟨RX6, TX6, 5, rfl, by decide, inX6, gm 124 (by decide +kernel) rfl⟩
theorem fa_X6_9 : f_A RX6 9 6 1 := ⟨RX6, TX6, 5, rfl, by decide, inX6, gm 123 (by decide +kernel) rfl⟩
theorem fa_X5_90 : f_A RX5 90 6 3 := ⟨RX6, TX6, 5, rfl, by decide, inX6, gm 126 (by decide +kernel) rfl⟩
set_option maxRecDepth 100000 in
theorem cd_X6_number : Cond.code yX6_number cX6_number 2 (some .int) ∈ G := gm 376 rfl rfl
theorem cf_X5_132 : c_V RX5 132 yX6_number cX6_number 2 (some .int) 1 := ⟨(gm 373 (by decide +kernel) rfl), (gm 374 (by decide +kernel) rfl), (gm 375 (by decide +kernel) rfl), (gm 6 (by decide +kernel) rfl), cd_X6_number, by decide +kernel, by decide +kernel, by decide +kernel⟩
theorem fa_X5_42 : f_A RX5 42 5 8 := ⟨RX5, TX5, 13, rfl, by decide, inX5, gm 175 (by decide +kernel) rfl⟩
set_option maxRecDepth 100000 in
theorem cd_X6_message : Cond.code yX6_message cX6_message 2 (some (.object "SpoolLink$Message")) ∈ G := gm 380 rfl rfl
theorem cf_X5_136 : c_V RX5 136 yX6_message cX6_message 2 (some (.object "SpoolLink$Message")) 1 := ⟨(gm 377 (by decide +kernel) rfl), (gm 378 (by decide +kernel) rfl), (gm 379 (by decide +kernel) rfl), (gm 6 (by decide +kernel) rfl), cd_X6_message, by decide +kernel, by decide +kernel, by decide +kernel⟩
set_option maxRecDepth 100000 in
theorem cd_X4_fillData : Cond.code yX4_fillData cX4_fillData 5 (none) ∈ G := gm 384 rfl rfl
theorem cf_X5_140 : c_V RX5 140 yX4_fillData cX4_fillData 5 (none) 3 := ⟨(gm 381 (by decide +kernel) rfl), (gm 382 (by decide +kernel) rfl), (gm 383 (by decide +kernel) rfl), (gm 3 (by decide +kernel) rfl), cd_X4_fillData, by decide +kernel, by decide +kernel, by decide +kernel⟩
theorem fa_X5_49 : f_A RX5 49 5 10 := ⟨RX5, TX5, 13, rfl, by decide, inX5, gm 177 (by decide +kernel) rfl⟩
theorem fa_X5_52 : f_A RX5 52 5 11 := ⟨RX5, TX5, 13, rfl, by decide, inX5, gm 178 (by decide +kernel) rfl⟩
theorem fa_X5_32 : f_A RX5 32 5 5 := ⟨RX5, TX5, 13, rfl, by decide, inX5, gm 171 (by decide +kernel) rfl⟩
set_option maxRecDepth 100000 in
theorem cd_X5_sendOutFrom : Cond.code yX5_sendOutFrom cX5_sendOutFrom 3 (none) ∈ G := gm 372 rfl rfl
theorem cf_X5_129 : c_V RX5 129 yX5_sendOutFrom cX5_sendOutFrom 3 (none) 1 := ⟨(gm 369 (by decide +kernel) rfl), (gm 371 (by decide +kernel) rfl), (gs 8 (by decide +kernel) rfl), (gm 4 (by decide +kernel) rfl), cd_X5_sendOutFrom, by decide +kernel, by decide +kernel, by decide +kernel⟩
set_option maxRecDepth 100000 in
theorem cd_X5_passTickUnanswered : Cond.code yX5_passTickUnanswered cX5_passTickUnanswered 1 (some .int) ∈ G := gm 501 rfl rfl
theorem cf_X5_93 : c_V RX5 93 yX5_passTickUnanswered cX5_passTickUnanswered 1 (some .int) 0 := ⟨(gm 498 (by decide +kernel) rfl), (gm 500 (by decide +kernel) rfl), (gs 19 (by decide +kernel) rfl), (gm 4 (by decide +kernel) rfl), cd_X5_passTickUnanswered, by decide +kernel, by decide +kernel, by decide +kernel⟩
set_option maxRecDepth 100000 in
theorem cd_X5_isOpen : Cond.code yX5_isOpen cX5_isOpen 1 (some .boolean) ∈ G := gm 343 rfl rfl
theorem cf_X5_97 : c_V RX5 97 yX5_isOpen cX5_isOpen 1 (some .boolean) 0 := ⟨(gm 340 (by decide +kernel) rfl), (gm 342 (by decide +kernel) rfl), (gs 5 (by decide +kernel) rfl), (gm 4 (by decide +kernel) rfl), cd_X5_isOpen, by decide +kernel, by decide +kernel, by decide +kernel⟩
theorem fa_X5_55 : f_A RX5 55 5 12 := ⟨RX5, TX5, 13, rfl, by decide, inX5, gm 179 (by decide +kernel) rfl⟩
theorem fa_X6_16 : f_A RX6 16 6 3 := ⟨RX6, TX6, 5, rfl, by decide, inX6, gm 125 (by decide +kernel) rfl⟩
set_option maxRecDepth 100000 in
theorem cd_X6_acknowledge : Cond.code yX6_acknowledge cX6_acknowledge 3 (some .boolean) ∈ G := gm 361 rfl rfl
theorem cf_X5_150 : c_V RX5 150 yX6_acknowledge cX6_acknowledge 3 (some .boolean) 1 := ⟨(gm 358 (by decide +kernel) rfl), (gm 359 (by decide +kernel) rfl), (gm 360 (by decide +kernel) rfl), (gm 6 (by decide +kernel) rfl), cd_X6_acknowledge, by decide +kernel, by decide +kernel, by decide +kernel⟩
theorem fa_X6_19 : f_A RX6 19 6 4 := ⟨RX6, TX6, 5, rfl, by decide, inX6, gm 128 (by decide +kernel) rfl⟩
theorem cj_X6_36 : Cond.methodLink RX6 36 Lib.Math.min.name ∈ G := gm 366 (by decide +kernel) rfl
theorem gj_m1 : Cond.static Lib.Math.min.name ∈ G := gm 367 (by decide +kernel) rfl
theorem gj_m2 : Cond.initialized "java/lang/Math" ∈ G := gm 12 (by decide +kernel) rfl
theorem gj_m3 : Cond.code Lib.Math.min.name Lib.Math.min.code 2 (some .int) ∈ G := gm 368 rfl rfl
theorem fa_X6_29 : f_A RX6 29 3 0 := ⟨RX3, TX3, 2, rfl, by decide, inX3, gm 112 (by decide +kernel) rfl⟩
theorem fp_X6_33 : f_P RX6 33 3 1 .int false := ⟨RX3, TX3, 2, tyX3, rfl, by decide, inX3, gm 116 (by decide +kernel) rfl, tyX3_ok, nmX3, rfl, (fun h => by cases h), by decide +kernel⟩
set_option maxRecDepth 100000 in
theorem cd_X0_firstJob : Cond.code yX0_firstJob cX0_firstJob 1 (some (.object "SpoolLink$Job")) ∈ G := gm 408 rfl rfl
theorem cf_X5_205 : c_V RX5 205 yX0_firstJob cX0_firstJob 1 (some (.object "SpoolLink$Job")) 0 := ⟨(gm 405 (by decide +kernel) rfl), (gm 406 (by decide +kernel) rfl), (gm 407 (by decide +kernel) rfl), (gm 5 (by decide +kernel) rfl), cd_X0_firstJob, by decide +kernel, by decide +kernel, by decide +kernel⟩
set_option maxRecDepth 100000 in
theorem cd_X6_add : Cond.code yX6_add cX6_add 3 (some (.object "SpoolLink$Message")) ∈ G := gm 412 rfl rfl
theorem cf_X5_187 : c_V RX5 187 yX6_add cX6_add 3 (some (.object "SpoolLink$Message")) 1 := ⟨(gm 409 (by decide +kernel) rfl), (gm 410 (by decide +kernel) rfl), (gm 411 (by decide +kernel) rfl), (gm 6 (by decide +kernel) rfl), cd_X6_add, by decide +kernel, by decide +kernel, by decide +kernel⟩
theorem fa_X5_208 : f_A RX5 208 2 0 := ⟨RX2, TX2, 2, rfl, by decide, inX2, gm 246 (by decide +kernel) rfl⟩
set_option maxRecDepth 100000 in
theorem cd_X3_append : Cond.code yX3_append cX3_append 2 (none) ∈ G := gm 416 rfl rfl
theorem cf_X5_212 : c_V RX5 212 yX3_append cX3_append 2 (none) 1 := ⟨(gm 413 (by decide +kernel) rfl), (gm 414 (by decide +kernel) rfl), (gm 415 (by decide +kernel) rfl), (gm 7 (by decide +kernel) rfl), cd_X3_append, by decide +kernel, by decide +kernel, by decide +kernel⟩
theorem fa_X5_217 : f_A RX5 217 2 1 := ⟨RX2, TX2, 2, rfl, by decide, inX2, gm 249 (by decide +kernel) rfl⟩
theorem cj_X5_221 : Cond.methodLink RX5 221 Lib.Math.min.name ∈ G := gm 421 (by decide +kernel) rfl
set_option maxRecDepth 100000 in
theorem cd_X0_dropFirstJob : Cond.code yX0_dropFirstJob cX0_dropFirstJob 1 (some .boolean) ∈ G := gm 400 rfl rfl
theorem cf_X5_169 : c_V RX5 169 yX0_dropFirstJob cX0_dropFirstJob 1 (some .boolean) 0 := ⟨(gm 397 (by decide +kernel) rfl), (gm 398 (by decide +kernel) rfl), (gm 399 (by decide +kernel) rfl), (gm 5 (by decide +kernel) rfl), cd_X0_dropFirstJob, by decide +kernel, by decide +kernel, by decide +kernel⟩
set_option maxRecDepth 100000 in
theorem cd_X5_goOn : Cond.code yX5_goOn cX5_goOn 3 (none) ∈ G := gm 404 rfl rfl
theorem cf_X5_144 : c_V RX5 144 yX5_goOn cX5_goOn 3 (none) 0 := ⟨(gm 401 (by decide +kernel) rfl), (gm 403 (by decide +kernel) rfl), (gs 10 (by decide +kernel) rfl), (gm 4 (by decide +kernel) rfl), cd_X5_goOn, by decide +kernel, by decide +kernel, by decide +kernel⟩
theorem cf_X5_163 : c_V RX5 163 yX4_messageLength cX4_messageLength 1 (some .int) 0 := ⟨(gm 389 (by decide +kernel) rfl), (gm 390 (by decide +kernel) rfl), (gm 391 (by decide +kernel) rfl), (gm 3 (by decide +kernel) rfl), cd_X4_messageLength, by decide +kernel, by decide +kernel, by decide +kernel⟩
theorem cf_X5_166 : c_V RX5 166 yX4_messageByte cX4_messageByte 2 (some .int) 1 := ⟨(gm 393 (by decide +kernel) rfl), (gm 394 (by decide +kernel) rfl), (gm 395 (by decide +kernel) rfl), (gm 3 (by decide +kernel) rfl), cd_X4_messageByte, by decide +kernel, by decide +kernel, by decide +kernel⟩
set_option maxRecDepth 100000 in
theorem cd_X5_addFile : Cond.code yX5_addFile cX5_addFile 6 (none) ∈ G := gm 420 rfl rfl
theorem cf_X5_172 : c_V RX5 172 yX5_addFile cX5_addFile 6 (none) 0 := ⟨(gm 417 (by decide +kernel) rfl), (gm 419 (by decide +kernel) rfl), (gs 11 (by decide +kernel) rfl), (gm 4 (by decide +kernel) rfl), cd_X5_addFile, by decide +kernel, by decide +kernel, by decide +kernel⟩
set_option maxRecDepth 100000 in
theorem cd_X0_hasDone : Cond.code yX0_hasDone cX0_hasDone 3 (some .boolean) ∈ G := gm 433 rfl rfl
theorem cf_X5_189 : c_V RX5 189 yX0_hasDone cX0_hasDone 3 (some .boolean) 1 := ⟨(gm 430 (by decide +kernel) rfl), (gm 431 (by decide +kernel) rfl), (gm 432 (by decide +kernel) rfl), (gm 5 (by decide +kernel) rfl), cd_X0_hasDone, by decide +kernel, by decide +kernel, by decide +kernel⟩
set_option maxRecDepth 100000 in
theorem cd_X1_begin : Cond.code yX1_begin cX1_begin 3 (none) ∈ G := gm 437 rfl rfl
theorem cf_X5_192 : c_V RX5 192 yX1_begin cX1_begin 3 (none) 2 := ⟨(gm 434 (by decide +kernel) rfl), (gm 435 (by decide +kernel) rfl), (gm 436 (by decide +kernel) rfl), (gm 8 (by decide +kernel) rfl), cd_X1_begin, by decide +kernel, by decide +kernel, by decide +kernel⟩
set_option maxRecDepth 100000 in
theorem cd_X0_jobsLeft : Cond.code yX0_jobsLeft cX0_jobsLeft 1 (some .int) ∈ G := gm 447 rfl rfl
theorem cf_X5_184 : c_V RX5 184 yX0_jobsLeft cX0_jobsLeft 1 (some .int) 0 := ⟨(gm 444 (by decide +kernel) rfl), (gm 445 (by decide +kernel) rfl), (gm 446 (by decide +kernel) rfl), (gm 5 (by decide +kernel) rfl), cd_X0_jobsLeft, by decide +kernel, by decide +kernel, by decide +kernel⟩
set_option maxRecDepth 100000 in
theorem cd_X1_takePart : Cond.code yX1_takePart cX1_takePart 3 (none) ∈ G := gm 441 rfl rfl
theorem cf_X5_181 : c_V RX5 181 yX1_takePart cX1_takePart 3 (none) 1 := ⟨(gm 438 (by decide +kernel) rfl), (gm 439 (by decide +kernel) rfl), (gm 440 (by decide +kernel) rfl), (gm 8 (by decide +kernel) rfl), cd_X1_takePart, by decide +kernel, by decide +kernel, by decide +kernel⟩
set_option maxRecDepth 100000 in
theorem cd_X5_takeOffer : Cond.code yX5_takeOffer cX5_takeOffer 3 (none) ∈ G := gm 429 rfl rfl
theorem cf_X5_175 : c_V RX5 175 yX5_takeOffer cX5_takeOffer 3 (none) 2 := ⟨(gm 426 (by decide +kernel) rfl), (gm 428 (by decide +kernel) rfl), (gs 13 (by decide +kernel) rfl), (gm 4 (by decide +kernel) rfl), cd_X5_takeOffer, by decide +kernel, by decide +kernel, by decide +kernel⟩
set_option maxRecDepth 100000 in
theorem cd_X0_addDone : Cond.code yX0_addDone cX0_addDone 2 (none) ∈ G := gm 465 rfl rfl
theorem cf_X5_201 : c_V RX5 201 yX0_addDone cX0_addDone 2 (none) 1 := ⟨(gm 462 (by decide +kernel) rfl), (gm 463 (by decide +kernel) rfl), (gm 464 (by decide +kernel) rfl), (gm 5 (by decide +kernel) rfl), cd_X0_addDone, by decide +kernel, by decide +kernel, by decide +kernel⟩
set_option maxRecDepth 100000 in
theorem cd_X1_isWhole : Cond.code yX1_isWhole cX1_isWhole 1 (some .boolean) ∈ G := gm 455 rfl rfl
theorem cf_X5_194 : c_V RX5 194 yX1_isWhole cX1_isWhole 1 (some .boolean) 0 := ⟨(gm 452 (by decide +kernel) rfl), (gm 453 (by decide +kernel) rfl), (gm 454 (by decide +kernel) rfl), (gm 8 (by decide +kernel) rfl), cd_X1_isWhole, by decide +kernel, by decide +kernel, by decide +kernel⟩
set_option maxRecDepth 100000 in
theorem cd_X1_job : Cond.code yX1_job cX1_job 1 (some (.object "SpoolLink$Job")) ∈ G := gm 459 rfl rfl
theorem cf_X5_197 : c_V RX5 197 yX1_job cX1_job 1 (some (.object "SpoolLink$Job")) 0 := ⟨(gm 456 (by decide +kernel) rfl), (gm 457 (by decide +kernel) rfl), (gm 458 (by decide +kernel) rfl), (gm 8 (by decide +kernel) rfl), cd_X1_job, by decide +kernel, by decide +kernel, by decide +kernel⟩
set_option maxRecDepth 100000 in
theorem cd_X4_y : Cond.code yX4_y cX4_y 1 (some .int) ∈ G := gm 353 rfl rfl
theorem cf_X5_114 : c_V RX5 114 yX4_y cX4_y 1 (some .int) 0 := ⟨(gm 350 (by decide +kernel) rfl), (gm 351 (by decide +kernel) rfl), (gm 352 (by decide +kernel) rfl), (gm 3 (by decide +kernel) rfl), cd_X4_y, by decide +kernel, by decide +kernel, by decide +kernel⟩
set_option maxRecDepth 100000 in
theorem cd_X5_takeAcknowledgement : Cond.code yX5_takeAcknowledgement cX5_takeAcknowledgement 2 (none) ∈ G := gm 357 rfl rfl
theorem cf_X5_147 : c_V RX5 147 yX5_takeAcknowledgement cX5_takeAcknowledgement 2 (none) 1 := ⟨(gm 354 (by decide +kernel) rfl), (gm 356 (by decide +kernel) rfl), (gs 7 (by decide +kernel) rfl), (gm 4 (by decide +kernel) rfl), cd_X5_takeAcknowledgement, by decide +kernel, by decide +kernel, by decide +kernel⟩
set_option maxRecDepth 100000 in
theorem cd_X6_letOut : Cond.code yX6_letOut cX6_letOut 3 (some .int) ∈ G := gm 365 rfl rfl
theorem cf_X5_126 : c_V RX5 126 yX6_letOut cX6_letOut 3 (some .int) 0 := ⟨(gm 362 (by decide +kernel) rfl), (gm 363 (by decide +kernel) rfl), (gm 364 (by decide +kernel) rfl), (gm 6 (by decide +kernel) rfl), cd_X6_letOut, by decide +kernel, by decide +kernel, by decide +kernel⟩
theorem cf_X5_104 : c_V RX5 104 yX4_x cX4_x 1 (some .int) 0 := ⟨(gm 344 (by decide +kernel) rfl), (gm 334 (by decide +kernel) rfl), (gm 335 (by decide +kernel) rfl), (gm 3 (by decide +kernel) rfl), cd_X4_x, by decide +kernel, by decide +kernel, by decide +kernel⟩
set_option maxRecDepth 100000 in
theorem cd_X5_doAsSlave : Cond.code yX5_doAsSlave cX5_doAsSlave 4 (none) ∈ G := gm 425 rfl rfl
theorem cf_X5_157 : c_V RX5 157 yX5_doAsSlave cX5_doAsSlave 4 (none) 1 := ⟨(gm 422 (by decide +kernel) rfl), (gm 424 (by decide +kernel) rfl), (gs 12 (by decide +kernel) rfl), (gm 4 (by decide +kernel) rfl), cd_X5_doAsSlave, by decide +kernel, by decide +kernel, by decide +kernel⟩
set_option maxRecDepth 100000 in
theorem cd_X5_executeWhatIsWhole : Cond.code yX5_executeWhatIsWhole cX5_executeWhatIsWhole 1 (none) ∈ G := gm 451 rfl rfl
theorem cf_X5_160 : c_V RX5 160 yX5_executeWhatIsWhole cX5_executeWhatIsWhole 1 (none) 0 := ⟨(gm 448 (by decide +kernel) rfl), (gm 450 (by decide +kernel) rfl), (gs 14 (by decide +kernel) rfl), (gm 4 (by decide +kernel) rfl), cd_X5_executeWhatIsWhole, by decide +kernel, by decide +kernel, by decide +kernel⟩
set_option maxRecDepth 100000 in
theorem cd_X5_doAsMaster : Cond.code yX5_doAsMaster cX5_doAsMaster 2 (none) ∈ G := gm 388 rfl rfl
theorem cf_X5_154 : c_V RX5 154 yX5_doAsMaster cX5_doAsMaster 2 (none) 1 := ⟨(gm 385 (by decide +kernel) rfl), (gm 387 (by decide +kernel) rfl), (gs 9 (by decide +kernel) rfl), (gm 4 (by decide +kernel) rfl), cd_X5_doAsMaster, by decide +kernel, by decide +kernel, by decide +kernel⟩
theorem fa_X5_39 : f_A RX5 39 5 7 := ⟨RX5, TX5, 13, rfl, by decide, inX5, gm 174 (by decide +kernel) rfl⟩
theorem fa_X5_45 : f_A RX5 45 5 9 := ⟨RX5, TX5, 13, rfl, by decide, inX5, gm 176 (by decide +kernel) rfl⟩
theorem fa_X5_58 : f_A RX5 58 5 0 := ⟨RX5, TX5, 13, rfl, by decide, inX5, gm 164 (by decide +kernel) rfl⟩
set_option maxRecDepth 100000 in
theorem cd_X4_isGood : Cond.code yX4_isGood cX4_isGood 2 (some .boolean) ∈ G := gm 315 rfl rfl
theorem cf_X5_101 : c_V RX5 101 yX4_isGood cX4_isGood 2 (some .boolean) 0 := ⟨(gm 312 (by decide +kernel) rfl), (gm 313 (by decide +kernel) rfl), (gm 314 (by decide +kernel) rfl), (gm 3 (by decide +kernel) rfl), cd_X4_isGood, by decide +kernel, by decide +kernel, by decide +kernel⟩
theorem cf_X5_107 : c_V RX5 107 yX4_isData cX4_isData 1 (some .boolean) 0 := ⟨(gm 345 (by decide +kernel) rfl), (gm 317 (by decide +kernel) rfl), (gm 318 (by decide +kernel) rfl), (gm 3 (by decide +kernel) rfl), cd_X4_isData, by decide +kernel, by decide +kernel, by decide +kernel⟩
set_option maxRecDepth 100000 in
theorem cd_X5_takeControl : Cond.code yX5_takeControl cX5_takeControl 3 (none) ∈ G := gm 477 rfl rfl
theorem cf_X5_123 : c_V RX5 123 yX5_takeControl cX5_takeControl 3 (none) 2 := ⟨(gm 474 (by decide +kernel) rfl), (gm 476 (by decide +kernel) rfl), (gs 17 (by decide +kernel) rfl), (gm 4 (by decide +kernel) rfl), cd_X5_takeControl, by decide +kernel, by decide +kernel, by decide +kernel⟩
set_option maxRecDepth 100000 in
theorem cd_X5_takeAnswer : Cond.code yX5_takeAnswer cX5_takeAnswer 2 (none) ∈ G := gm 473 rfl rfl
theorem cf_X5_120 : c_V RX5 120 yX5_takeAnswer cX5_takeAnswer 2 (none) 1 := ⟨(gm 470 (by decide +kernel) rfl), (gm 472 (by decide +kernel) rfl), (gs 16 (by decide +kernel) rfl), (gm 4 (by decide +kernel) rfl), cd_X5_takeAnswer, by decide +kernel, by decide +kernel, by decide +kernel⟩
set_option maxRecDepth 100000 in
theorem cd_X5_takeInit : Cond.code yX5_takeInit cX5_takeInit 4 (none) ∈ G := gm 469 rfl rfl
theorem cf_X5_117 : c_V RX5 117 yX5_takeInit cX5_takeInit 4 (none) 1 := ⟨(gm 466 (by decide +kernel) rfl), (gm 468 (by decide +kernel) rfl), (gs 15 (by decide +kernel) rfl), (gm 4 (by decide +kernel) rfl), cd_X5_takeInit, by decide +kernel, by decide +kernel, by decide +kernel⟩
set_option maxRecDepth 100000 in
theorem cd_X5_takeData : Cond.code yX5_takeData cX5_takeData 2 (none) ∈ G := gm 349 rfl rfl
theorem cf_X5_110 : c_V RX5 110 yX5_takeData cX5_takeData 2 (none) 1 := ⟨(gm 346 (by decide +kernel) rfl), (gm 348 (by decide +kernel) rfl), (gs 6 (by decide +kernel) rfl), (gm 4 (by decide +kernel) rfl), cd_X5_takeData, by decide +kernel, by decide +kernel, by decide +kernel⟩
set_option maxRecDepth 100000 in
theorem cd_X4_init : Cond.code yX4_init cX4_init 1 (none) ∈ G := gm 32 rfl rfl
theorem cf_X7_9 : c_N RX7 9 yX4_init cX4_init 1 0 := ⟨fun _ h => h.2.2.2.1, rfl, (gm 31 (by decide +kernel) rfl), (gm 3 (by decide +kernel) rfl), cd_X4_init, by decide +kernel, by decide +kernel, by decide +kernel⟩
theorem fn_X7_7 : f_N RX7 7 4 2 := ⟨RX4, TX4, tyX4, rfl, inX4, tyX4_ok, gm 28 (by decide +kernel) rfl, gm 29 (by decide +kernel) rfl, gm 3 (by decide +kernel) rfl, by decide +kernel⟩
theorem fp_X7_23 : f_P RX7 23 7 0 (.array (.object "SpoolLink$Packet")) true := ⟨RX7, TX7, 4, tyX7, rfl, by decide, inX7, gm 45 (by decide +kernel) rfl, tyX7_ok, nmX7, rfl, (fun _ => rfl), by decide +kernel⟩
theorem fp_X7_10 : f_P RX7 10 7 1 (.object "SpoolLink$Packet") true := ⟨RX7, TX7, 4, tyX7, rfl, by decide, inX7, gm 46 (by decide +kernel) rfl, tyX7_ok, nmX7, rfl, (fun _ => rfl), by decide +kernel⟩
theorem fp_X7_16 : f_P RX7 16 7 2 .int false := ⟨RX7, TX7, 4, tyX7, rfl, by decide, inX7, gm 47 (by decide +kernel) rfl, tyX7_ok, nmX7, rfl, (fun h => by cases h), by decide +kernel⟩
theorem cj_X7_1 : Cond.methodLink RX7 1 objectInit ∈ G := gm 27 (by decide +kernel) rfl
theorem fp_X8_25 : f_P RX8 25 8 2 (.array .int) true := ⟨RX8, TX8, 4, tyX8, rfl, by decide, inX8, gm 209 (by decide +kernel) rfl, tyX8_ok, nmX8, rfl, (fun _ => rfl), by decide +kernel⟩
theorem fp_X8_29 : f_P RX8 29 8 3 .int false := ⟨RX8, TX8, 4, tyX8, rfl, by decide, inX8, gm 210 (by decide +kernel) rfl, tyX8_ok, nmX8, rfl, (fun h => by cases h), by decide +kernel⟩
theorem fp_X8_21 : f_P RX8 21 8 1 (.array (.object "SpoolLink$Site")) true := ⟨RX8, TX8, 4, tyX8, rfl, by decide, inX8, gm 208 (by decide +kernel) rfl, tyX8_ok, nmX8, rfl, (fun _ => rfl), by decide +kernel⟩
theorem fa_X8_10 : f_A RX8 10 8 0 := ⟨RX8, TX8, 4, rfl, by decide, inX8, gm 207 (by decide +kernel) rfl⟩
set_option maxRecDepth 100000 in
theorem cd_X5_init : Cond.code yX5_init cX5_init 3 (none) ∈ G := gm 64 rfl rfl
theorem cf_X8_18 : c_I RX8 18 yX5_init cX5_init 3 2 := ⟨(gm 62 (by decide +kernel) rfl), rfl, (gm 63 (by decide +kernel) rfl), (gm 4 (by decide +kernel) rfl), cd_X5_init, by decide +kernel, by decide +kernel, by decide +kernel⟩
theorem fn_X8_16 : f_N RX8 16 5 13 := ⟨RX5, TX5, tyX5, rfl, inX5, tyX5_ok, gm 59 (by decide +kernel) rfl, gm 61 (by decide +kernel) rfl, gm 4 (by decide +kernel) rfl, by decide +kernel⟩
theorem fp_X8_10 : f_P RX8 10 8 0 (.array (.object "SpoolLink$Wire")) true := ⟨RX8, TX8, 4, tyX8, rfl, by decide, inX8, gm 207 (by decide +kernel) rfl, tyX8_ok, nmX8, rfl, (fun _ => rfl), by decide +kernel⟩
set_option maxRecDepth 100000 in
theorem cd_X7_init : Cond.code yX7_init cX7_init 2 (none) ∈ G := gm 26 rfl rfl
theorem cf_X8_9 : c_I RX8 9 yX7_init cX7_init 2 0 := ⟨(gm 24 (by decide +kernel) rfl), rfl, (gm 25 (by decide +kernel) rfl), (gm 2 (by decide +kernel) rfl), cd_X7_init, by decide +kernel, by decide +kernel, by decide +kernel⟩
theorem fn_X8_7 : f_N RX8 7 7 4 := ⟨RX7, TX7, tyX7, rfl, inX7, tyX7_ok, gm 21 (by decide +kernel) rfl, gm 23 (by decide +kernel) rfl, gm 2 (by decide +kernel) rfl, by decide +kernel⟩
theorem cj_X8_1 : Cond.methodLink RX8 1 objectInit ∈ G := gm 18 (by decide +kernel) rfl
theorem fa_X8_29 : f_A RX8 29 8 3 := ⟨RX8, TX8, 4, rfl, by decide, inX8, gm 210 (by decide +kernel) rfl⟩
theorem fa_X8_25 : f_A RX8 25 8 2 := ⟨RX8, TX8, 4, rfl, by decide, inX8, gm 209 (by decide +kernel) rfl⟩
set_option maxRecDepth 100000 in
theorem cd_X8_isSite : Cond.code yX8_isSite cX8_isSite 1 (some .boolean) ∈ G := gm 230 rfl rfl
theorem cf_X8_33 : c_S RX8 33 yX8_isSite cX8_isSite 1 (some .boolean) 1 := ⟨(gm 228 (by decide +kernel) rfl), (gm 229 (by decide +kernel) rfl), (gm 1 (by decide +kernel) rfl), cd_X8_isSite, by decide +kernel, by decide +kernel, by decide +kernel⟩
theorem fa_X8_21 : f_A RX8 21 8 1 := ⟨RX8, TX8, 4, rfl, by decide, inX8, gm 208 (by decide +kernel) rfl⟩
theorem fa_X8_37 : f_A RX8 37 5 2 := ⟨RX5, TX5, 13, rfl, by decide, inX5, gm 167 (by decide +kernel) rfl⟩
set_option maxRecDepth 100000 in
theorem cd_X0_addJob : Cond.code yX0_addJob cX0_addJob 4 (some .int) ∈ G := gm 234 rfl rfl
theorem cf_X8_41 : c_V RX8 41 yX0_addJob cX0_addJob 4 (some .int) 2 := ⟨(gm 231 (by decide +kernel) rfl), (gm 232 (by decide +kernel) rfl), (gm 233 (by decide +kernel) rfl), (gm 5 (by decide +kernel) rfl), cd_X0_addJob, by decide +kernel, by decide +kernel, by decide +kernel⟩
theorem fa_X8_47 : f_A RX8 47 5 5 := ⟨RX5, TX5, 13, rfl, by decide, inX5, gm 172 (by decide +kernel) rfl⟩
set_option maxRecDepth 100000 in
theorem cd_X7_clear : Cond.code yX7_clear cX7_clear 1 (none) ∈ G := gm 262 rfl rfl
theorem cf_X8_50 : c_V RX8 50 yX7_clear cX7_clear 1 (none) 0 := ⟨(gm 259 (by decide +kernel) rfl), (gm 260 (by decide +kernel) rfl), (gm 261 (by decide +kernel) rfl), (gm 2 (by decide +kernel) rfl), cd_X7_clear, by decide +kernel, by decide +kernel, by decide +kernel⟩
set_option maxRecDepth 100000 in
theorem cd_X5_beginCall : Cond.code yX5_beginCall cX5_beginCall 1 (none) ∈ G := gm 266 rfl rfl
theorem cf_X8_53 : c_V RX8 53 yX5_beginCall cX5_beginCall 1 (none) 0 := ⟨(gm 263 (by decide +kernel) rfl), (gm 264 (by decide +kernel) rfl), (gm 265 (by decide +kernel) rfl), (gm 4 (by decide +kernel) rfl), cd_X5_beginCall, by decide +kernel, by decide +kernel, by decide +kernel⟩
set_option maxRecDepth 100000 in
theorem cd_X7_packet : Cond.code yX7_packet cX7_packet 2 (some (.object "SpoolLink$Packet")) ∈ G := gm 303 rfl rfl
theorem cf_X8_126 : c_V RX8 126 yX7_packet cX7_packet 2 (some (.object "SpoolLink$Packet")) 1 := ⟨(gm 300 (by decide +kernel) rfl), (gm 301 (by decide +kernel) rfl), (gm 302 (by decide +kernel) rfl), (gm 2 (by decide +kernel) rfl), cd_X7_packet, by decide +kernel, by decide +kernel, by decide +kernel⟩
set_option maxRecDepth 100000 in
theorem cd_X7_dropFirst : Cond.code yX7_dropFirst cX7_dropFirst 1 (none) ∈ G := gm 307 rfl rfl
theorem cf_X8_64 : c_V RX8 64 yX7_dropFirst cX7_dropFirst 1 (none) 0 := ⟨(gm 304 (by decide +kernel) rfl), (gm 305 (by decide +kernel) rfl), (gm 306 (by decide +kernel) rfl), (gm 2 (by decide +kernel) rfl), cd_X7_dropFirst, by decide +kernel, by decide +kernel, by decide +kernel⟩
set_option maxRecDepth 100000 in
theorem cd_X5_receive : Cond.code yX5_receive cX5_receive 3 (some .boolean) ∈ G := gm 311 rfl rfl
theorem cf_X8_133 : c_V RX8 133 yX5_receive cX5_receive 3 (some .boolean) 1 := ⟨(gm 308 (by decide +kernel) rfl), (gm 309 (by decide +kernel) rfl), (gm 310 (by decide +kernel) rfl), (gm 4 (by decide +kernel) rfl), cd_X5_receive, by decide +kernel, by decide +kernel, by decide +kernel⟩
set_option maxRecDepth 100000 in
theorem cd_X8_handOver : Cond.code yX8_handOver cX8_handOver 3 (some .int) ∈ G := gm 299 rfl rfl
theorem cf_X8_56 : c_V RX8 56 yX8_handOver cX8_handOver 3 (some .int) 1 := ⟨(gm 296 (by decide +kernel) rfl), (gm 298 (by decide +kernel) rfl), (gs 1 (by decide +kernel) rfl), (gm 1 (by decide +kernel) rfl), cd_X8_handOver, by decide +kernel, by decide +kernel, by decide +kernel⟩
set_option maxRecDepth 100000 in
theorem cd_X8_packetOn : Cond.code yX8_packetOn cX8_packetOn 3 (some (.object "SpoolLink$Packet")) ∈ G := gm 485 rfl rfl
theorem cf_X8_60 : c_V RX8 60 yX8_packetOn cX8_packetOn 3 (some (.object "SpoolLink$Packet")) 2 := ⟨(gm 482 (by decide +kernel) rfl), (gm 484 (by decide +kernel) rfl), (gs 18 (by decide +kernel) rfl), (gm 1 (by decide +kernel) rfl), cd_X8_packetOn, by decide +kernel, by decide +kernel, by decide +kernel⟩
theorem fa_X8_67 : f_A RX8 67 4 1 := ⟨RX4, TX4, 2, rfl, by decide, inX4, gm 37 (by decide +kernel) rfl⟩
theorem fa_X8_72 : f_A RX8 72 4 0 := ⟨RX4, TX4, 2, rfl, by decide, inX4, gm 35 (by decide +kernel) rfl⟩
set_option maxRecDepth 100000 in
theorem cd_X5_passTick : Cond.code yX5_passTick cX5_passTick 1 (some .int) ∈ G := gm 497 rfl rfl
theorem cf_X8_75 : c_V RX8 75 yX5_passTick cX5_passTick 1 (some .int) 0 := ⟨(gm 494 (by decide +kernel) rfl), (gm 495 (by decide +kernel) rfl), (gm 496 (by decide +kernel) rfl), (gm 4 (by decide +kernel) rfl), cd_X5_passTick, by decide +kernel, by decide +kernel, by decide +kernel⟩
theorem cf_X8_79 : c_V RX8 79 yX5_begin cX5_begin 2 (none) 1 := ⟨(gm 506 (by decide +kernel) rfl), (gm 268 (by decide +kernel) rfl), (gm 269 (by decide +kernel) rfl), (gm 4 (by decide +kernel) rfl), cd_X5_begin, by decide +kernel, by decide +kernel, by decide +kernel⟩
theorem fa_X8_83 : f_A RX8 83 7 3 := ⟨RX7, TX7, 4, rfl, by decide, inX7, gm 49 (by decide +kernel) rfl⟩
theorem cf_X8_86 : c_V RX8 86 yX0_jobsLeft cX0_jobsLeft 1 (some .int) 0 := ⟨(gm 523 (by decide +kernel) rfl), (gm 445 (by decide +kernel) rfl), (gm 446 (by decide +kernel) rfl), (gm 5 (by decide +kernel) rfl), cd_X0_jobsLeft, by decide +kernel, by decide +kernel, by decide +kernel⟩
theorem fa_X8_89 : f_A RX8 89 0 4 := ⟨RX0, TX0, 6, rfl, by decide, inX0, gm 81 (by decide +kernel) rfl⟩
theorem fa_X8_92 : f_A RX8 92 5 3 := ⟨RX5, TX5, 13, rfl, by decide, inX5, gm 169 (by decide +kernel) rfl⟩
theorem fa_X8_96 : f_A RX8 96 6 3 := ⟨RX6, TX6, 5, rfl, by decide, inX6, gm 127 (by decide +kernel) rfl⟩
theorem fa_X8_101 : f_A RX8 101 6 4 := ⟨RX6, TX6, 5, rfl, by decide, inX6, gm 129 (by decide +kernel) rfl⟩
theorem fa_X8_104 : f_A RX8 104 0 5 := ⟨RX0, TX0, 6, rfl, by decide, inX0, gm 84 (by decide +kernel) rfl⟩
theorem fa_X8_107 : f_A RX8 107 0 1 := ⟨RX0, TX0, 6, rfl, by decide, inX0, gm 76 (by decide +kernel) rfl⟩
set_option maxRecDepth 100000 in
theorem cd_X0_doneJob : Cond.code yX0_doneJob cX0_doneJob 2 (some (.object "SpoolLink$Job")) ∈ G := gm 539 rfl rfl
theorem cf_X8_130 : c_V RX8 130 yX0_doneJob cX0_doneJob 2 (some (.object "SpoolLink$Job")) 1 := ⟨(gm 536 (by decide +kernel) rfl), (gm 537 (by decide +kernel) rfl), (gm 538 (by decide +kernel) rfl), (gm 5 (by decide +kernel) rfl), cd_X0_doneJob, by decide +kernel, by decide +kernel, by decide +kernel⟩
set_option maxRecDepth 100000 in
theorem cd_X8_doneJob : Cond.code yX8_doneJob cX8_doneJob 3 (some (.object "SpoolLink$Job")) ∈ G := gm 535 rfl rfl
theorem cf_X8_110 : c_V RX8 110 yX8_doneJob cX8_doneJob 3 (some (.object "SpoolLink$Job")) 2 := ⟨(gm 532 (by decide +kernel) rfl), (gm 534 (by decide +kernel) rfl), (gs 20 (by decide +kernel) rfl), (gm 1 (by decide +kernel) rfl), cd_X8_doneJob, by decide +kernel, by decide +kernel, by decide +kernel⟩
theorem fa_X8_114 : f_A RX8 114 2 0 := ⟨RX2, TX2, 2, rfl, by decide, inX2, gm 245 (by decide +kernel) rfl⟩
theorem fa_X8_119 : f_A RX8 119 2 1 := ⟨RX2, TX2, 2, rfl, by decide, inX2, gm 248 (by decide +kernel) rfl⟩
theorem fa_X8_120 : f_A RX8 120 0 2 := ⟨RX0, TX0, 6, rfl, by decide, inX0, gm 78 (by decide +kernel) rfl⟩
theorem cf_X8_123 : c_V RX8 123 yX0_hasDone cX0_hasDone 3 (some .boolean) 1 := ⟨(gm 548 (by decide +kernel) rfl), (gm 431 (by decide +kernel) rfl), (gm 432 (by decide +kernel) rfl), (gm 5 (by decide +kernel) rfl), cd_X0_hasDone, by decide +kernel, by decide +kernel, by decide +kernel⟩
theorem fp_X9_114 : f_P RX9 114 9 36 (.array .int) true := ⟨RX9, TX9, 37, tyX9, rfl, by decide, inX9, gm 592 (by decide +kernel) rfl, tyX9_ok, nmX9, rfl, (fun _ => rfl), by decide +kernel⟩
theorem fp_X9_111 : f_P RX9 111 9 35 (.array .int) true := ⟨RX9, TX9, 37, tyX9, rfl, by decide, inX9, gm 591 (by decide +kernel) rfl, tyX9_ok, nmX9, rfl, (fun _ => rfl), by decide +kernel⟩
theorem fp_X9_108 : f_P RX9 108 9 34 (.array .int) true := ⟨RX9, TX9, 37, tyX9, rfl, by decide, inX9, gm 590 (by decide +kernel) rfl, tyX9_ok, nmX9, rfl, (fun _ => rfl), by decide +kernel⟩
theorem fp_X9_105 : f_P RX9 105 9 33 (.array .int) true := ⟨RX9, TX9, 37, tyX9, rfl, by decide, inX9, gm 589 (by decide +kernel) rfl, tyX9_ok, nmX9, rfl, (fun _ => rfl), by decide +kernel⟩
theorem fp_X9_102 : f_P RX9 102 9 32 (.array .int) true := ⟨RX9, TX9, 37, tyX9, rfl, by decide, inX9, gm 588 (by decide +kernel) rfl, tyX9_ok, nmX9, rfl, (fun _ => rfl), by decide +kernel⟩
theorem fp_X9_99 : f_P RX9 99 9 31 (.array .int) true := ⟨RX9, TX9, 37, tyX9, rfl, by decide, inX9, gm 587 (by decide +kernel) rfl, tyX9_ok, nmX9, rfl, (fun _ => rfl), by decide +kernel⟩
theorem fp_X9_96 : f_P RX9 96 9 30 (.array .int) true := ⟨RX9, TX9, 37, tyX9, rfl, by decide, inX9, gm 586 (by decide +kernel) rfl, tyX9_ok, nmX9, rfl, (fun _ => rfl), by decide +kernel⟩
theorem fp_X9_93 : f_P RX9 93 9 29 (.array .int) true := ⟨RX9, TX9, 37, tyX9, rfl, by decide, inX9, gm 585 (by decide +kernel) rfl, tyX9_ok, nmX9, rfl, (fun _ => rfl), by decide +kernel⟩
theorem fp_X9_90 : f_P RX9 90 9 28 (.array .boolean) true := ⟨RX9, TX9, 37, tyX9, rfl, by decide, inX9, gm 584 (by decide +kernel) rfl, tyX9_ok, nmX9, rfl, (fun _ => rfl), by decide +kernel⟩
theorem fp_X9_87 : f_P RX9 87 9 27 (.array .int) true := ⟨RX9, TX9, 37, tyX9, rfl, by decide, inX9, gm 583 (by decide +kernel) rfl, tyX9_ok, nmX9, rfl, (fun _ => rfl), by decide +kernel⟩
theorem fp_X9_84 : f_P RX9 84 9 26 (.array .int) true := ⟨RX9, TX9, 37, tyX9, rfl, by decide, inX9, gm 582 (by decide +kernel) rfl, tyX9_ok, nmX9, rfl, (fun _ => rfl), by decide +kernel⟩
theorem fp_X9_81 : f_P RX9 81 9 25 (.array .int) true := ⟨RX9, TX9, 37, tyX9, rfl, by decide, inX9, gm 581 (by decide +kernel) rfl, tyX9_ok, nmX9, rfl, (fun _ => rfl), by decide +kernel⟩
theorem fp_X9_78 : f_P RX9 78 9 24 (.array .int) true := ⟨RX9, TX9, 37, tyX9, rfl, by decide, inX9, gm 580 (by decide +kernel) rfl, tyX9_ok, nmX9, rfl, (fun _ => rfl), by decide +kernel⟩
theorem fp_X9_75 : f_P RX9 75 9 23 (.array .int) true := ⟨RX9, TX9, 37, tyX9, rfl, by decide, inX9, gm 579 (by decide +kernel) rfl, tyX9_ok, nmX9, rfl, (fun _ => rfl), by decide +kernel⟩
theorem fp_X9_72 : f_P RX9 72 9 22 (.array .int) true := ⟨RX9, TX9, 37, tyX9, rfl, by decide, inX9, gm 578 (by decide +kernel) rfl, tyX9_ok, nmX9, rfl, (fun _ => rfl), by decide +kernel⟩
theorem fp_X9_69 : f_P RX9 69 9 21 (.array .int) true := ⟨RX9, TX9, 37, tyX9, rfl, by decide, inX9, gm 577 (by decide +kernel) rfl, tyX9_ok, nmX9, rfl, (fun _ => rfl), by decide +kernel⟩
theorem fp_X9_66 : f_P RX9 66 9 20 (.array .boolean) true := ⟨RX9, TX9, 37, tyX9, rfl, by decide, inX9, gm 576 (by decide +kernel) rfl, tyX9_ok, nmX9, rfl, (fun _ => rfl), by decide +kernel⟩
theorem fp_X9_63 : f_P RX9 63 9 19 (.array .int) true := ⟨RX9, TX9, 37, tyX9, rfl, by decide, inX9, gm 575 (by decide +kernel) rfl, tyX9_ok, nmX9, rfl, (fun _ => rfl), by decide +kernel⟩
theorem fp_X9_59 : f_P RX9 59 9 18 (.array .boolean) true := ⟨RX9, TX9, 37, tyX9, rfl, by decide, inX9, gm 574 (by decide +kernel) rfl, tyX9_ok, nmX9, rfl, (fun _ => rfl), by decide +kernel⟩
theorem fp_X9_56 : f_P RX9 56 9 17 (.array .int) true := ⟨RX9, TX9, 37, tyX9, rfl, by decide, inX9, gm 573 (by decide +kernel) rfl, tyX9_ok, nmX9, rfl, (fun _ => rfl), by decide +kernel⟩
theorem fp_X9_53 : f_P RX9 53 9 15 (.array .int) true := ⟨RX9, TX9, 37, tyX9, rfl, by decide, inX9, gm 571 (by decide +kernel) rfl, tyX9_ok, nmX9, rfl, (fun _ => rfl), by decide +kernel⟩
theorem fp_X9_50 : f_P RX9 50 9 14 (.array .int) true := ⟨RX9, TX9, 37, tyX9, rfl, by decide, inX9, gm 570 (by decide +kernel) rfl, tyX9_ok, nmX9, rfl, (fun _ => rfl), by decide +kernel⟩
theorem fp_X9_47 : f_P RX9 47 9 13 (.array .int) true := ⟨RX9, TX9, 37, tyX9, rfl, by decide, inX9, gm 569 (by decide +kernel) rfl, tyX9_ok, nmX9, rfl, (fun _ => rfl), by decide +kernel⟩
theorem fp_X9_44 : f_P RX9 44 9 12 (.array .int) true := ⟨RX9, TX9, 37, tyX9, rfl, by decide, inX9, gm 568 (by decide +kernel) rfl, tyX9_ok, nmX9, rfl, (fun _ => rfl), by decide +kernel⟩
theorem fp_X9_41 : f_P RX9 41 9 10 (.array .int) true := ⟨RX9, TX9, 37, tyX9, rfl, by decide, inX9, gm 566 (by decide +kernel) rfl, tyX9_ok, nmX9, rfl, (fun _ => rfl), by decide +kernel⟩
theorem fp_X9_38 : f_P RX9 38 9 9 (.array .int) true := ⟨RX9, TX9, 37, tyX9, rfl, by decide, inX9, gm 565 (by decide +kernel) rfl, tyX9_ok, nmX9, rfl, (fun _ => rfl), by decide +kernel⟩
theorem fp_X9_35 : f_P RX9 35 9 8 (.array .int) true := ⟨RX9, TX9, 37, tyX9, rfl, by decide, inX9, gm 564 (by decide +kernel) rfl, tyX9_ok, nmX9, rfl, (fun _ => rfl), by decide +kernel⟩
theorem ck_X9_34 : Cond.constant RX9 34 (51200 : Int32) ∈ G := gm 555 (by decide +kernel) rfl
theorem fp_X9_31 : f_P RX9 31 9 7 (.array .int) true := ⟨RX9, TX9, 37, tyX9, rfl, by decide, inX9, gm 563 (by decide +kernel) rfl, tyX9_ok, nmX9, rfl, (fun _ => rfl), by decide +kernel⟩
theorem fp_X9_28 : f_P RX9 28 9 6 (.array .int) true := ⟨RX9, TX9, 37, tyX9, rfl, by decide, inX9, gm 562 (by decide +kernel) rfl, tyX9_ok, nmX9, rfl, (fun _ => rfl), by decide +kernel⟩
theorem fp_X9_25 : f_P RX9 25 9 5 (.array .int) true := ⟨RX9, TX9, 37, tyX9, rfl, by decide, inX9, gm 561 (by decide +kernel) rfl, tyX9_ok, nmX9, rfl, (fun _ => rfl), by decide +kernel⟩
theorem fp_X9_22 : f_P RX9 22 9 4 (.array .int) true := ⟨RX9, TX9, 37, tyX9, rfl, by decide, inX9, gm 560 (by decide +kernel) rfl, tyX9_ok, nmX9, rfl, (fun _ => rfl), by decide +kernel⟩
theorem fp_X9_19 : f_P RX9 19 9 3 (.array .int) true := ⟨RX9, TX9, 37, tyX9, rfl, by decide, inX9, gm 559 (by decide +kernel) rfl, tyX9_ok, nmX9, rfl, (fun _ => rfl), by decide +kernel⟩
theorem fp_X9_16 : f_P RX9 16 9 2 (.array .int) true := ⟨RX9, TX9, 37, tyX9, rfl, by decide, inX9, gm 558 (by decide +kernel) rfl, tyX9_ok, nmX9, rfl, (fun _ => rfl), by decide +kernel⟩
theorem fp_X9_13 : f_P RX9 13 9 1 (.array .int) true := ⟨RX9, TX9, 37, tyX9, rfl, by decide, inX9, gm 557 (by decide +kernel) rfl, tyX9_ok, nmX9, rfl, (fun _ => rfl), by decide +kernel⟩
theorem fp_X9_7 : f_P RX9 7 9 0 (.array .int) true := ⟨RX9, TX9, 37, tyX9, rfl, by decide, inX9, gm 556 (by decide +kernel) rfl, tyX9_ok, nmX9, rfl, (fun _ => rfl), by decide +kernel⟩
theorem cj_X9_1 : Cond.methodLink RX9 1 objectInit ∈ G := gm 554 (by decide +kernel) rfl
theorem fa_X9_117 : f_A RX9 117 9 11 := ⟨RX9, TX9, 37, rfl, by decide, inX9, gm 567 (by decide +kernel) rfl⟩
theorem fa_X9_41 : f_A RX9 41 9 10 := ⟨RX9, TX9, 37, rfl, by decide, inX9, gm 566 (by decide +kernel) rfl⟩
theorem fp_X9_117 : f_P RX9 117 9 11 .int false := ⟨RX9, TX9, 37, tyX9, rfl, by decide, inX9, gm 567 (by decide +kernel) rfl, tyX9_ok, nmX9, rfl, (fun h => by cases h), by decide +kernel⟩
theorem fa_X9_22 : f_A RX9 22 9 4 := ⟨RX9, TX9, 37, rfl, by decide, inX9, gm 560 (by decide +kernel) rfl⟩
theorem fa_X9_19 : f_A RX9 19 9 3 := ⟨RX9, TX9, 37, rfl, by decide, inX9, gm 559 (by decide +kernel) rfl⟩
theorem fa_X9_7 : f_A RX9 7 9 0 := ⟨RX9, TX9, 37, rfl, by decide, inX9, gm 556 (by decide +kernel) rfl⟩
theorem fa_X9_16 : f_A RX9 16 9 2 := ⟨RX9, TX9, 37, rfl, by decide, inX9, gm 558 (by decide +kernel) rfl⟩
set_option maxRecDepth 100000 in
theorem cd_X9_isSite : Cond.code yX9_isSite cX9_isSite 1 (some .boolean) ∈ G := gm 679 rfl rfl
theorem cf_X9_121 : c_S RX9 121 yX9_isSite cX9_isSite 1 (some .boolean) 1 := ⟨(gm 677 (by decide +kernel) rfl), (gm 678 (by decide +kernel) rfl), (gm 9 (by decide +kernel) rfl), cd_X9_isSite, by decide +kernel, by decide +kernel, by decide +kernel⟩
theorem fa_X9_13 : f_A RX9 13 9 1 := ⟨RX9, TX9, 37, rfl, by decide, inX9, gm 557 (by decide +kernel) rfl⟩
theorem fa_X9_25 : f_A RX9 25 9 5 := ⟨RX9, TX9, 37, rfl, by decide, inX9, gm 561 (by decide +kernel) rfl⟩
theorem fa_X9_28 : f_A RX9 28 9 6 := ⟨RX9, TX9, 37, rfl, by decide, inX9, gm 562 (by decide +kernel) rfl⟩
theorem ck_X9_125 : Cond.constant RX9 125 (65535 : Int32) ∈ G := gm 697 (by decide +kernel) rfl
set_option maxRecDepth 100000 in
theorem cd_X9_left : Cond.code yX9_left cX9_left 1 (some .int) ∈ G := gm 704 rfl rfl
theorem cf_X9_126 : c_S RX9 126 yX9_left cX9_left 1 (some .int) 1 := ⟨(gm 702 (by decide +kernel) rfl), (gm 703 (by decide +kernel) rfl), (gm 9 (by decide +kernel) rfl), cd_X9_left, by decide +kernel, by decide +kernel, by decide +kernel⟩
theorem fa_X9_53 : f_A RX9 53 9 15 := ⟨RX9, TX9, 37, rfl, by decide, inX9, gm 571 (by decide +kernel) rfl⟩
theorem fp_X9_134 : f_P RX9 134 9 16 .int false := ⟨RX9, TX9, 37, tyX9, rfl, by decide, inX9, gm 572 (by decide +kernel) rfl, tyX9_ok, nmX9, rfl, (fun h => by cases h), by decide +kernel⟩
theorem ck_X9_130 : Cond.constant RX9 130 (43690 : Int32) ∈ G := gm 696 (by decide +kernel) rfl
set_option maxRecDepth 100000 in
theorem cd_X9_sum : Cond.code yX9_sum cX9_sum 6 (some .int) ∈ G := gm 701 rfl rfl
theorem cf_X9_131 : c_V RX9 131 yX9_sum cX9_sum 6 (some .int) 1 := ⟨(gm 698 (by decide +kernel) rfl), (gm 700 (by decide +kernel) rfl), (gs 24 (by decide +kernel) rfl), (gm 9 (by decide +kernel) rfl), cd_X9_sum, by decide +kernel, by decide +kernel, by decide +kernel⟩
theorem fa_X9_44 : f_A RX9 44 9 12 := ⟨RX9, TX9, 37, rfl, by decide, inX9, gm 568 (by decide +kernel) rfl⟩
theorem fa_X9_47 : f_A RX9 47 9 13 := ⟨RX9, TX9, 37, rfl, by decide, inX9, gm 569 (by decide +kernel) rfl⟩
theorem fa_X9_134 : f_A RX9 134 9 16 := ⟨RX9, TX9, 37, rfl, by decide, inX9, gm 572 (by decide +kernel) rfl⟩
theorem fa_X9_50 : f_A RX9 50 9 14 := ⟨RX9, TX9, 37, rfl, by decide, inX9, gm 570 (by decide +kernel) rfl⟩
set_option maxRecDepth 100000 in
theorem cd_X9_head : Cond.code yX9_head cX9_head 4 (none) ∈ G := gm 695 rfl rfl
theorem cf_X9_137 : c_V RX9 137 yX9_head cX9_head 4 (none) 2 := ⟨(gm 692 (by decide +kernel) rfl), (gm 694 (by decide +kernel) rfl), (gs 23 (by decide +kernel) rfl), (gm 9 (by decide +kernel) rfl), cd_X9_head, by decide +kernel, by decide +kernel, by decide +kernel⟩
set_option maxRecDepth 100000 in
theorem cd_X9_lay : Cond.code yX9_lay cX9_lay 4 (none) ∈ G := gm 708 rfl rfl
theorem cf_X9_141 : c_V RX9 141 yX9_lay cX9_lay 4 (none) 1 := ⟨(gm 705 (by decide +kernel) rfl), (gm 707 (by decide +kernel) rfl), (gs 25 (by decide +kernel) rfl), (gm 9 (by decide +kernel) rfl), cd_X9_lay, by decide +kernel, by decide +kernel, by decide +kernel⟩
theorem fa_X9_78 : f_A RX9 78 9 24 := ⟨RX9, TX9, 37, rfl, by decide, inX9, gm 580 (by decide +kernel) rfl⟩
theorem fa_X9_69 : f_A RX9 69 9 21 := ⟨RX9, TX9, 37, rfl, by decide, inX9, gm 577 (by decide +kernel) rfl⟩
theorem fa_X9_81 : f_A RX9 81 9 25 := ⟨RX9, TX9, 37, rfl, by decide, inX9, gm 581 (by decide +kernel) rfl⟩
theorem fa_X9_56 : f_A RX9 56 9 17 := ⟨RX9, TX9, 37, rfl, by decide, inX9, gm 573 (by decide +kernel) rfl⟩
theorem fa_X9_59 : f_A RX9 59 9 18 := ⟨RX9, TX9, 37, rfl, by decide, inX9, gm 574 (by decide +kernel) rfl⟩
theorem fa_X9_66 : f_A RX9 66 9 20 := ⟨RX9, TX9, 37, rfl, by decide, inX9, gm 576 (by decide +kernel) rfl⟩
theorem fa_X9_72 : f_A RX9 72 9 22 := ⟨RX9, TX9, 37, rfl, by decide, inX9, gm 578 (by decide +kernel) rfl⟩
theorem fa_X9_75 : f_A RX9 75 9 23 := ⟨RX9, TX9, 37, rfl, by decide, inX9, gm 579 (by decide +kernel) rfl⟩
theorem fa_X9_84 : f_A RX9 84 9 26 := ⟨RX9, TX9, 37, rfl, by decide, inX9, gm 582 (by decide +kernel) rfl⟩
theorem fa_X9_90 : f_A RX9 90 9 28 := ⟨RX9, TX9, 37, rfl, by decide, inX9, gm 584 (by decide +kernel) rfl⟩
theorem fa_X9_105 : f_A RX9 105 9 33 := ⟨RX9, TX9, 37, rfl, by decide, inX9, gm 589 (by decide +kernel) rfl⟩
theorem fa_X9_108 : f_A RX9 108 9 34 := ⟨RX9, TX9, 37, rfl, by decide, inX9, gm 590 (by decide +kernel) rfl⟩
set_option maxRecDepth 100000 in
theorem cd_X9_data : Cond.code yX9_data cX9_data 4 (none) ∈ G := gm 748 rfl rfl
theorem cf_X9_145 : c_V RX9 145 yX9_data cX9_data 4 (none) 2 := ⟨(gm 745 (by decide +kernel) rfl), (gm 747 (by decide +kernel) rfl), (gs 34 (by decide +kernel) rfl), (gm 9 (by decide +kernel) rfl), cd_X9_data, by decide +kernel, by decide +kernel, by decide +kernel⟩
theorem fa_X9_87 : f_A RX9 87 9 27 := ⟨RX9, TX9, 37, rfl, by decide, inX9, gm 583 (by decide +kernel) rfl⟩
theorem fa_X9_111 : f_A RX9 111 9 35 := ⟨RX9, TX9, 37, rfl, by decide, inX9, gm 591 (by decide +kernel) rfl⟩
set_option maxRecDepth 100000 in
theorem cd_X9_flow : Cond.code yX9_flow cX9_flow 3 (none) ∈ G := gm 744 rfl rfl
theorem cf_X9_148 : c_V RX9 148 yX9_flow cX9_flow 3 (none) 1 := ⟨(gm 741 (by decide +kernel) rfl), (gm 743 (by decide +kernel) rfl), (gs 33 (by decide +kernel) rfl), (gm 9 (by decide +kernel) rfl), cd_X9_flow, by decide +kernel, by decide +kernel, by decide +kernel⟩
set_option maxRecDepth 100000 in
theorem cd_X9_begin : Cond.code yX9_begin cX9_begin 3 (none) ∈ G := gm 736 rfl rfl
theorem cf_X9_151 : c_V RX9 151 yX9_begin cX9_begin 3 (none) 1 := ⟨(gm 733 (by decide +kernel) rfl), (gm 735 (by decide +kernel) rfl), (gs 31 (by decide +kernel) rfl), (gm 9 (by decide +kernel) rfl), cd_X9_begin, by decide +kernel, by decide +kernel, by decide +kernel⟩
set_option maxRecDepth 100000 in
theorem cd_X9_send : Cond.code yX9_send cX9_send 3 (none) ∈ G := gm 740 rfl rfl
theorem cf_X9_154 : c_V RX9 154 yX9_send cX9_send 3 (none) 1 := ⟨(gm 737 (by decide +kernel) rfl), (gm 739 (by decide +kernel) rfl), (gs 32 (by decide +kernel) rfl), (gm 9 (by decide +kernel) rfl), cd_X9_send, by decide +kernel, by decide +kernel, by decide +kernel⟩
set_option maxRecDepth 100000 in
theorem cd_X9_more : Cond.code yX9_more cX9_more 2 (none) ∈ G := gm 752 rfl rfl
theorem cf_X9_160 : c_V RX9 160 yX9_more cX9_more 2 (none) 1 := ⟨(gm 749 (by decide +kernel) rfl), (gm 751 (by decide +kernel) rfl), (gs 35 (by decide +kernel) rfl), (gm 9 (by decide +kernel) rfl), cd_X9_more, by decide +kernel, by decide +kernel, by decide +kernel⟩
set_option maxRecDepth 100000 in
theorem cd_X9_say : Cond.code yX9_say cX9_say 3 (none) ∈ G := gm 732 rfl rfl
theorem cf_X9_157 : c_V RX9 157 yX9_say cX9_say 3 (none) 2 := ⟨(gm 729 (by decide +kernel) rfl), (gm 731 (by decide +kernel) rfl), (gs 30 (by decide +kernel) rfl), (gm 9 (by decide +kernel) rfl), cd_X9_say, by decide +kernel, by decide +kernel, by decide +kernel⟩
theorem fa_X9_96 : f_A RX9 96 9 30 := ⟨RX9, TX9, 37, rfl, by decide, inX9, gm 586 (by decide +kernel) rfl⟩
theorem fa_X9_35 : f_A RX9 35 9 8 := ⟨RX9, TX9, 37, rfl, by decide, inX9, gm 564 (by decide +kernel) rfl⟩
theorem fa_X9_102 : f_A RX9 102 9 32 := ⟨RX9, TX9, 37, rfl, by decide, inX9, gm 588 (by decide +kernel) rfl⟩
theorem fa_X9_93 : f_A RX9 93 9 29 := ⟨RX9, TX9, 37, rfl, by decide, inX9, gm 585 (by decide +kernel) rfl⟩
theorem fa_X9_31 : f_A RX9 31 9 7 := ⟨RX9, TX9, 37, rfl, by decide, inX9, gm 563 (by decide +kernel) rfl⟩
set_option maxRecDepth 100000 in
theorem cd_X9_isExecuted : Cond.code yX9_isExecuted cX9_isExecuted 5 (some .boolean) ∈ G := gm 780 rfl rfl
theorem cf_X9_185 : c_V RX9 185 yX9_isExecuted cX9_isExecuted 5 (some .boolean) 2 := ⟨(gm 777 (by decide +kernel) rfl), (gm 779 (by decide +kernel) rfl), (gs 42 (by decide +kernel) rfl), (gm 9 (by decide +kernel) rfl), cd_X9_isExecuted, by decide +kernel, by decide +kernel, by decide +kernel⟩
theorem fa_X9_99 : f_A RX9 99 9 31 := ⟨RX9, TX9, 37, rfl, by decide, inX9, gm 587 (by decide +kernel) rfl⟩
set_option maxRecDepth 100000 in
theorem cd_X9_execute : Cond.code yX9_execute cX9_execute 4 (none) ∈ G := gm 784 rfl rfl
theorem cf_X9_182 : c_V RX9 182 yX9_execute cX9_execute 4 (none) 1 := ⟨(gm 781 (by decide +kernel) rfl), (gm 783 (by decide +kernel) rfl), (gs 43 (by decide +kernel) rfl), (gm 9 (by decide +kernel) rfl), cd_X9_execute, by decide +kernel, by decide +kernel, by decide +kernel⟩
set_option maxRecDepth 100000 in
theorem cd_X9_leave : Cond.code yX9_leave cX9_leave 3 (none) ∈ G := gm 768 rfl rfl
theorem cf_X9_163 : c_V RX9 163 yX9_leave cX9_leave 3 (none) 1 := ⟨(gm 765 (by decide +kernel) rfl), (gm 767 (by decide +kernel) rfl), (gs 39 (by decide +kernel) rfl), (gm 9 (by decide +kernel) rfl), cd_X9_leave, by decide +kernel, by decide +kernel, by decide +kernel⟩
set_option maxRecDepth 100000 in
theorem cd_X9_goOn : Cond.code yX9_goOn cX9_goOn 3 (none) ∈ G := gm 728 rfl rfl
theorem cf_X9_166 : c_V RX9 166 yX9_goOn cX9_goOn 3 (none) 1 := ⟨(gm 725 (by decide +kernel) rfl), (gm 727 (by decide +kernel) rfl), (gs 29 (by decide +kernel) rfl), (gm 9 (by decide +kernel) rfl), cd_X9_goOn, by decide +kernel, by decide +kernel, by decide +kernel⟩
set_option maxRecDepth 100000 in
theorem cd_X9_control : Cond.code yX9_control cX9_control 4 (none) ∈ G := gm 691 rfl rfl
theorem cf_X9_172 : c_V RX9 172 yX9_control cX9_control 4 (none) 3 := ⟨(gm 688 (by decide +kernel) rfl), (gm 690 (by decide +kernel) rfl), (gs 22 (by decide +kernel) rfl), (gm 9 (by decide +kernel) rfl), cd_X9_control, by decide +kernel, by decide +kernel, by decide +kernel⟩
set_option maxRecDepth 100000 in
theorem cd_X9_forget : Cond.code yX9_forget cX9_forget 3 (none) ∈ G := gm 687 rfl rfl
theorem cf_X9_176 : c_V RX9 176 yX9_forget cX9_forget 3 (none) 2 := ⟨(gm 684 (by decide +kernel) rfl), (gm 686 (by decide +kernel) rfl), (gs 21 (by decide +kernel) rfl), (gm 9 (by decide +kernel) rfl), cd_X9_forget, by decide +kernel, by decide +kernel, by decide +kernel⟩
set_option maxRecDepth 100000 in
theorem cd_X9_sendFile : Cond.code yX9_sendFile cX9_sendFile 6 (none) ∈ G := gm 772 rfl rfl
theorem cf_X9_169 : c_V RX9 169 yX9_sendFile cX9_sendFile 6 (none) 1 := ⟨(gm 769 (by decide +kernel) rfl), (gm 771 (by decide +kernel) rfl), (gs 40 (by decide +kernel) rfl), (gm 9 (by decide +kernel) rfl), cd_X9_sendFile, by decide +kernel, by decide +kernel, by decide +kernel⟩
set_option maxRecDepth 100000 in
theorem cd_X9_offered : Cond.code yX9_offered cX9_offered 4 (none) ∈ G := gm 776 rfl rfl
theorem cf_X9_179 : c_V RX9 179 yX9_offered cX9_offered 4 (none) 3 := ⟨(gm 773 (by decide +kernel) rfl), (gm 775 (by decide +kernel) rfl), (gs 41 (by decide +kernel) rfl), (gm 9 (by decide +kernel) rfl), cd_X9_offered, by decide +kernel, by decide +kernel, by decide +kernel⟩
theorem fa_X9_63 : f_A RX9 63 9 19 := ⟨RX9, TX9, 37, rfl, by decide, inX9, gm 575 (by decide +kernel) rfl⟩
set_option maxRecDepth 100000 in
theorem cd_X9_done : Cond.code yX9_done cX9_done 5 (none) ∈ G := gm 764 rfl rfl
theorem cf_X9_195 : c_V RX9 195 yX9_done cX9_done 5 (none) 1 := ⟨(gm 761 (by decide +kernel) rfl), (gm 763 (by decide +kernel) rfl), (gs 38 (by decide +kernel) rfl), (gm 9 (by decide +kernel) rfl), cd_X9_done, by decide +kernel, by decide +kernel, by decide +kernel⟩
theorem fa_X9_114 : f_A RX9 114 9 36 := ⟨RX9, TX9, 37, rfl, by decide, inX9, gm 592 (by decide +kernel) rfl⟩
set_option maxRecDepth 100000 in
theorem cd_X9_acknowledge : Cond.code yX9_acknowledge cX9_acknowledge 7 (none) ∈ G := gm 756 rfl rfl
theorem cf_X9_189 : c_V RX9 189 yX9_acknowledge cX9_acknowledge 7 (none) 2 := ⟨(gm 753 (by decide +kernel) rfl), (gm 755 (by decide +kernel) rfl), (gs 36 (by decide +kernel) rfl), (gm 9 (by decide +kernel) rfl), cd_X9_acknowledge, by decide +kernel, by decide +kernel, by decide +kernel⟩
set_option maxRecDepth 100000 in
theorem cd_X9_sendAgain : Cond.code yX9_sendAgain cX9_sendAgain 3 (none) ∈ G := gm 760 rfl rfl
theorem cf_X9_192 : c_V RX9 192 yX9_sendAgain cX9_sendAgain 3 (none) 1 := ⟨(gm 757 (by decide +kernel) rfl), (gm 759 (by decide +kernel) rfl), (gs 37 (by decide +kernel) rfl), (gm 9 (by decide +kernel) rfl), cd_X9_sendAgain, by decide +kernel, by decide +kernel, by decide +kernel⟩
theorem fa_X9_38 : f_A RX9 38 9 9 := ⟨RX9, TX9, 37, rfl, by decide, inX9, gm 565 (by decide +kernel) rfl⟩
set_option maxRecDepth 100000 in
theorem cd_X9_come : Cond.code yX9_come cX9_come 7 (none) ∈ G := gm 724 rfl rfl
theorem cf_X9_205 : c_V RX9 205 yX9_come cX9_come 7 (none) 1 := ⟨(gm 721 (by decide +kernel) rfl), (gm 723 (by decide +kernel) rfl), (gs 28 (by decide +kernel) rfl), (gm 9 (by decide +kernel) rfl), cd_X9_come, by decide +kernel, by decide +kernel, by decide +kernel⟩
set_option maxRecDepth 100000 in
theorem cd_X9_takeFirst : Cond.code yX9_takeFirst cX9_takeFirst 4 (none) ∈ G := gm 716 rfl rfl
theorem cf_X9_198 : c_V RX9 198 yX9_takeFirst cX9_takeFirst 4 (none) 1 := ⟨(gm 713 (by decide +kernel) rfl), (gm 715 (by decide +kernel) rfl), (gs 26 (by decide +kernel) rfl), (gm 9 (by decide +kernel) rfl), cd_X9_takeFirst, by decide +kernel, by decide +kernel, by decide +kernel⟩
set_option maxRecDepth 100000 in
theorem cd_X9_isGood : Cond.code yX9_isGood cX9_isGood 8 (some .boolean) ∈ G := gm 720 rfl rfl
theorem cf_X9_201 : c_V RX9 201 yX9_isGood cX9_isGood 8 (some .boolean) 0 := ⟨(gm 717 (by decide +kernel) rfl), (gm 719 (by decide +kernel) rfl), (gs 27 (by decide +kernel) rfl), (gm 9 (by decide +kernel) rfl), cd_X9_isGood, by decide +kernel, by decide +kernel, by decide +kernel⟩
set_option maxRecDepth 100000 in
theorem cd_X9_tickOf : Cond.code yX9_tickOf cX9_tickOf 2 (some .int) ∈ G := gm 800 rfl rfl
theorem cf_X9_208 : c_V RX9 208 yX9_tickOf cX9_tickOf 2 (some .int) 1 := ⟨(gm 797 (by decide +kernel) rfl), (gm 799 (by decide +kernel) rfl), (gs 44 (by decide +kernel) rfl), (gm 9 (by decide +kernel) rfl), cd_X9_tickOf, by decide +kernel, by decide +kernel, by decide +kernel⟩
set_option maxRecDepth 100000 in
theorem cd_X9_deliver : Cond.code yX9_deliver cX9_deliver 3 (some .int) ∈ G := gm 712 rfl rfl
theorem cf_X9_211 : c_V RX9 211 yX9_deliver cX9_deliver 3 (some .int) 1 := ⟨(gm 809 (by decide +kernel) rfl), (gm 710 (by decide +kernel) rfl), (gm 711 (by decide +kernel) rfl), (gm 9 (by decide +kernel) rfl), cd_X9_deliver, by decide +kernel, by decide +kernel, by decide +kernel⟩
set_option maxRecDepth 100000 in
theorem cd_X9_executed : Cond.code yX9_executed cX9_executed 3 (some .int) ∈ G := gm 829 rfl rfl
theorem cf_X9_214 : c_V RX9 214 yX9_executed cX9_executed 3 (some .int) 2 := ⟨(gm 834 (by decide +kernel) rfl), (gm 827 (by decide +kernel) rfl), (gm 828 (by decide +kernel) rfl), (gm 9 (by decide +kernel) rfl), cd_X9_executed, by decide +kernel, by decide +kernel, by decide +kernel⟩
set_option maxRecDepth 100000 in
theorem cd_X9_queue : Cond.code yX9_queue cX9_queue 4 (some .int) ∈ G := gm 676 rfl rfl
theorem cf_L_21 : c_V RL 21 yX9_queue cX9_queue 4 (some .int) 1 := ⟨(gm 673 (by decide +kernel) rfl), (gm 674 (by decide +kernel) rfl), (gm 675 (by decide +kernel) rfl), (gm 9 (by decide +kernel) rfl), cd_X9_queue, by decide +kernel, by decide +kernel, by decide +kernel⟩
theorem cf_L_30 : c_V RL 30 yX9_deliver cX9_deliver 3 (some .int) 1 := ⟨(gm 709 (by decide +kernel) rfl), (gm 710 (by decide +kernel) rfl), (gm 711 (by decide +kernel) rfl), (gm 9 (by decide +kernel) rfl), cd_X9_deliver, by decide +kernel, by decide +kernel, by decide +kernel⟩
set_option maxRecDepth 100000 in
theorem cd_X9_settle : Cond.code yX9_settle cX9_settle 5 (some .int) ∈ G := gm 808 rfl rfl
theorem cf_L_52 : c_V RL 52 yX9_settle cX9_settle 5 (some .int) 1 := ⟨(gm 805 (by decide +kernel) rfl), (gm 806 (by decide +kernel) rfl), (gm 807 (by decide +kernel) rfl), (gm 9 (by decide +kernel) rfl), cd_X9_settle, by decide +kernel, by decide +kernel, by decide +kernel⟩
set_option maxRecDepth 100000 in
theorem cd_X8_put : Cond.code yX8_put cX8_put 2 (some .int) ∈ G := gm 223 rfl rfl
theorem cf_L_13 : c_V RL 13 yX8_put cX8_put 2 (some .int) 1 := ⟨(gm 220 (by decide +kernel) rfl), (gm 221 (by decide +kernel) rfl), (gm 222 (by decide +kernel) rfl), (gm 1 (by decide +kernel) rfl), cd_X8_put, by decide +kernel, by decide +kernel, by decide +kernel⟩
set_option maxRecDepth 100000 in
theorem cd_X9_put : Cond.code yX9_put cX9_put 2 (some .int) ∈ G := gm 672 rfl rfl
theorem cf_L_17 : c_V RL 17 yX9_put cX9_put 2 (some .int) 1 := ⟨(gm 669 (by decide +kernel) rfl), (gm 670 (by decide +kernel) rfl), (gm 671 (by decide +kernel) rfl), (gm 9 (by decide +kernel) rfl), cd_X9_put, by decide +kernel, by decide +kernel, by decide +kernel⟩
set_option maxRecDepth 100000 in
theorem cd_X8_queue : Cond.code yX8_queue cX8_queue 3 (some .int) ∈ G := gm 227 rfl rfl
theorem cf_L_18 : c_V RL 18 yX8_queue cX8_queue 3 (some .int) 1 := ⟨(gm 224 (by decide +kernel) rfl), (gm 225 (by decide +kernel) rfl), (gm 226 (by decide +kernel) rfl), (gm 1 (by decide +kernel) rfl), cd_X8_queue, by decide +kernel, by decide +kernel, by decide +kernel⟩
set_option maxRecDepth 100000 in
theorem cd_X8_call : Cond.code yX8_call cX8_call 2 (some .boolean) ∈ G := gm 258 rfl rfl
theorem cf_L_22 : c_V RL 22 yX8_call cX8_call 2 (some .boolean) 1 := ⟨(gm 255 (by decide +kernel) rfl), (gm 256 (by decide +kernel) rfl), (gm 257 (by decide +kernel) rfl), (gm 1 (by decide +kernel) rfl), cd_X8_call, by decide +kernel, by decide +kernel, by decide +kernel⟩
set_option maxRecDepth 100000 in
theorem cd_X9_call : Cond.code yX9_call cX9_call 2 (some .boolean) ∈ G := gm 683 rfl rfl
theorem cf_L_26 : c_V RL 26 yX9_call cX9_call 2 (some .boolean) 1 := ⟨(gm 680 (by decide +kernel) rfl), (gm 681 (by decide +kernel) rfl), (gm 682 (by decide +kernel) rfl), (gm 9 (by decide +kernel) rfl), cd_X9_call, by decide +kernel, by decide +kernel, by decide +kernel⟩
set_option maxRecDepth 100000 in
theorem cd_X8_deliver : Cond.code yX8_deliver cX8_deliver 2 (some .int) ∈ G := gm 295 rfl rfl
theorem cf_L_27 : c_V RL 27 yX8_deliver cX8_deliver 2 (some .int) 1 := ⟨(gm 292 (by decide +kernel) rfl), (gm 293 (by decide +kernel) rfl), (gm 294 (by decide +kernel) rfl), (gm 1 (by decide +kernel) rfl), cd_X8_deliver, by decide +kernel, by decide +kernel, by decide +kernel⟩
set_option maxRecDepth 100000 in
theorem cd_X8_lose : Cond.code yX8_lose cX8_lose 2 (some .boolean) ∈ G := gm 481 rfl rfl
theorem cf_L_31 : c_V RL 31 yX8_lose cX8_lose 2 (some .boolean) 1 := ⟨(gm 478 (by decide +kernel) rfl), (gm 479 (by decide +kernel) rfl), (gm 480 (by decide +kernel) rfl), (gm 1 (by decide +kernel) rfl), cd_X8_lose, by decide +kernel, by decide +kernel, by decide +kernel⟩
set_option maxRecDepth 100000 in
theorem cd_X9_lose : Cond.code yX9_lose cX9_lose 2 (some .boolean) ∈ G := gm 788 rfl rfl
theorem cf_L_34 : c_V RL 34 yX9_lose cX9_lose 2 (some .boolean) 1 := ⟨(gm 785 (by decide +kernel) rfl), (gm 786 (by decide +kernel) rfl), (gm 787 (by decide +kernel) rfl), (gm 9 (by decide +kernel) rfl), cd_X9_lose, by decide +kernel, by decide +kernel, by decide +kernel⟩
set_option maxRecDepth 100000 in
theorem cd_X8_alter : Cond.code yX8_alter cX8_alter 5 (some .boolean) ∈ G := gm 489 rfl rfl
theorem cf_L_35 : c_V RL 35 yX8_alter cX8_alter 5 (some .boolean) 3 := ⟨(gm 486 (by decide +kernel) rfl), (gm 487 (by decide +kernel) rfl), (gm 488 (by decide +kernel) rfl), (gm 1 (by decide +kernel) rfl), cd_X8_alter, by decide +kernel, by decide +kernel, by decide +kernel⟩
set_option maxRecDepth 100000 in
theorem cd_X9_alter : Cond.code yX9_alter cX9_alter 4 (some .boolean) ∈ G := gm 792 rfl rfl
theorem cf_L_39 : c_V RL 39 yX9_alter cX9_alter 4 (some .boolean) 3 := ⟨(gm 789 (by decide +kernel) rfl), (gm 790 (by decide +kernel) rfl), (gm 791 (by decide +kernel) rfl), (gm 9 (by decide +kernel) rfl), cd_X9_alter, by decide +kernel, by decide +kernel, by decide +kernel⟩
set_option maxRecDepth 100000 in
theorem cd_X8_tick : Cond.code yX8_tick cX8_tick 3 (some .int) ∈ G := gm 493 rfl rfl
theorem cf_L_40 : c_V RL 40 yX8_tick cX8_tick 3 (some .int) 0 := ⟨(gm 490 (by decide +kernel) rfl), (gm 491 (by decide +kernel) rfl), (gm 492 (by decide +kernel) rfl), (gm 1 (by decide +kernel) rfl), cd_X8_tick, by decide +kernel, by decide +kernel, by decide +kernel⟩
set_option maxRecDepth 100000 in
theorem cd_X9_tick : Cond.code yX9_tick cX9_tick 2 (some .int) ∈ G := gm 796 rfl rfl
theorem cf_L_44 : c_V RL 44 yX9_tick cX9_tick 2 (some .int) 0 := ⟨(gm 793 (by decide +kernel) rfl), (gm 794 (by decide +kernel) rfl), (gm 795 (by decide +kernel) rfl), (gm 9 (by decide +kernel) rfl), cd_X9_tick, by decide +kernel, by decide +kernel, by decide +kernel⟩
set_option maxRecDepth 100000 in
theorem cd_X8_crash : Cond.code yX8_crash cX8_crash 2 (some .boolean) ∈ G := gm 505 rfl rfl
theorem cf_L_45 : c_V RL 45 yX8_crash cX8_crash 2 (some .boolean) 1 := ⟨(gm 502 (by decide +kernel) rfl), (gm 503 (by decide +kernel) rfl), (gm 504 (by decide +kernel) rfl), (gm 1 (by decide +kernel) rfl), cd_X8_crash, by decide +kernel, by decide +kernel, by decide +kernel⟩
set_option maxRecDepth 100000 in
theorem cd_X9_crash : Cond.code yX9_crash cX9_crash 2 (some .boolean) ∈ G := gm 804 rfl rfl
theorem cf_L_48 : c_V RL 48 yX9_crash cX9_crash 2 (some .boolean) 1 := ⟨(gm 801 (by decide +kernel) rfl), (gm 802 (by decide +kernel) rfl), (gm 803 (by decide +kernel) rfl), (gm 9 (by decide +kernel) rfl), cd_X9_crash, by decide +kernel, by decide +kernel, by decide +kernel⟩
set_option maxRecDepth 100000 in
theorem cd_X8_settle : Cond.code yX8_settle cX8_settle 5 (some .int) ∈ G := gm 510 rfl rfl
theorem cf_L_49 : c_V RL 49 yX8_settle cX8_settle 5 (some .int) 1 := ⟨(gm 507 (by decide +kernel) rfl), (gm 508 (by decide +kernel) rfl), (gm 509 (by decide +kernel) rfl), (gm 1 (by decide +kernel) rfl), cd_X8_settle, by decide +kernel, by decide +kernel, by decide +kernel⟩
set_option maxRecDepth 100000 in
theorem cd_X8_waiting : Cond.code yX8_waiting cX8_waiting 2 (some .int) ∈ G := gm 514 rfl rfl
theorem cf_L_53 : c_V RL 53 yX8_waiting cX8_waiting 2 (some .int) 1 := ⟨(gm 511 (by decide +kernel) rfl), (gm 512 (by decide +kernel) rfl), (gm 513 (by decide +kernel) rfl), (gm 1 (by decide +kernel) rfl), cd_X8_waiting, by decide +kernel, by decide +kernel, by decide +kernel⟩
set_option maxRecDepth 100000 in
theorem cd_X9_waiting : Cond.code yX9_waiting cX9_waiting 2 (some .int) ∈ G := gm 813 rfl rfl
theorem cf_L_56 : c_V RL 56 yX9_waiting cX9_waiting 2 (some .int) 1 := ⟨(gm 810 (by decide +kernel) rfl), (gm 811 (by decide +kernel) rfl), (gm 812 (by decide +kernel) rfl), (gm 9 (by decide +kernel) rfl), cd_X9_waiting, by decide +kernel, by decide +kernel, by decide +kernel⟩
set_option maxRecDepth 100000 in
theorem cd_X8_look : Cond.code yX8_look cX8_look 5 (some .int) ∈ G := gm 518 rfl rfl
theorem cf_L_57 : c_V RL 57 yX8_look cX8_look 5 (some .int) 3 := ⟨(gm 515 (by decide +kernel) rfl), (gm 516 (by decide +kernel) rfl), (gm 517 (by decide +kernel) rfl), (gm 1 (by decide +kernel) rfl), cd_X8_look, by decide +kernel, by decide +kernel, by decide +kernel⟩
set_option maxRecDepth 100000 in
theorem cd_X9_look : Cond.code yX9_look cX9_look 4 (some .int) ∈ G := gm 817 rfl rfl
theorem cf_L_61 : c_V RL 61 yX9_look cX9_look 4 (some .int) 3 := ⟨(gm 814 (by decide +kernel) rfl), (gm 815 (by decide +kernel) rfl), (gm 816 (by decide +kernel) rfl), (gm 9 (by decide +kernel) rfl), cd_X9_look, by decide +kernel, by decide +kernel, by decide +kernel⟩
set_option maxRecDepth 100000 in
theorem cd_X8_told : Cond.code yX8_told cX8_told 4 (some .int) ∈ G := gm 522 rfl rfl
theorem cf_L_62 : c_V RL 62 yX8_told cX8_told 4 (some .int) 2 := ⟨(gm 519 (by decide +kernel) rfl), (gm 520 (by decide +kernel) rfl), (gm 521 (by decide +kernel) rfl), (gm 1 (by decide +kernel) rfl), cd_X8_told, by decide +kernel, by decide +kernel, by decide +kernel⟩
set_option maxRecDepth 100000 in
theorem cd_X9_told : Cond.code yX9_told cX9_told 3 (some .int) ∈ G := gm 821 rfl rfl
theorem cf_L_66 : c_V RL 66 yX9_told cX9_told 3 (some .int) 2 := ⟨(gm 818 (by decide +kernel) rfl), (gm 819 (by decide +kernel) rfl), (gm 820 (by decide +kernel) rfl), (gm 9 (by decide +kernel) rfl), cd_X9_told, by decide +kernel, by decide +kernel, by decide +kernel⟩
set_option maxRecDepth 100000 in
theorem cd_X8_queued : Cond.code yX8_queued cX8_queued 3 (some .int) ∈ G := gm 527 rfl rfl
theorem cf_L_67 : c_V RL 67 yX8_queued cX8_queued 3 (some .int) 2 := ⟨(gm 524 (by decide +kernel) rfl), (gm 525 (by decide +kernel) rfl), (gm 526 (by decide +kernel) rfl), (gm 1 (by decide +kernel) rfl), cd_X8_queued, by decide +kernel, by decide +kernel, by decide +kernel⟩
set_option maxRecDepth 100000 in
theorem cd_X9_queued : Cond.code yX9_queued cX9_queued 3 (some .int) ∈ G := gm 825 rfl rfl
theorem cf_L_70 : c_V RL 70 yX9_queued cX9_queued 3 (some .int) 2 := ⟨(gm 822 (by decide +kernel) rfl), (gm 823 (by decide +kernel) rfl), (gm 824 (by decide +kernel) rfl), (gm 9 (by decide +kernel) rfl), cd_X9_queued, by decide +kernel, by decide +kernel, by decide +kernel⟩
set_option maxRecDepth 100000 in
theorem cd_X8_executed : Cond.code yX8_executed cX8_executed 4 (some .int) ∈ G := gm 531 rfl rfl
theorem cf_L_71 : c_V RL 71 yX8_executed cX8_executed 4 (some .int) 2 := ⟨(gm 528 (by decide +kernel) rfl), (gm 529 (by decide +kernel) rfl), (gm 530 (by decide +kernel) rfl), (gm 1 (by decide +kernel) rfl), cd_X8_executed, by decide +kernel, by decide +kernel, by decide +kernel⟩
theorem cf_L_74 : c_V RL 74 yX9_executed cX9_executed 3 (some .int) 2 := ⟨(gm 826 (by decide +kernel) rfl), (gm 827 (by decide +kernel) rfl), (gm 828 (by decide +kernel) rfl), (gm 9 (by decide +kernel) rfl), cd_X9_executed, by decide +kernel, by decide +kernel, by decide +kernel⟩
set_option maxRecDepth 100000 in
theorem cd_X8_file : Cond.code yX8_file cX8_file 5 (some .int) ∈ G := gm 543 rfl rfl
theorem cf_L_75 : c_V RL 75 yX8_file cX8_file 5 (some .int) 3 := ⟨(gm 540 (by decide +kernel) rfl), (gm 541 (by decide +kernel) rfl), (gm 542 (by decide +kernel) rfl), (gm 1 (by decide +kernel) rfl), cd_X8_file, by decide +kernel, by decide +kernel, by decide +kernel⟩
set_option maxRecDepth 100000 in
theorem cd_X9_file : Cond.code yX9_file cX9_file 4 (some .int) ∈ G := gm 833 rfl rfl
theorem cf_L_78 : c_V RL 78 yX9_file cX9_file 4 (some .int) 3 := ⟨(gm 830 (by decide +kernel) rfl), (gm 831 (by decide +kernel) rfl), (gm 832 (by decide +kernel) rfl), (gm 9 (by decide +kernel) rfl), cd_X9_file, by decide +kernel, by decide +kernel, by decide +kernel⟩
set_option maxRecDepth 100000 in
theorem cd_X8_times : Cond.code yX8_times cX8_times 3 (some .int) ∈ G := gm 547 rfl rfl
theorem cf_L_79 : c_V RL 79 yX8_times cX8_times 3 (some .int) 2 := ⟨(gm 544 (by decide +kernel) rfl), (gm 545 (by decide +kernel) rfl), (gm 546 (by decide +kernel) rfl), (gm 1 (by decide +kernel) rfl), cd_X8_times, by decide +kernel, by decide +kernel, by decide +kernel⟩
set_option maxRecDepth 100000 in
theorem cd_X9_times : Cond.code yX9_times cX9_times 5 (some .int) ∈ G := gm 838 rfl rfl
theorem cf_L_82 : c_V RL 82 yX9_times cX9_times 5 (some .int) 2 := ⟨(gm 835 (by decide +kernel) rfl), (gm 836 (by decide +kernel) rfl), (gm 837 (by decide +kernel) rfl), (gm 9 (by decide +kernel) rfl), cd_X9_times, by decide +kernel, by decide +kernel, by decide +kernel⟩
set_option maxRecDepth 100000 in
theorem cd_X9_init : Cond.code yX9_init cX9_init 1 (none) ∈ G := gm 553 rfl rfl
theorem cf_L_12 : c_I RL 12 yX9_init cX9_init 1 0 := ⟨(gm 551 (by decide +kernel) rfl), rfl, (gm 552 (by decide +kernel) rfl), (gm 9 (by decide +kernel) rfl), cd_X9_init, by decide +kernel, by decide +kernel, by decide +kernel⟩
theorem fn_L_10 : f_N RL 10 9 37 := ⟨RX9, TX9, tyX9, rfl, inX9, tyX9_ok, gm 549 (by decide +kernel) rfl, gm 550 (by decide +kernel) rfl, gm 9 (by decide +kernel) rfl, by decide +kernel⟩
set_option maxRecDepth 100000 in
theorem cd_X8_init : Cond.code yX8_init cX8_init 1 (none) ∈ G := gm 17 rfl rfl
theorem cf_L_9 : c_I RL 9 yX8_init cX8_init 1 0 := ⟨(gm 15 (by decide +kernel) rfl), rfl, (gm 16 (by decide +kernel) rfl), (gm 1 (by decide +kernel) rfl), cd_X8_init, by decide +kernel, by decide +kernel, by decide +kernel⟩
theorem fn_L_7 : f_N RL 7 8 4 := ⟨RX8, TX8, tyX8, rfl, inX8, tyX8_ok, gm 13 (by decide +kernel) rfl, gm 14 (by decide +kernel) rfl, gm 1 (by decide +kernel) rfl, by decide +kernel⟩
