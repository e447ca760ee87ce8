set_option maxRecDepth 20000 in
theorem kAI : Cond.arrayClass .int ∈ TB := tb_mem 112 (by decide +kernel) (by decide +kernel)
set_option maxRecDepth 20000 in
theorem kAZ : Cond.arrayClass .boolean ∈ TB := tb_mem 113 (by decide +kernel) (by decide +kernel)
set_option maxRecDepth 20000 in
theorem kO_X6_3 : Cond.methodLink RX6 3 objectInit ∈ TB ∧ Cond.instanceMethod objectInit ∈ TB ∧ Cond.code objectInit ⟨#[0xb1]⟩ 1 none ∈ TB := ⟨tb_mem 81 (by decide +kernel) (by decide +kernel), tb_mem 82 (by decide +kernel) (by decide +kernel), tb_mem 83 (by decide +kernel) (by decide +kernel)⟩
set_option maxRecDepth 20000 in
theorem kO_X0_3 : Cond.methodLink RX0 3 objectInit ∈ TB ∧ Cond.instanceMethod objectInit ∈ TB ∧ Cond.code objectInit ⟨#[0xb1]⟩ 1 none ∈ TB := ⟨tb_mem 91 (by decide +kernel) (by decide +kernel), tb_mem 82 (by decide +kernel) (by decide +kernel), tb_mem 83 (by decide +kernel) (by decide +kernel)⟩
set_option maxRecDepth 20000 in
theorem kO_X4_3 : Cond.methodLink RX4 3 objectInit ∈ TB ∧ Cond.instanceMethod objectInit ∈ TB ∧ Cond.code objectInit ⟨#[0xb1]⟩ 1 none ∈ TB := ⟨tb_mem 119 (by decide +kernel) (by decide +kernel), tb_mem 82 (by decide +kernel) (by decide +kernel), tb_mem 83 (by decide +kernel) (by decide +kernel)⟩
set_option maxRecDepth 20000 in
theorem kO_X2_3 : Cond.methodLink RX2 3 objectInit ∈ TB ∧ Cond.instanceMethod objectInit ∈ TB ∧ Cond.code objectInit ⟨#[0xb1]⟩ 1 none ∈ TB := ⟨tb_mem 149 (by decide +kernel) (by decide +kernel), tb_mem 82 (by decide +kernel) (by decide +kernel), tb_mem 83 (by decide +kernel) (by decide +kernel)⟩
set_option maxRecDepth 20000 in
theorem kO_X3_3 : Cond.methodLink RX3 3 objectInit ∈ TB ∧ Cond.instanceMethod objectInit ∈ TB ∧ Cond.code objectInit ⟨#[0xb1]⟩ 1 none ∈ TB := ⟨tb_mem 181 (by decide +kernel) (by decide +kernel), tb_mem 82 (by decide +kernel) (by decide +kernel), tb_mem 83 (by decide +kernel) (by decide +kernel)⟩
set_option maxRecDepth 20000 in
theorem kO_X5_3 : Cond.methodLink RX5 3 objectInit ∈ TB ∧ Cond.instanceMethod objectInit ∈ TB ∧ Cond.code objectInit ⟨#[0xb1]⟩ 1 none ∈ TB := ⟨tb_mem 206 (by decide +kernel) (by decide +kernel), tb_mem 82 (by decide +kernel) (by decide +kernel), tb_mem 83 (by decide +kernel) (by decide +kernel)⟩
set_option maxRecDepth 20000 in
theorem kO_X1_3 : Cond.methodLink RX1 3 objectInit ∈ TB ∧ Cond.instanceMethod objectInit ∈ TB ∧ Cond.code objectInit ⟨#[0xb1]⟩ 1 none ∈ TB := ⟨tb_mem 266 (by decide +kernel) (by decide +kernel), tb_mem 82 (by decide +kernel) (by decide +kernel), tb_mem 83 (by decide +kernel) (by decide +kernel)⟩
set_option maxRecDepth 20000 in
theorem kO_X7_1 : Cond.methodLink RX7 1 objectInit ∈ TB ∧ Cond.instanceMethod objectInit ∈ TB ∧ Cond.code objectInit ⟨#[0xb1]⟩ 1 none ∈ TB := ⟨tb_mem 602 (by decide +kernel) (by decide +kernel), tb_mem 82 (by decide +kernel) (by decide +kernel), tb_mem 83 (by decide +kernel) (by decide +kernel)⟩
set_option maxRecDepth 20000 in
theorem kK_L_7 : Cond.classLink RL 7 RX6 ∈ TB := tb_mem 76 (by decide +kernel) (by decide +kernel)
set_option maxRecDepth 20000 in
theorem kK_X6_9 : Cond.classLink RX6 9 RX5 ∈ TB := tb_mem 84 (by decide +kernel) (by decide +kernel)
set_option maxRecDepth 20000 in
theorem kK_X6_15 : Cond.classLink RX6 15 RX0 ∈ TB := tb_mem 86 (by decide +kernel) (by decide +kernel)
set_option maxRecDepth 20000 in
theorem kK_X6_26 : Cond.classLink RX6 26 RX4 ∈ TB := tb_mem 114 (by decide +kernel) (by decide +kernel)
set_option maxRecDepth 20000 in
theorem kK_X6_33 : Cond.classLink RX6 33 RX1 ∈ TB := tb_mem 142 (by decide +kernel) (by decide +kernel)
set_option maxRecDepth 20000 in
theorem kK_X6_39 : Cond.classLink RX6 39 RX2 ∈ TB := tb_mem 144 (by decide +kernel) (by decide +kernel)
set_option maxRecDepth 20000 in
theorem kK_X2_9 : Cond.classLink RX2 9 RX4 ∈ TB := tb_mem 150 (by decide +kernel) (by decide +kernel)
set_option maxRecDepth 20000 in
theorem kK_X6_49 : Cond.classLink RX6 49 RX3 ∈ TB := tb_mem 176 (by decide +kernel) (by decide +kernel)
set_option maxRecDepth 20000 in
theorem kK_X1_15 : Cond.classLink RX1 15 RX4 ∈ TB := tb_mem 267 (by decide +kernel) (by decide +kernel)
set_option maxRecDepth 20000 in
theorem kK_L_10 : Cond.classLink RL 10 RX7 ∈ TB := tb_mem 597 (by decide +kernel) (by decide +kernel)
set_option maxRecDepth 20000 in
theorem kI_X0 : mCi yX0_init cX0_init 1 6 := ⟨tb_mem 90 (by decide +kernel) (by decide +kernel), tb_mem 67 (by decide +kernel) (by decide +kernel), tb_mem 89 (by decide +kernel) (by decide +kernel), tb_mem 87 (by decide +kernel) (by decide +kernel), by decide +kernel, by decide +kernel, rfl⟩
set_option maxRecDepth 20000 in
theorem kI_X1 : mCi yX1_init cX1_init 1 3 := ⟨tb_mem 265 (by decide +kernel) (by decide +kernel), tb_mem 72 (by decide +kernel) (by decide +kernel), tb_mem 264 (by decide +kernel) (by decide +kernel), tb_mem 262 (by decide +kernel) (by decide +kernel), by decide +kernel, by decide +kernel, rfl⟩
set_option maxRecDepth 20000 in
theorem kI_X2 : mCi yX2_init cX2_init 1 6 := ⟨tb_mem 148 (by decide +kernel) (by decide +kernel), tb_mem 69 (by decide +kernel) (by decide +kernel), tb_mem 147 (by decide +kernel) (by decide +kernel), tb_mem 145 (by decide +kernel) (by decide +kernel), by decide +kernel, by decide +kernel, rfl⟩
set_option maxRecDepth 20000 in
theorem kI_X3 : mCi yX3_init cX3_init 1 5 := ⟨tb_mem 180 (by decide +kernel) (by decide +kernel), tb_mem 70 (by decide +kernel) (by decide +kernel), tb_mem 179 (by decide +kernel) (by decide +kernel), tb_mem 177 (by decide +kernel) (by decide +kernel), by decide +kernel, by decide +kernel, rfl⟩
set_option maxRecDepth 20000 in
theorem kI_X4 : mCi yX4_init cX4_init 1 3 := ⟨tb_mem 118 (by decide +kernel) (by decide +kernel), tb_mem 68 (by decide +kernel) (by decide +kernel), tb_mem 117 (by decide +kernel) (by decide +kernel), tb_mem 115 (by decide +kernel) (by decide +kernel), by decide +kernel, by decide +kernel, rfl⟩
set_option maxRecDepth 20000 in
theorem kI_X5 : mCi yX5_init cX5_init 1 12 := ⟨tb_mem 205 (by decide +kernel) (by decide +kernel), tb_mem 71 (by decide +kernel) (by decide +kernel), tb_mem 204 (by decide +kernel) (by decide +kernel), tb_mem 202 (by decide +kernel) (by decide +kernel), by decide +kernel, by decide +kernel, rfl⟩
set_option maxRecDepth 20000 in
theorem kI_X6 : mCi yX6_init cX6_init 2 8 := ⟨tb_mem 80 (by decide +kernel) (by decide +kernel), tb_mem 66 (by decide +kernel) (by decide +kernel), tb_mem 79 (by decide +kernel) (by decide +kernel), tb_mem 77 (by decide +kernel) (by decide +kernel), by decide +kernel, by decide +kernel, rfl⟩
set_option maxRecDepth 20000 in
theorem kI_X7 : mCi yX7_init cX7_init 1 39 := ⟨tb_mem 601 (by decide +kernel) (by decide +kernel), tb_mem 73 (by decide +kernel) (by decide +kernel), tb_mem 600 (by decide +kernel) (by decide +kernel), tb_mem 598 (by decide +kernel) (by decide +kernel), by decide +kernel, by decide +kernel, rfl⟩
set_option maxRecDepth 20000 in
theorem kR_X0_11 : mFin RX0 11 0 0 (.array .int) := ⟨RX0, TX0, 6, tyX0, rfl, by decide, inX0, tb_mem 92 (by decide +kernel) (by decide +kernel), tyX0_ok, nmX0, rfl, rfl, by decide +kernel⟩
set_option maxRecDepth 20000 in
theorem kR_X0_15 : mFin RX0 15 0 1 (.array .int) := ⟨RX0, TX0, 6, tyX0, rfl, by decide, inX0, tb_mem 93 (by decide +kernel) (by decide +kernel), tyX0_ok, nmX0, rfl, rfl, by decide +kernel⟩
set_option maxRecDepth 20000 in
theorem kR_X0_18 : mFin RX0 18 0 2 (.array .int) := ⟨RX0, TX0, 6, tyX0, rfl, by decide, inX0, tb_mem 94 (by decide +kernel) (by decide +kernel), tyX0_ok, nmX0, rfl, rfl, by decide +kernel⟩
set_option maxRecDepth 20000 in
theorem kR_X0_21 : mFin RX0 21 0 3 (.array .int) := ⟨RX0, TX0, 6, tyX0, rfl, by decide, inX0, tb_mem 95 (by decide +kernel) (by decide +kernel), tyX0_ok, nmX0, rfl, rfl, by decide +kernel⟩
set_option maxRecDepth 20000 in
theorem kR_X0_24 : mFin RX0 24 0 4 (.array .boolean) := ⟨RX0, TX0, 6, tyX0, rfl, by decide, inX0, tb_mem 96 (by decide +kernel) (by decide +kernel), tyX0_ok, nmX0, rfl, rfl, by decide +kernel⟩
set_option maxRecDepth 20000 in
theorem kR_X4_9 : mFin RX4 9 4 0 (.array .int) := ⟨RX4, TX4, 3, tyX4, rfl, by decide, inX4, tb_mem 120 (by decide +kernel) (by decide +kernel), tyX4_ok, nmX4, rfl, rfl, by decide +kernel⟩
set_option maxRecDepth 20000 in
theorem kR_X4_15 : mFin RX4 15 4 1 (.array .int) := ⟨RX4, TX4, 3, tyX4, rfl, by decide, inX4, tb_mem 125 (by decide +kernel) (by decide +kernel), tyX4_ok, nmX4, rfl, rfl, by decide +kernel⟩
set_option maxRecDepth 20000 in
theorem kR_X2_12 : mFin RX2 12 2 0 (.object "SwapCalls$Program") := ⟨RX2, TX2, 6, tyX2, rfl, by decide, inX2, tb_mem 152 (by decide +kernel) (by decide +kernel), tyX2_ok, nmX2, rfl, rfl, by decide +kernel⟩
set_option maxRecDepth 20000 in
theorem kR_X2_18 : mFin RX2 18 2 1 (.array .int) := ⟨RX2, TX2, 6, tyX2, rfl, by decide, inX2, tb_mem 153 (by decide +kernel) (by decide +kernel), tyX2_ok, nmX2, rfl, rfl, by decide +kernel⟩
set_option maxRecDepth 20000 in
theorem kR_X2_22 : mFin RX2 22 2 2 (.array .int) := ⟨RX2, TX2, 6, tyX2, rfl, by decide, inX2, tb_mem 155 (by decide +kernel) (by decide +kernel), tyX2_ok, nmX2, rfl, rfl, by decide +kernel⟩
set_option maxRecDepth 20000 in
theorem kR_X2_25 : mFin RX2 25 2 3 (.array .int) := ⟨RX2, TX2, 6, tyX2, rfl, by decide, inX2, tb_mem 157 (by decide +kernel) (by decide +kernel), tyX2_ok, nmX2, rfl, rfl, by decide +kernel⟩
set_option maxRecDepth 20000 in
theorem kR_X3_9 : mFin RX3 9 3 0 (.array .int) := ⟨RX3, TX3, 5, tyX3, rfl, by decide, inX3, tb_mem 182 (by decide +kernel) (by decide +kernel), tyX3_ok, nmX3, rfl, rfl, by decide +kernel⟩
set_option maxRecDepth 20000 in
theorem kR_X3_15 : mFin RX3 15 3 1 (.array .int) := ⟨RX3, TX3, 5, tyX3, rfl, by decide, inX3, tb_mem 184 (by decide +kernel) (by decide +kernel), tyX3_ok, nmX3, rfl, rfl, by decide +kernel⟩
set_option maxRecDepth 20000 in
theorem kR_X5_9 : mFin RX5 9 5 0 (.array .int) := ⟨RX5, TX5, 12, tyX5, rfl, by decide, inX5, tb_mem 207 (by decide +kernel) (by decide +kernel), tyX5_ok, nmX5, rfl, rfl, by decide +kernel⟩
set_option maxRecDepth 20000 in
theorem kR_X5_22 : mFin RX5 22 5 3 (.array .int) := ⟨RX5, TX5, 12, tyX5, rfl, by decide, inX5, tb_mem 213 (by decide +kernel) (by decide +kernel), tyX5_ok, nmX5, rfl, rfl, by decide +kernel⟩
set_option maxRecDepth 20000 in
theorem kR_X5_25 : mFin RX5 25 5 4 (.array .int) := ⟨RX5, TX5, 12, tyX5, rfl, by decide, inX5, tb_mem 216 (by decide +kernel) (by decide +kernel), tyX5_ok, nmX5, rfl, rfl, by decide +kernel⟩
set_option maxRecDepth 20000 in
theorem kR_X5_28 : mFin RX5 28 5 5 (.array .int) := ⟨RX5, TX5, 12, tyX5, rfl, by decide, inX5, tb_mem 219 (by decide +kernel) (by decide +kernel), tyX5_ok, nmX5, rfl, rfl, by decide +kernel⟩
set_option maxRecDepth 20000 in
theorem kR_X5_31 : mFin RX5 31 5 6 (.array .int) := ⟨RX5, TX5, 12, tyX5, rfl, by decide, inX5, tb_mem 222 (by decide +kernel) (by decide +kernel), tyX5_ok, nmX5, rfl, rfl, by decide +kernel⟩
set_option maxRecDepth 20000 in
theorem kR_X5_37 : mFin RX5 37 5 8 (.array .int) := ⟨RX5, TX5, 12, tyX5, rfl, by decide, inX5, tb_mem 228 (by decide +kernel) (by decide +kernel), tyX5_ok, nmX5, rfl, rfl, by decide +kernel⟩
set_option maxRecDepth 20000 in
theorem kR_X5_40 : mFin RX5 40 5 9 (.array .int) := ⟨RX5, TX5, 12, tyX5, rfl, by decide, inX5, tb_mem 231 (by decide +kernel) (by decide +kernel), tyX5_ok, nmX5, rfl, rfl, by decide +kernel⟩
set_option maxRecDepth 20000 in
theorem kR_X1_9 : mFin RX1 9 1 0 (.array .int) := ⟨RX1, TX1, 3, tyX1, rfl, by decide, inX1, tb_mem 269 (by decide +kernel) (by decide +kernel), tyX1_ok, nmX1, rfl, rfl, by decide +kernel⟩
set_option maxRecDepth 20000 in
theorem kR_X1_18 : mFin RX1 18 1 1 (.object "SwapCalls$Program") := ⟨RX1, TX1, 3, tyX1, rfl, by decide, inX1, tb_mem 271 (by decide +kernel) (by decide +kernel), tyX1_ok, nmX1, rfl, rfl, by decide +kernel⟩
set_option maxRecDepth 20000 in
theorem kR_X6_11 : mFin RX6 11 6 0 (.array (.object "SwapCalls$Routine")) := ⟨RX6, TX6, 8, tyX6, rfl, by decide, inX6, tb_mem 282 (by decide +kernel) (by decide +kernel), tyX6_ok, nmX6, rfl, rfl, by decide +kernel⟩
set_option maxRecDepth 20000 in
theorem kR_X6_18 : mFin RX6 18 6 1 (.object "SwapCalls$Effects") := ⟨RX6, TX6, 8, tyX6, rfl, by decide, inX6, tb_mem 283 (by decide +kernel) (by decide +kernel), tyX6_ok, nmX6, rfl, rfl, by decide +kernel⟩
set_option maxRecDepth 20000 in
theorem kR_X6_22 : mFin RX6 22 6 2 (.array .int) := ⟨RX6, TX6, 8, tyX6, rfl, by decide, inX6, tb_mem 284 (by decide +kernel) (by decide +kernel), tyX6_ok, nmX6, rfl, rfl, by decide +kernel⟩
set_option maxRecDepth 20000 in
theorem kR_X6_29 : mFin RX6 29 6 3 (.object "SwapCalls$Program") := ⟨RX6, TX6, 8, tyX6, rfl, by decide, inX6, tb_mem 285 (by decide +kernel) (by decide +kernel), tyX6_ok, nmX6, rfl, rfl, by decide +kernel⟩
set_option maxRecDepth 20000 in
theorem kR_X6_35 : mFin RX6 35 6 4 (.array (.object "SwapCalls$Image")) := ⟨RX6, TX6, 8, tyX6, rfl, by decide, inX6, tb_mem 286 (by decide +kernel) (by decide +kernel), tyX6_ok, nmX6, rfl, rfl, by decide +kernel⟩
set_option maxRecDepth 20000 in
theorem kR_X6_42 : mFin RX6 42 6 5 (.object "SwapCalls$Layout") := ⟨RX6, TX6, 8, tyX6, rfl, by decide, inX6, tb_mem 287 (by decide +kernel) (by decide +kernel), tyX6_ok, nmX6, rfl, rfl, by decide +kernel⟩
set_option maxRecDepth 20000 in
theorem kR_X6_46 : mFin RX6 46 6 6 (.object "SwapCalls$Layout") := ⟨RX6, TX6, 8, tyX6, rfl, by decide, inX6, tb_mem 288 (by decide +kernel) (by decide +kernel), tyX6_ok, nmX6, rfl, rfl, by decide +kernel⟩
set_option maxRecDepth 20000 in
theorem kR_X6_52 : mFin RX6 52 6 7 (.object "SwapCalls$Machine") := ⟨RX6, TX6, 8, tyX6, rfl, by decide, inX6, tb_mem 289 (by decide +kernel) (by decide +kernel), tyX6_ok, nmX6, rfl, rfl, by decide +kernel⟩
set_option maxRecDepth 20000 in
theorem kR_X7_7 : mFin RX7 7 7 0 (.array .int) := ⟨RX7, TX7, 39, tyX7, rfl, by decide, inX7, tb_mem 603 (by decide +kernel) (by decide +kernel), tyX7_ok, nmX7, rfl, rfl, by decide +kernel⟩
set_option maxRecDepth 20000 in
theorem kR_X7_13 : mFin RX7 13 7 1 (.array .int) := ⟨RX7, TX7, 39, tyX7, rfl, by decide, inX7, tb_mem 604 (by decide +kernel) (by decide +kernel), tyX7_ok, nmX7, rfl, rfl, by decide +kernel⟩
set_option maxRecDepth 20000 in
theorem kR_X7_16 : mFin RX7 16 7 2 (.array .int) := ⟨RX7, TX7, 39, tyX7, rfl, by decide, inX7, tb_mem 605 (by decide +kernel) (by decide +kernel), tyX7_ok, nmX7, rfl, rfl, by decide +kernel⟩
set_option maxRecDepth 20000 in
theorem kR_X7_19 : mFin RX7 19 7 3 (.array .int) := ⟨RX7, TX7, 39, tyX7, rfl, by decide, inX7, tb_mem 606 (by decide +kernel) (by decide +kernel), tyX7_ok, nmX7, rfl, rfl, by decide +kernel⟩
set_option maxRecDepth 20000 in
theorem kR_X7_22 : mFin RX7 22 7 4 (.array .int) := ⟨RX7, TX7, 39, tyX7, rfl, by decide, inX7, tb_mem 607 (by decide +kernel) (by decide +kernel), tyX7_ok, nmX7, rfl, rfl, by decide +kernel⟩
set_option maxRecDepth 20000 in
theorem kR_X7_25 : mFin RX7 25 7 14 (.array .int) := ⟨RX7, TX7, 39, tyX7, rfl, by decide, inX7, tb_mem 617 (by decide +kernel) (by decide +kernel), tyX7_ok, nmX7, rfl, rfl, by decide +kernel⟩
set_option maxRecDepth 20000 in
theorem kR_X7_28 : mFin RX7 28 7 15 (.array .int) := ⟨RX7, TX7, 39, tyX7, rfl, by decide, inX7, tb_mem 618 (by decide +kernel) (by decide +kernel), tyX7_ok, nmX7, rfl, rfl, by decide +kernel⟩
set_option maxRecDepth 20000 in
theorem kR_X7_31 : mFin RX7 31 7 16 (.array .int) := ⟨RX7, TX7, 39, tyX7, rfl, by decide, inX7, tb_mem 619 (by decide +kernel) (by decide +kernel), tyX7_ok, nmX7, rfl, rfl, by decide +kernel⟩
set_option maxRecDepth 20000 in
theorem kR_X7_34 : mFin RX7 34 7 17 (.array .int) := ⟨RX7, TX7, 39, tyX7, rfl, by decide, inX7, tb_mem 620 (by decide +kernel) (by decide +kernel), tyX7_ok, nmX7, rfl, rfl, by decide +kernel⟩
set_option maxRecDepth 20000 in
theorem kR_X7_37 : mFin RX7 37 7 18 (.array .int) := ⟨RX7, TX7, 39, tyX7, rfl, by decide, inX7, tb_mem 621 (by decide +kernel) (by decide +kernel), tyX7_ok, nmX7, rfl, rfl, by decide +kernel⟩
set_option maxRecDepth 20000 in
theorem kR_X7_40 : mFin RX7 40 7 19 (.array .int) := ⟨RX7, TX7, 39, tyX7, rfl, by decide, inX7, tb_mem 622 (by decide +kernel) (by decide +kernel), tyX7_ok, nmX7, rfl, rfl, by decide +kernel⟩
set_option maxRecDepth 20000 in
theorem kR_X7_43 : mFin RX7 43 7 21 (.array .int) := ⟨RX7, TX7, 39, tyX7, rfl, by decide, inX7, tb_mem 624 (by decide +kernel) (by decide +kernel), tyX7_ok, nmX7, rfl, rfl, by decide +kernel⟩
set_option maxRecDepth 20000 in
theorem kR_X7_46 : mFin RX7 46 7 22 (.array .int) := ⟨RX7, TX7, 39, tyX7, rfl, by decide, inX7, tb_mem 625 (by decide +kernel) (by decide +kernel), tyX7_ok, nmX7, rfl, rfl, by decide +kernel⟩
set_option maxRecDepth 20000 in
theorem kR_X7_49 : mFin RX7 49 7 23 (.array .int) := ⟨RX7, TX7, 39, tyX7, rfl, by decide, inX7, tb_mem 626 (by decide +kernel) (by decide +kernel), tyX7_ok, nmX7, rfl, rfl, by decide +kernel⟩
set_option maxRecDepth 20000 in
theorem kR_X7_52 : mFin RX7 52 7 24 (.array .int) := ⟨RX7, TX7, 39, tyX7, rfl, by decide, inX7, tb_mem 627 (by decide +kernel) (by decide +kernel), tyX7_ok, nmX7, rfl, rfl, by decide +kernel⟩
set_option maxRecDepth 20000 in
theorem kR_X7_55 : mFin RX7 55 7 25 (.array .int) := ⟨RX7, TX7, 39, tyX7, rfl, by decide, inX7, tb_mem 628 (by decide +kernel) (by decide +kernel), tyX7_ok, nmX7, rfl, rfl, by decide +kernel⟩
set_option maxRecDepth 20000 in
theorem kR_X7_58 : mFin RX7 58 7 27 (.array .int) := ⟨RX7, TX7, 39, tyX7, rfl, by decide, inX7, tb_mem 630 (by decide +kernel) (by decide +kernel), tyX7_ok, nmX7, rfl, rfl, by decide +kernel⟩
set_option maxRecDepth 20000 in
theorem kR_X7_61 : mFin RX7 61 7 28 (.array .int) := ⟨RX7, TX7, 39, tyX7, rfl, by decide, inX7, tb_mem 631 (by decide +kernel) (by decide +kernel), tyX7_ok, nmX7, rfl, rfl, by decide +kernel⟩
set_option maxRecDepth 20000 in
theorem kR_X7_64 : mFin RX7 64 7 29 (.array .int) := ⟨RX7, TX7, 39, tyX7, rfl, by decide, inX7, tb_mem 632 (by decide +kernel) (by decide +kernel), tyX7_ok, nmX7, rfl, rfl, by decide +kernel⟩
set_option maxRecDepth 20000 in
theorem kR_X7_67 : mFin RX7 67 7 32 (.array .int) := ⟨RX7, TX7, 39, tyX7, rfl, by decide, inX7, tb_mem 635 (by decide +kernel) (by decide +kernel), tyX7_ok, nmX7, rfl, rfl, by decide +kernel⟩
set_option maxRecDepth 20000 in
theorem kR_X7_70 : mFin RX7 70 7 35 (.array .int) := ⟨RX7, TX7, 39, tyX7, rfl, by decide, inX7, tb_mem 638 (by decide +kernel) (by decide +kernel), tyX7_ok, nmX7, rfl, rfl, by decide +kernel⟩
set_option maxRecDepth 20000 in
theorem kR_X7_73 : mFin RX7 73 7 36 (.array .boolean) := ⟨RX7, TX7, 39, tyX7, rfl, by decide, inX7, tb_mem 639 (by decide +kernel) (by decide +kernel), tyX7_ok, nmX7, rfl, rfl, by decide +kernel⟩
