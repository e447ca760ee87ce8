set_option maxRecDepth 20000 in
theorem inX0 : ∀ w ∈ u_ws RX0 TX0 6, w ∈ TB := tb_all _ [99, 101, 103, 105, 107, 109] (by decide +kernel) (by decide +kernel)
set_option maxRecDepth 20000 in
theorem inX1 : ∀ w ∈ u_ws RX1 TX1 3, w ∈ TB := tb_all _ [275, 277, 279] (by decide +kernel) (by decide +kernel)
set_option maxRecDepth 20000 in
theorem inX2 : ∀ w ∈ u_ws RX2 TX2 6, w ∈ TB := tb_all _ [163, 165, 167, 169, 171, 173] (by decide +kernel) (by decide +kernel)
set_option maxRecDepth 20000 in
theorem inX3 : ∀ w ∈ u_ws RX3 TX3 5, w ∈ TB := tb_all _ [191, 193, 195, 197, 199] (by decide +kernel) (by decide +kernel)
set_option maxRecDepth 20000 in
theorem inX4 : ∀ w ∈ u_ws RX4 TX4 3, w ∈ TB := tb_all _ [135, 137, 139] (by decide +kernel) (by decide +kernel)
set_option maxRecDepth 20000 in
theorem inX5 : ∀ w ∈ u_ws RX5 TX5 12, w ∈ TB := tb_all _ [237, 239, 241, 243, 245, 247, 249, 251, 253, 255, 257, 259] (by decide +kernel) (by decide +kernel)
set_option maxRecDepth 20000 in
theorem inX6 : ∀ w ∈ u_ws RX6 TX6 8, w ∈ TB := tb_all _ [290, 292, 294, 296, 298, 300, 302, 304] (by decide +kernel) (by decide +kernel)
set_option maxRecDepth 20000 in
theorem inX7 : ∀ w ∈ u_ws RX7 TX7 39, w ∈ TB := tb_all _ [642, 644, 646, 648, 650, 652, 654, 656, 658, 660, 662, 664, 666, 668, 670, 672, 674, 676, 678, 680, 682, 684, 686, 688, 690, 692, 694, 696, 698, 700, 702, 704, 706, 708, 710, 712, 714, 716, 718] (by decide +kernel) (by decide +kernel)
set_option maxRecDepth 20000 in
theorem kL_X0_11 : Cond.fieldLink RX0 11 (TX0 0).1 (TX0 0).2.1 (TX0 0).2.2.1 ∈ TB ∨ ∃ host : String, Cond.fieldLinkNest RX0 11 (TX0 0).1 (TX0 0).2.1 (TX0 0).2.2.1 host ∈ TB := Or.inl (tb_mem 92 (by decide +kernel) (by decide +kernel))
set_option maxRecDepth 20000 in
theorem kF_X0_11 : mFld RX0 11 0 0 := ⟨RX0, TX0, 6, rfl, by decide, inX0, kL_X0_11⟩
set_option maxRecDepth 20000 in
theorem kL_X0_15 : Cond.fieldLink RX0 15 (TX0 1).1 (TX0 1).2.1 (TX0 1).2.2.1 ∈ TB ∨ ∃ host : String, Cond.fieldLinkNest RX0 15 (TX0 1).1 (TX0 1).2.1 (TX0 1).2.2.1 host ∈ TB := Or.inl (tb_mem 93 (by decide +kernel) (by decide +kernel))
set_option maxRecDepth 20000 in
theorem kF_X0_15 : mFld RX0 15 0 1 := ⟨RX0, TX0, 6, rfl, by decide, inX0, kL_X0_15⟩
set_option maxRecDepth 20000 in
theorem kL_X0_18 : Cond.fieldLink RX0 18 (TX0 2).1 (TX0 2).2.1 (TX0 2).2.2.1 ∈ TB ∨ ∃ host : String, Cond.fieldLinkNest RX0 18 (TX0 2).1 (TX0 2).2.1 (TX0 2).2.2.1 host ∈ TB := Or.inl (tb_mem 94 (by decide +kernel) (by decide +kernel))
set_option maxRecDepth 20000 in
theorem kF_X0_18 : mFld RX0 18 0 2 := ⟨RX0, TX0, 6, rfl, by decide, inX0, kL_X0_18⟩
set_option maxRecDepth 20000 in
theorem kL_X0_21 : Cond.fieldLink RX0 21 (TX0 3).1 (TX0 3).2.1 (TX0 3).2.2.1 ∈ TB ∨ ∃ host : String, Cond.fieldLinkNest RX0 21 (TX0 3).1 (TX0 3).2.1 (TX0 3).2.2.1 host ∈ TB := Or.inl (tb_mem 95 (by decide +kernel) (by decide +kernel))
set_option maxRecDepth 20000 in
theorem kF_X0_21 : mFld RX0 21 0 3 := ⟨RX0, TX0, 6, rfl, by decide, inX0, kL_X0_21⟩
set_option maxRecDepth 20000 in
theorem kL_X0_24 : Cond.fieldLink RX0 24 (TX0 4).1 (TX0 4).2.1 (TX0 4).2.2.1 ∈ TB ∨ ∃ host : String, Cond.fieldLinkNest RX0 24 (TX0 4).1 (TX0 4).2.1 (TX0 4).2.2.1 host ∈ TB := Or.inl (tb_mem 96 (by decide +kernel) (by decide +kernel))
set_option maxRecDepth 20000 in
theorem kF_X0_24 : mFld RX0 24 0 4 := ⟨RX0, TX0, 6, rfl, by decide, inX0, kL_X0_24⟩
set_option maxRecDepth 20000 in
theorem kL_X6_83 : Cond.fieldLink RX6 83 (TX0 4).1 (TX0 4).2.1 (TX0 4).2.2.1 ∈ TB ∨ ∃ host : String, Cond.fieldLinkNest RX6 83 (TX0 4).1 (TX0 4).2.1 (TX0 4).2.2.1 host ∈ TB := Or.inr ⟨"SwapCalls", tb_mem 97 (by decide +kernel) (by decide +kernel)⟩
set_option maxRecDepth 20000 in
theorem kF_X6_83 : mFld RX6 83 0 4 := ⟨RX0, TX0, 6, rfl, by decide, inX0, kL_X6_83⟩
set_option maxRecDepth 20000 in
theorem kL_X0_28 : Cond.fieldLink RX0 28 (TX0 5).1 (TX0 5).2.1 (TX0 5).2.2.1 ∈ TB ∨ ∃ host : String, Cond.fieldLinkNest RX0 28 (TX0 5).1 (TX0 5).2.1 (TX0 5).2.2.1 host ∈ TB := Or.inl (tb_mem 98 (by decide +kernel) (by decide +kernel))
set_option maxRecDepth 20000 in
theorem kF_X0_28 : mFld RX0 28 0 5 := ⟨RX0, TX0, 6, rfl, by decide, inX0, kL_X0_28⟩
set_option maxRecDepth 20000 in
theorem kP_X0_28 : mFldP RX0 28 0 5 .boolean := ⟨RX0, TX0, 6, tyX0, rfl, by decide, inX0, kL_X0_28, tyX0_ok, nmX0, by decide, by decide +kernel⟩
set_option maxRecDepth 20000 in
theorem kL_X4_9 : Cond.fieldLink RX4 9 (TX4 0).1 (TX4 0).2.1 (TX4 0).2.2.1 ∈ TB ∨ ∃ host : String, Cond.fieldLinkNest RX4 9 (TX4 0).1 (TX4 0).2.1 (TX4 0).2.2.1 host ∈ TB := Or.inl (tb_mem 120 (by decide +kernel) (by decide +kernel))
set_option maxRecDepth 20000 in
theorem kF_X4_9 : mFld RX4 9 4 0 := ⟨RX4, TX4, 3, rfl, by decide, inX4, kL_X4_9⟩
set_option maxRecDepth 20000 in
theorem kL_X3_39 : Cond.fieldLink RX3 39 (TX4 0).1 (TX4 0).2.1 (TX4 0).2.2.1 ∈ TB ∨ ∃ host : String, Cond.fieldLinkNest RX3 39 (TX4 0).1 (TX4 0).2.1 (TX4 0).2.2.1 host ∈ TB := Or.inr ⟨"SwapCalls", tb_mem 121 (by decide +kernel) (by decide +kernel)⟩
set_option maxRecDepth 20000 in
theorem kF_X3_39 : mFld RX3 39 4 0 := ⟨RX4, TX4, 3, rfl, by decide, inX4, kL_X3_39⟩
set_option maxRecDepth 20000 in
theorem kL_X0_50 : Cond.fieldLink RX0 50 (TX4 0).1 (TX4 0).2.1 (TX4 0).2.2.1 ∈ TB ∨ ∃ host : String, Cond.fieldLinkNest RX0 50 (TX4 0).1 (TX4 0).2.1 (TX4 0).2.2.1 host ∈ TB := Or.inr ⟨"SwapCalls", tb_mem 122 (by decide +kernel) (by decide +kernel)⟩
set_option maxRecDepth 20000 in
theorem kF_X0_50 : mFld RX0 50 4 0 := ⟨RX4, TX4, 3, rfl, by decide, inX4, kL_X0_50⟩
set_option maxRecDepth 20000 in
theorem kL_X2_69 : Cond.fieldLink RX2 69 (TX4 0).1 (TX4 0).2.1 (TX4 0).2.2.1 ∈ TB ∨ ∃ host : String, Cond.fieldLinkNest RX2 69 (TX4 0).1 (TX4 0).2.1 (TX4 0).2.2.1 host ∈ TB := Or.inr ⟨"SwapCalls", tb_mem 123 (by decide +kernel) (by decide +kernel)⟩
set_option maxRecDepth 20000 in
theorem kF_X2_69 : mFld RX2 69 4 0 := ⟨RX4, TX4, 3, rfl, by decide, inX4, kL_X2_69⟩
set_option maxRecDepth 20000 in
theorem kL_X6_104 : Cond.fieldLink RX6 104 (TX4 0).1 (TX4 0).2.1 (TX4 0).2.2.1 ∈ TB ∨ ∃ host : String, Cond.fieldLinkNest RX6 104 (TX4 0).1 (TX4 0).2.1 (TX4 0).2.2.1 host ∈ TB := Or.inr ⟨"SwapCalls", tb_mem 124 (by decide +kernel) (by decide +kernel)⟩
set_option maxRecDepth 20000 in
theorem kF_X6_104 : mFld RX6 104 4 0 := ⟨RX4, TX4, 3, rfl, by decide, inX4, kL_X6_104⟩
set_option maxRecDepth 20000 in
theorem kL_X4_15 : Cond.fieldLink RX4 15 (TX4 1).1 (TX4 1).2.1 (TX4 1).2.2.1 ∈ TB ∨ ∃ host : String, Cond.fieldLinkNest RX4 15 (TX4 1).1 (TX4 1).2.1 (TX4 1).2.2.1 host ∈ TB := Or.inl (tb_mem 125 (by decide +kernel) (by decide +kernel))
set_option maxRecDepth 20000 in
theorem kF_X4_15 : mFld RX4 15 4 1 := ⟨RX4, TX4, 3, rfl, by decide, inX4, kL_X4_15⟩
set_option maxRecDepth 20000 in
theorem kL_X3_42 : Cond.fieldLink RX3 42 (TX4 1).1 (TX4 1).2.1 (TX4 1).2.2.1 ∈ TB ∨ ∃ host : String, Cond.fieldLinkNest RX3 42 (TX4 1).1 (TX4 1).2.1 (TX4 1).2.2.1 host ∈ TB := Or.inr ⟨"SwapCalls", tb_mem 126 (by decide +kernel) (by decide +kernel)⟩
set_option maxRecDepth 20000 in
theorem kF_X3_42 : mFld RX3 42 4 1 := ⟨RX4, TX4, 3, rfl, by decide, inX4, kL_X3_42⟩
set_option maxRecDepth 20000 in
theorem kL_X0_53 : Cond.fieldLink RX0 53 (TX4 1).1 (TX4 1).2.1 (TX4 1).2.2.1 ∈ TB ∨ ∃ host : String, Cond.fieldLinkNest RX0 53 (TX4 1).1 (TX4 1).2.1 (TX4 1).2.2.1 host ∈ TB := Or.inr ⟨"SwapCalls", tb_mem 127 (by decide +kernel) (by decide +kernel)⟩
set_option maxRecDepth 20000 in
theorem kF_X0_53 : mFld RX0 53 4 1 := ⟨RX4, TX4, 3, rfl, by decide, inX4, kL_X0_53⟩
set_option maxRecDepth 20000 in
theorem kL_X2_72 : Cond.fieldLink RX2 72 (TX4 1).1 (TX4 1).2.1 (TX4 1).2.2.1 ∈ TB ∨ ∃ host : String, Cond.fieldLinkNest RX2 72 (TX4 1).1 (TX4 1).2.1 (TX4 1).2.2.1 host ∈ TB := Or.inr ⟨"SwapCalls", tb_mem 128 (by decide +kernel) (by decide +kernel)⟩
set_option maxRecDepth 20000 in
theorem kF_X2_72 : mFld RX2 72 4 1 := ⟨RX4, TX4, 3, rfl, by decide, inX4, kL_X2_72⟩
set_option maxRecDepth 20000 in
theorem kL_X6_114 : Cond.fieldLink RX6 114 (TX4 1).1 (TX4 1).2.1 (TX4 1).2.2.1 ∈ TB ∨ ∃ host : String, Cond.fieldLinkNest RX6 114 (TX4 1).1 (TX4 1).2.1 (TX4 1).2.2.1 host ∈ TB := Or.inr ⟨"SwapCalls", tb_mem 129 (by decide +kernel) (by decide +kernel)⟩
set_option maxRecDepth 20000 in
theorem kF_X6_114 : mFld RX6 114 4 1 := ⟨RX4, TX4, 3, rfl, by decide, inX4, kL_X6_114⟩
set_option maxRecDepth 20000 in
theorem kL_X4_18 : Cond.fieldLink RX4 18 (TX4 2).1 (TX4 2).2.1 (TX4 2).2.2.1 ∈ TB ∨ ∃ host : String, Cond.fieldLinkNest RX4 18 (TX4 2).1 (TX4 2).2.1 (TX4 2).2.2.1 host ∈ TB := Or.inl (tb_mem 130 (by decide +kernel) (by decide +kernel))
set_option maxRecDepth 20000 in
theorem kF_X4_18 : mFld RX4 18 4 2 := ⟨RX4, TX4, 3, rfl, by decide, inX4, kL_X4_18⟩
set_option maxRecDepth 20000 in
theorem kP_X4_18 : mFldP RX4 18 4 2 .int := ⟨RX4, TX4, 3, tyX4, rfl, by decide, inX4, kL_X4_18, tyX4_ok, nmX4, by decide, by decide +kernel⟩
set_option maxRecDepth 20000 in
theorem kL_X2_39 : Cond.fieldLink RX2 39 (TX4 2).1 (TX4 2).2.1 (TX4 2).2.2.1 ∈ TB ∨ ∃ host : String, Cond.fieldLinkNest RX2 39 (TX4 2).1 (TX4 2).2.1 (TX4 2).2.2.1 host ∈ TB := Or.inr ⟨"SwapCalls", tb_mem 131 (by decide +kernel) (by decide +kernel)⟩
set_option maxRecDepth 20000 in
theorem kF_X2_39 : mFld RX2 39 4 2 := ⟨RX4, TX4, 3, rfl, by decide, inX4, kL_X2_39⟩
set_option maxRecDepth 20000 in
theorem kP_X2_39 : mFldP RX2 39 4 2 .int := ⟨RX4, TX4, 3, tyX4, rfl, by decide, inX4, kL_X2_39, tyX4_ok, nmX4, by decide, by decide +kernel⟩
set_option maxRecDepth 20000 in
theorem kL_X3_34 : Cond.fieldLink RX3 34 (TX4 2).1 (TX4 2).2.1 (TX4 2).2.2.1 ∈ TB ∨ ∃ host : String, Cond.fieldLinkNest RX3 34 (TX4 2).1 (TX4 2).2.1 (TX4 2).2.2.1 host ∈ TB := Or.inr ⟨"SwapCalls", tb_mem 132 (by decide +kernel) (by decide +kernel)⟩
set_option maxRecDepth 20000 in
theorem kF_X3_34 : mFld RX3 34 4 2 := ⟨RX4, TX4, 3, rfl, by decide, inX4, kL_X3_34⟩
set_option maxRecDepth 20000 in
theorem kP_X3_34 : mFldP RX3 34 4 2 .int := ⟨RX4, TX4, 3, tyX4, rfl, by decide, inX4, kL_X3_34, tyX4_ok, nmX4, by decide, by decide +kernel⟩
set_option maxRecDepth 20000 in
theorem kL_X0_44 : Cond.fieldLink RX0 44 (TX4 2).1 (TX4 2).2.1 (TX4 2).2.2.1 ∈ TB ∨ ∃ host : String, Cond.fieldLinkNest RX0 44 (TX4 2).1 (TX4 2).2.1 (TX4 2).2.2.1 host ∈ TB := Or.inr ⟨"SwapCalls", tb_mem 133 (by decide +kernel) (by decide +kernel)⟩
set_option maxRecDepth 20000 in
theorem kF_X0_44 : mFld RX0 44 4 2 := ⟨RX4, TX4, 3, rfl, by decide, inX4, kL_X0_44⟩
set_option maxRecDepth 20000 in
theorem kP_X0_44 : mFldP RX0 44 4 2 .int := ⟨RX4, TX4, 3, tyX4, rfl, by decide, inX4, kL_X0_44, tyX4_ok, nmX4, by decide, by decide +kernel⟩
set_option maxRecDepth 20000 in
theorem kL_X6_95 : Cond.fieldLink RX6 95 (TX4 2).1 (TX4 2).2.1 (TX4 2).2.2.1 ∈ TB ∨ ∃ host : String, Cond.fieldLinkNest RX6 95 (TX4 2).1 (TX4 2).2.1 (TX4 2).2.2.1 host ∈ TB := Or.inr ⟨"SwapCalls", tb_mem 134 (by decide +kernel) (by decide +kernel)⟩
set_option maxRecDepth 20000 in
theorem kF_X6_95 : mFld RX6 95 4 2 := ⟨RX4, TX4, 3, rfl, by decide, inX4, kL_X6_95⟩
set_option maxRecDepth 20000 in
theorem kP_X6_95 : mFldP RX6 95 4 2 .int := ⟨RX4, TX4, 3, tyX4, rfl, by decide, inX4, kL_X6_95, tyX4_ok, nmX4, by decide, by decide +kernel⟩
set_option maxRecDepth 20000 in
theorem kL_X2_12 : Cond.fieldLink RX2 12 (TX2 0).1 (TX2 0).2.1 (TX2 0).2.2.1 ∈ TB ∨ ∃ host : String, Cond.fieldLinkNest RX2 12 (TX2 0).1 (TX2 0).2.1 (TX2 0).2.2.1 host ∈ TB := Or.inl (tb_mem 152 (by decide +kernel) (by decide +kernel))
set_option maxRecDepth 20000 in
theorem kF_X2_12 : mFld RX2 12 2 0 := ⟨RX2, TX2, 6, rfl, by decide, inX2, kL_X2_12⟩
set_option maxRecDepth 20000 in
theorem kL_X2_18 : Cond.fieldLink RX2 18 (TX2 1).1 (TX2 1).2.1 (TX2 1).2.2.1 ∈ TB ∨ ∃ host : String, Cond.fieldLinkNest RX2 18 (TX2 1).1 (TX2 1).2.1 (TX2 1).2.2.1 host ∈ TB := Or.inl (tb_mem 153 (by decide +kernel) (by decide +kernel))
set_option maxRecDepth 20000 in
theorem kF_X2_18 : mFld RX2 18 2 1 := ⟨RX2, TX2, 6, rfl, by decide, inX2, kL_X2_18⟩
set_option maxRecDepth 20000 in
theorem kL_X6_121 : Cond.fieldLink RX6 121 (TX2 1).1 (TX2 1).2.1 (TX2 1).2.2.1 ∈ TB ∨ ∃ host : String, Cond.fieldLinkNest RX6 121 (TX2 1).1 (TX2 1).2.1 (TX2 1).2.2.1 host ∈ TB := Or.inr ⟨"SwapCalls", tb_mem 154 (by decide +kernel) (by decide +kernel)⟩
set_option maxRecDepth 20000 in
theorem kF_X6_121 : mFld RX6 121 2 1 := ⟨RX2, TX2, 6, rfl, by decide, inX2, kL_X6_121⟩
set_option maxRecDepth 20000 in
theorem kL_X2_22 : Cond.fieldLink RX2 22 (TX2 2).1 (TX2 2).2.1 (TX2 2).2.2.1 ∈ TB ∨ ∃ host : String, Cond.fieldLinkNest RX2 22 (TX2 2).1 (TX2 2).2.1 (TX2 2).2.2.1 host ∈ TB := Or.inl (tb_mem 155 (by decide +kernel) (by decide +kernel))
set_option maxRecDepth 20000 in
theorem kF_X2_22 : mFld RX2 22 2 2 := ⟨RX2, TX2, 6, rfl, by decide, inX2, kL_X2_22⟩
set_option maxRecDepth 20000 in
theorem kL_X6_124 : Cond.fieldLink RX6 124 (TX2 2).1 (TX2 2).2.1 (TX2 2).2.2.1 ∈ TB ∨ ∃ host : String, Cond.fieldLinkNest RX6 124 (TX2 2).1 (TX2 2).2.1 (TX2 2).2.2.1 host ∈ TB := Or.inr ⟨"SwapCalls", tb_mem 156 (by decide +kernel) (by decide +kernel)⟩
set_option maxRecDepth 20000 in
theorem kF_X6_124 : mFld RX6 124 2 2 := ⟨RX2, TX2, 6, rfl, by decide, inX2, kL_X6_124⟩
set_option maxRecDepth 20000 in
theorem kL_X2_25 : Cond.fieldLink RX2 25 (TX2 3).1 (TX2 3).2.1 (TX2 3).2.2.1 ∈ TB ∨ ∃ host : String, Cond.fieldLinkNest RX2 25 (TX2 3).1 (TX2 3).2.1 (TX2 3).2.2.1 host ∈ TB := Or.inl (tb_mem 157 (by decide +kernel) (by decide +kernel))
set_option maxRecDepth 20000 in
theorem kF_X2_25 : mFld RX2 25 2 3 := ⟨RX2, TX2, 6, rfl, by decide, inX2, kL_X2_25⟩
set_option maxRecDepth 20000 in
theorem kL_X6_209 : Cond.fieldLink RX6 209 (TX2 3).1 (TX2 3).2.1 (TX2 3).2.2.1 ∈ TB ∨ ∃ host : String, Cond.fieldLinkNest RX6 209 (TX2 3).1 (TX2 3).2.1 (TX2 3).2.2.1 host ∈ TB := Or.inr ⟨"SwapCalls", tb_mem 158 (by decide +kernel) (by decide +kernel)⟩
set_option maxRecDepth 20000 in
theorem kF_X6_209 : mFld RX6 209 2 3 := ⟨RX2, TX2, 6, rfl, by decide, inX2, kL_X6_209⟩
set_option maxRecDepth 20000 in
theorem kL_X2_28 : Cond.fieldLink RX2 28 (TX2 4).1 (TX2 4).2.1 (TX2 4).2.2.1 ∈ TB ∨ ∃ host : String, Cond.fieldLinkNest RX2 28 (TX2 4).1 (TX2 4).2.1 (TX2 4).2.2.1 host ∈ TB := Or.inl (tb_mem 159 (by decide +kernel) (by decide +kernel))
set_option maxRecDepth 20000 in
theorem kF_X2_28 : mFld RX2 28 2 4 := ⟨RX2, TX2, 6, rfl, by decide, inX2, kL_X2_28⟩
set_option maxRecDepth 20000 in
theorem kP_X2_28 : mFldP RX2 28 2 4 .int := ⟨RX2, TX2, 6, tyX2, rfl, by decide, inX2, kL_X2_28, tyX2_ok, nmX2, by decide, by decide +kernel⟩
set_option maxRecDepth 20000 in
theorem kL_X6_131 : Cond.fieldLink RX6 131 (TX2 4).1 (TX2 4).2.1 (TX2 4).2.2.1 ∈ TB ∨ ∃ host : String, Cond.fieldLinkNest RX6 131 (TX2 4).1 (TX2 4).2.1 (TX2 4).2.2.1 host ∈ TB := Or.inr ⟨"SwapCalls", tb_mem 160 (by decide +kernel) (by decide +kernel)⟩
set_option maxRecDepth 20000 in
theorem kF_X6_131 : mFld RX6 131 2 4 := ⟨RX2, TX2, 6, rfl, by decide, inX2, kL_X6_131⟩
set_option maxRecDepth 20000 in
theorem kP_X6_131 : mFldP RX6 131 2 4 .int := ⟨RX2, TX2, 6, tyX2, rfl, by decide, inX2, kL_X6_131, tyX2_ok, nmX2, by decide, by decide +kernel⟩
set_option maxRecDepth 20000 in
theorem kL_X2_32 : Cond.fieldLink RX2 32 (TX2 5).1 (TX2 5).2.1 (TX2 5).2.2.1 ∈ TB ∨ ∃ host : String, Cond.fieldLinkNest RX2 32 (TX2 5).1 (TX2 5).2.1 (TX2 5).2.2.1 host ∈ TB := Or.inl (tb_mem 161 (by decide +kernel) (by decide +kernel))
set_option maxRecDepth 20000 in
theorem kF_X2_32 : mFld RX2 32 2 5 := ⟨RX2, TX2, 6, rfl, by decide, inX2, kL_X2_32⟩
set_option maxRecDepth 20000 in
theorem kP_X2_32 : mFldP RX2 32 2 5 .int := ⟨RX2, TX2, 6, tyX2, rfl, by decide, inX2, kL_X2_32, tyX2_ok, nmX2, by decide, by decide +kernel⟩
set_option maxRecDepth 20000 in
theorem kL_X6_145 : Cond.fieldLink RX6 145 (TX2 5).1 (TX2 5).2.1 (TX2 5).2.2.1 ∈ TB ∨ ∃ host : String, Cond.fieldLinkNest RX6 145 (TX2 5).1 (TX2 5).2.1 (TX2 5).2.2.1 host ∈ TB := Or.inr ⟨"SwapCalls", tb_mem 162 (by decide +kernel) (by decide +kernel)⟩
set_option maxRecDepth 20000 in
theorem kF_X6_145 : mFld RX6 145 2 5 := ⟨RX2, TX2, 6, rfl, by decide, inX2, kL_X6_145⟩
set_option maxRecDepth 20000 in
theorem kP_X6_145 : mFldP RX6 145 2 5 .int := ⟨RX2, TX2, 6, tyX2, rfl, by decide, inX2, kL_X6_145, tyX2_ok, nmX2, by decide, by decide +kernel⟩
set_option maxRecDepth 20000 in
theorem kL_X3_9 : Cond.fieldLink RX3 9 (TX3 0).1 (TX3 0).2.1 (TX3 0).2.2.1 ∈ TB ∨ ∃ host : String, Cond.fieldLinkNest RX3 9 (TX3 0).1 (TX3 0).2.1 (TX3 0).2.2.1 host ∈ TB := Or.inl (tb_mem 182 (by decide +kernel) (by decide +kernel))
set_option maxRecDepth 20000 in
theorem kF_X3_9 : mFld RX3 9 3 0 := ⟨RX3, TX3, 5, rfl, by decide, inX3, kL_X3_9⟩
set_option maxRecDepth 20000 in
theorem kL_X6_166 : Cond.fieldLink RX6 166 (TX3 0).1 (TX3 0).2.1 (TX3 0).2.2.1 ∈ TB ∨ ∃ host : String, Cond.fieldLinkNest RX6 166 (TX3 0).1 (TX3 0).2.1 (TX3 0).2.2.1 host ∈ TB := Or.inr ⟨"SwapCalls", tb_mem 183 (by decide +kernel) (by decide +kernel)⟩
set_option maxRecDepth 20000 in
theorem kF_X6_166 : mFld RX6 166 3 0 := ⟨RX3, TX3, 5, rfl, by decide, inX3, kL_X6_166⟩
set_option maxRecDepth 20000 in
theorem kL_X3_15 : Cond.fieldLink RX3 15 (TX3 1).1 (TX3 1).2.1 (TX3 1).2.2.1 ∈ TB ∨ ∃ host : String, Cond.fieldLinkNest RX3 15 (TX3 1).1 (TX3 1).2.1 (TX3 1).2.2.1 host ∈ TB := Or.inl (tb_mem 184 (by decide +kernel) (by decide +kernel))
set_option maxRecDepth 20000 in
theorem kF_X3_15 : mFld RX3 15 3 1 := ⟨RX3, TX3, 5, rfl, by decide, inX3, kL_X3_15⟩
set_option maxRecDepth 20000 in
theorem kL_X6_169 : Cond.fieldLink RX6 169 (TX3 1).1 (TX3 1).2.1 (TX3 1).2.2.1 ∈ TB ∨ ∃ host : String, Cond.fieldLinkNest RX6 169 (TX3 1).1 (TX3 1).2.1 (TX3 1).2.2.1 host ∈ TB := Or.inr ⟨"SwapCalls", tb_mem 185 (by decide +kernel) (by decide +kernel)⟩
set_option maxRecDepth 20000 in
theorem kF_X6_169 : mFld RX6 169 3 1 := ⟨RX3, TX3, 5, rfl, by decide, inX3, kL_X6_169⟩
set_option maxRecDepth 20000 in
theorem kL_X3_18 : Cond.fieldLink RX3 18 (TX3 2).1 (TX3 2).2.1 (TX3 2).2.2.1 ∈ TB ∨ ∃ host : String, Cond.fieldLinkNest RX3 18 (TX3 2).1 (TX3 2).2.1 (TX3 2).2.2.1 host ∈ TB := Or.inl (tb_mem 186 (by decide +kernel) (by decide +kernel))
set_option maxRecDepth 20000 in
theorem kF_X3_18 : mFld RX3 18 3 2 := ⟨RX3, TX3, 5, rfl, by decide, inX3, kL_X3_18⟩
set_option maxRecDepth 20000 in
theorem kP_X3_18 : mFldP RX3 18 3 2 .int := ⟨RX3, TX3, 5, tyX3, rfl, by decide, inX3, kL_X3_18, tyX3_ok, nmX3, by decide, by decide +kernel⟩
set_option maxRecDepth 20000 in
theorem kL_X6_160 : Cond.fieldLink RX6 160 (TX3 2).1 (TX3 2).2.1 (TX3 2).2.2.1 ∈ TB ∨ ∃ host : String, Cond.fieldLinkNest RX6 160 (TX3 2).1 (TX3 2).2.1 (TX3 2).2.2.1 host ∈ TB := Or.inr ⟨"SwapCalls", tb_mem 187 (by decide +kernel) (by decide +kernel)⟩
set_option maxRecDepth 20000 in
theorem kF_X6_160 : mFld RX6 160 3 2 := ⟨RX3, TX3, 5, rfl, by decide, inX3, kL_X6_160⟩
set_option maxRecDepth 20000 in
theorem kP_X6_160 : mFldP RX6 160 3 2 .int := ⟨RX3, TX3, 5, tyX3, rfl, by decide, inX3, kL_X6_160, tyX3_ok, nmX3, by decide, by decide +kernel⟩
set_option maxRecDepth 20000 in
theorem kL_X3_22 : Cond.fieldLink RX3 22 (TX3 3).1 (TX3 3).2.1 (TX3 3).2.2.1 ∈ TB ∨ ∃ host : String, Cond.fieldLinkNest RX3 22 (TX3 3).1 (TX3 3).2.1 (TX3 3).2.2.1 host ∈ TB := Or.inl (tb_mem 188 (by decide +kernel) (by decide +kernel))
set_option maxRecDepth 20000 in
theorem kF_X3_22 : mFld RX3 22 3 3 := ⟨RX3, TX3, 5, rfl, by decide, inX3, kL_X3_22⟩
set_option maxRecDepth 20000 in
theorem kP_X3_22 : mFldP RX3 22 3 3 .int := ⟨RX3, TX3, 5, tyX3, rfl, by decide, inX3, kL_X3_22, tyX3_ok, nmX3, by decide, by decide +kernel⟩
set_option maxRecDepth 20000 in
theorem kL_X6_163 : Cond.fieldLink RX6 163 (TX3 3).1 (TX3 3).2.1 (TX3 3).2.2.1 ∈ TB ∨ ∃ host : String, Cond.fieldLinkNest RX6 163 (TX3 3).1 (TX3 3).2.1 (TX3 3).2.2.1 host ∈ TB := Or.inr ⟨"SwapCalls", tb_mem 189 (by decide +kernel) (by decide +kernel)⟩
set_option maxRecDepth 20000 in
theorem kF_X6_163 : mFld RX6 163 3 3 := ⟨RX3, TX3, 5, rfl, by decide, inX3, kL_X6_163⟩
set_option maxRecDepth 20000 in
theorem kP_X6_163 : mFldP RX6 163 3 3 .int := ⟨RX3, TX3, 5, tyX3, rfl, by decide, inX3, kL_X6_163, tyX3_ok, nmX3, by decide, by decide +kernel⟩
set_option maxRecDepth 20000 in
theorem kL_X3_25 : Cond.fieldLink RX3 25 (TX3 4).1 (TX3 4).2.1 (TX3 4).2.2.1 ∈ TB ∨ ∃ host : String, Cond.fieldLinkNest RX3 25 (TX3 4).1 (TX3 4).2.1 (TX3 4).2.2.1 host ∈ TB := Or.inl (tb_mem 190 (by decide +kernel) (by decide +kernel))
set_option maxRecDepth 20000 in
theorem kF_X3_25 : mFld RX3 25 3 4 := ⟨RX3, TX3, 5, rfl, by decide, inX3, kL_X3_25⟩
set_option maxRecDepth 20000 in
theorem kP_X3_25 : mFldP RX3 25 3 4 .int := ⟨RX3, TX3, 5, tyX3, rfl, by decide, inX3, kL_X3_25, tyX3_ok, nmX3, by decide, by decide +kernel⟩
set_option maxRecDepth 20000 in
theorem kL_X5_9 : Cond.fieldLink RX5 9 (TX5 0).1 (TX5 0).2.1 (TX5 0).2.2.1 ∈ TB ∨ ∃ host : String, Cond.fieldLinkNest RX5 9 (TX5 0).1 (TX5 0).2.1 (TX5 0).2.2.1 host ∈ TB := Or.inl (tb_mem 207 (by decide +kernel) (by decide +kernel))
set_option maxRecDepth 20000 in
theorem kF_X5_9 : mFld RX5 9 5 0 := ⟨RX5, TX5, 12, rfl, by decide, inX5, kL_X5_9⟩
set_option maxRecDepth 20000 in
theorem kL_X5_15 : Cond.fieldLink RX5 15 (TX5 1).1 (TX5 1).2.1 (TX5 1).2.2.1 ∈ TB ∨ ∃ host : String, Cond.fieldLinkNest RX5 15 (TX5 1).1 (TX5 1).2.1 (TX5 1).2.2.1 host ∈ TB := Or.inl (tb_mem 208 (by decide +kernel) (by decide +kernel))
set_option maxRecDepth 20000 in
theorem kF_X5_15 : mFld RX5 15 5 1 := ⟨RX5, TX5, 12, rfl, by decide, inX5, kL_X5_15⟩
set_option maxRecDepth 20000 in
theorem kP_X5_15 : mFldP RX5 15 5 1 .int := ⟨RX5, TX5, 12, tyX5, rfl, by decide, inX5, kL_X5_15, tyX5_ok, nmX5, by decide, by decide +kernel⟩
set_option maxRecDepth 20000 in
theorem kL_X6_62 : Cond.fieldLink RX6 62 (TX5 1).1 (TX5 1).2.1 (TX5 1).2.2.1 ∈ TB ∨ ∃ host : String, Cond.fieldLinkNest RX6 62 (TX5 1).1 (TX5 1).2.1 (TX5 1).2.2.1 host ∈ TB := Or.inr ⟨"SwapCalls", tb_mem 209 (by decide +kernel) (by decide +kernel)⟩
set_option maxRecDepth 20000 in
theorem kF_X6_62 : mFld RX6 62 5 1 := ⟨RX5, TX5, 12, rfl, by decide, inX5, kL_X6_62⟩
set_option maxRecDepth 20000 in
theorem kP_X6_62 : mFldP RX6 62 5 1 .int := ⟨RX5, TX5, 12, tyX5, rfl, by decide, inX5, kL_X6_62, tyX5_ok, nmX5, by decide, by decide +kernel⟩
set_option maxRecDepth 20000 in
theorem kL_X5_19 : Cond.fieldLink RX5 19 (TX5 2).1 (TX5 2).2.1 (TX5 2).2.2.1 ∈ TB ∨ ∃ host : String, Cond.fieldLinkNest RX5 19 (TX5 2).1 (TX5 2).2.1 (TX5 2).2.2.1 host ∈ TB := Or.inl (tb_mem 210 (by decide +kernel) (by decide +kernel))
set_option maxRecDepth 20000 in
theorem kF_X5_19 : mFld RX5 19 5 2 := ⟨RX5, TX5, 12, rfl, by decide, inX5, kL_X5_19⟩
set_option maxRecDepth 20000 in
theorem kP_X5_19 : mFldP RX5 19 5 2 .int := ⟨RX5, TX5, 12, tyX5, rfl, by decide, inX5, kL_X5_19, tyX5_ok, nmX5, by decide, by decide +kernel⟩
set_option maxRecDepth 20000 in
theorem kL_X6_76 : Cond.fieldLink RX6 76 (TX5 2).1 (TX5 2).2.1 (TX5 2).2.2.1 ∈ TB ∨ ∃ host : String, Cond.fieldLinkNest RX6 76 (TX5 2).1 (TX5 2).2.1 (TX5 2).2.2.1 host ∈ TB := Or.inr ⟨"SwapCalls", tb_mem 211 (by decide +kernel) (by decide +kernel)⟩
set_option maxRecDepth 20000 in
theorem kF_X6_76 : mFld RX6 76 5 2 := ⟨RX5, TX5, 12, rfl, by decide, inX5, kL_X6_76⟩
set_option maxRecDepth 20000 in
theorem kP_X6_76 : mFldP RX6 76 5 2 .int := ⟨RX5, TX5, 12, tyX5, rfl, by decide, inX5, kL_X6_76, tyX5_ok, nmX5, by decide, by decide +kernel⟩
set_option maxRecDepth 20000 in
theorem kL_X0_60 : Cond.fieldLink RX0 60 (TX5 2).1 (TX5 2).2.1 (TX5 2).2.2.1 ∈ TB ∨ ∃ host : String, Cond.fieldLinkNest RX0 60 (TX5 2).1 (TX5 2).2.1 (TX5 2).2.2.1 host ∈ TB := Or.inr ⟨"SwapCalls", tb_mem 212 (by decide +kernel) (by decide +kernel)⟩
set_option maxRecDepth 20000 in
theorem kF_X0_60 : mFld RX0 60 5 2 := ⟨RX5, TX5, 12, rfl, by decide, inX5, kL_X0_60⟩
set_option maxRecDepth 20000 in
theorem kP_X0_60 : mFldP RX0 60 5 2 .int := ⟨RX5, TX5, 12, tyX5, rfl, by decide, inX5, kL_X0_60, tyX5_ok, nmX5, by decide, by decide +kernel⟩
set_option maxRecDepth 20000 in
theorem kL_X5_22 : Cond.fieldLink RX5 22 (TX5 3).1 (TX5 3).2.1 (TX5 3).2.2.1 ∈ TB ∨ ∃ host : String, Cond.fieldLinkNest RX5 22 (TX5 3).1 (TX5 3).2.1 (TX5 3).2.2.1 host ∈ TB := Or.inl (tb_mem 213 (by decide +kernel) (by decide +kernel))
set_option maxRecDepth 20000 in
theorem kF_X5_22 : mFld RX5 22 5 3 := ⟨RX5, TX5, 12, rfl, by decide, inX5, kL_X5_22⟩
set_option maxRecDepth 20000 in
theorem kL_X3_61 : Cond.fieldLink RX3 61 (TX5 3).1 (TX5 3).2.1 (TX5 3).2.2.1 ∈ TB ∨ ∃ host : String, Cond.fieldLinkNest RX3 61 (TX5 3).1 (TX5 3).2.1 (TX5 3).2.2.1 host ∈ TB := Or.inr ⟨"SwapCalls", tb_mem 214 (by decide +kernel) (by decide +kernel)⟩
set_option maxRecDepth 20000 in
theorem kF_X3_61 : mFld RX3 61 5 3 := ⟨RX5, TX5, 12, rfl, by decide, inX5, kL_X3_61⟩
set_option maxRecDepth 20000 in
theorem kL_X0_83 : Cond.fieldLink RX0 83 (TX5 3).1 (TX5 3).2.1 (TX5 3).2.2.1 ∈ TB ∨ ∃ host : String, Cond.fieldLinkNest RX0 83 (TX5 3).1 (TX5 3).2.1 (TX5 3).2.2.1 host ∈ TB := Or.inr ⟨"SwapCalls", tb_mem 215 (by decide +kernel) (by decide +kernel)⟩
set_option maxRecDepth 20000 in
theorem kF_X0_83 : mFld RX0 83 5 3 := ⟨RX5, TX5, 12, rfl, by decide, inX5, kL_X0_83⟩
set_option maxRecDepth 20000 in
theorem kL_X5_25 : Cond.fieldLink RX5 25 (TX5 4).1 (TX5 4).2.1 (TX5 4).2.2.1 ∈ TB ∨ ∃ host : String, Cond.fieldLinkNest RX5 25 (TX5 4).1 (TX5 4).2.1 (TX5 4).2.2.1 host ∈ TB := Or.inl (tb_mem 216 (by decide +kernel) (by decide +kernel))
set_option maxRecDepth 20000 in
theorem kF_X5_25 : mFld RX5 25 5 4 := ⟨RX5, TX5, 12, rfl, by decide, inX5, kL_X5_25⟩
set_option maxRecDepth 20000 in
theorem kL_X3_54 : Cond.fieldLink RX3 54 (TX5 4).1 (TX5 4).2.1 (TX5 4).2.2.1 ∈ TB ∨ ∃ host : String, Cond.fieldLinkNest RX3 54 (TX5 4).1 (TX5 4).2.1 (TX5 4).2.2.1 host ∈ TB := Or.inr ⟨"SwapCalls", tb_mem 217 (by decide +kernel) (by decide +kernel)⟩
set_option maxRecDepth 20000 in
theorem kF_X3_54 : mFld RX3 54 5 4 := ⟨RX5, TX5, 12, rfl, by decide, inX5, kL_X3_54⟩
set_option maxRecDepth 20000 in
theorem kL_X0_76 : Cond.fieldLink RX0 76 (TX5 4).1 (TX5 4).2.1 (TX5 4).2.2.1 ∈ TB ∨ ∃ host : String, Cond.fieldLinkNest RX0 76 (TX5 4).1 (TX5 4).2.1 (TX5 4).2.2.1 host ∈ TB := Or.inr ⟨"SwapCalls", tb_mem 218 (by decide +kernel) (by decide +kernel)⟩
set_option maxRecDepth 20000 in
theorem kF_X0_76 : mFld RX0 76 5 4 := ⟨RX5, TX5, 12, rfl, by decide, inX5, kL_X0_76⟩
set_option maxRecDepth 20000 in
theorem kL_X5_28 : Cond.fieldLink RX5 28 (TX5 5).1 (TX5 5).2.1 (TX5 5).2.2.1 ∈ TB ∨ ∃ host : String, Cond.fieldLinkNest RX5 28 (TX5 5).1 (TX5 5).2.1 (TX5 5).2.2.1 host ∈ TB := Or.inl (tb_mem 219 (by decide +kernel) (by decide +kernel))
set_option maxRecDepth 20000 in
theorem kF_X5_28 : mFld RX5 28 5 5 := ⟨RX5, TX5, 12, rfl, by decide, inX5, kL_X5_28⟩
set_option maxRecDepth 20000 in
theorem kL_X3_64 : Cond.fieldLink RX3 64 (TX5 5).1 (TX5 5).2.1 (TX5 5).2.2.1 ∈ TB ∨ ∃ host : String, Cond.fieldLinkNest RX3 64 (TX5 5).1 (TX5 5).2.1 (TX5 5).2.2.1 host ∈ TB := Or.inr ⟨"SwapCalls", tb_mem 220 (by decide +kernel) (by decide +kernel)⟩
set_option maxRecDepth 20000 in
theorem kF_X3_64 : mFld RX3 64 5 5 := ⟨RX5, TX5, 12, rfl, by decide, inX5, kL_X3_64⟩
set_option maxRecDepth 20000 in
theorem kL_X0_99 : Cond.fieldLink RX0 99 (TX5 5).1 (TX5 5).2.1 (TX5 5).2.2.1 ∈ TB ∨ ∃ host : String, Cond.fieldLinkNest RX0 99 (TX5 5).1 (TX5 5).2.1 (TX5 5).2.2.1 host ∈ TB := Or.inr ⟨"SwapCalls", tb_mem 221 (by decide +kernel) (by decide +kernel)⟩
set_option maxRecDepth 20000 in
theorem kF_X0_99 : mFld RX0 99 5 5 := ⟨RX5, TX5, 12, rfl, by decide, inX5, kL_X0_99⟩
set_option maxRecDepth 20000 in
theorem kL_X5_31 : Cond.fieldLink RX5 31 (TX5 6).1 (TX5 6).2.1 (TX5 6).2.2.1 ∈ TB ∨ ∃ host : String, Cond.fieldLinkNest RX5 31 (TX5 6).1 (TX5 6).2.1 (TX5 6).2.2.1 host ∈ TB := Or.inl (tb_mem 222 (by decide +kernel) (by decide +kernel))
set_option maxRecDepth 20000 in
theorem kF_X5_31 : mFld RX5 31 5 6 := ⟨RX5, TX5, 12, rfl, by decide, inX5, kL_X5_31⟩
set_option maxRecDepth 20000 in
theorem kL_X3_79 : Cond.fieldLink RX3 79 (TX5 6).1 (TX5 6).2.1 (TX5 6).2.2.1 ∈ TB ∨ ∃ host : String, Cond.fieldLinkNest RX3 79 (TX5 6).1 (TX5 6).2.1 (TX5 6).2.2.1 host ∈ TB := Or.inr ⟨"SwapCalls", tb_mem 223 (by decide +kernel) (by decide +kernel)⟩
set_option maxRecDepth 20000 in
theorem kF_X3_79 : mFld RX3 79 5 6 := ⟨RX5, TX5, 12, rfl, by decide, inX5, kL_X3_79⟩
set_option maxRecDepth 20000 in
theorem kL_X5_34 : Cond.fieldLink RX5 34 (TX5 7).1 (TX5 7).2.1 (TX5 7).2.2.1 ∈ TB ∨ ∃ host : String, Cond.fieldLinkNest RX5 34 (TX5 7).1 (TX5 7).2.1 (TX5 7).2.2.1 host ∈ TB := Or.inl (tb_mem 224 (by decide +kernel) (by decide +kernel))
set_option maxRecDepth 20000 in
theorem kF_X5_34 : mFld RX5 34 5 7 := ⟨RX5, TX5, 12, rfl, by decide, inX5, kL_X5_34⟩
set_option maxRecDepth 20000 in
theorem kP_X5_34 : mFldP RX5 34 5 7 .int := ⟨RX5, TX5, 12, tyX5, rfl, by decide, inX5, kL_X5_34, tyX5_ok, nmX5, by decide, by decide +kernel⟩
set_option maxRecDepth 20000 in
theorem kL_X3_49 : Cond.fieldLink RX3 49 (TX5 7).1 (TX5 7).2.1 (TX5 7).2.2.1 ∈ TB ∨ ∃ host : String, Cond.fieldLinkNest RX3 49 (TX5 7).1 (TX5 7).2.1 (TX5 7).2.2.1 host ∈ TB := Or.inr ⟨"SwapCalls", tb_mem 225 (by decide +kernel) (by decide +kernel)⟩
set_option maxRecDepth 20000 in
theorem kF_X3_49 : mFld RX3 49 5 7 := ⟨RX5, TX5, 12, rfl, by decide, inX5, kL_X3_49⟩
set_option maxRecDepth 20000 in
theorem kP_X3_49 : mFldP RX3 49 5 7 .int := ⟨RX5, TX5, 12, tyX5, rfl, by decide, inX5, kL_X3_49, tyX5_ok, nmX5, by decide, by decide +kernel⟩
set_option maxRecDepth 20000 in
theorem kL_X0_73 : Cond.fieldLink RX0 73 (TX5 7).1 (TX5 7).2.1 (TX5 7).2.2.1 ∈ TB ∨ ∃ host : String, Cond.fieldLinkNest RX0 73 (TX5 7).1 (TX5 7).2.1 (TX5 7).2.2.1 host ∈ TB := Or.inr ⟨"SwapCalls", tb_mem 226 (by decide +kernel) (by decide +kernel)⟩
set_option maxRecDepth 20000 in
theorem kF_X0_73 : mFld RX0 73 5 7 := ⟨RX5, TX5, 12, rfl, by decide, inX5, kL_X0_73⟩
set_option maxRecDepth 20000 in
theorem kP_X0_73 : mFldP RX0 73 5 7 .int := ⟨RX5, TX5, 12, tyX5, rfl, by decide, inX5, kL_X0_73, tyX5_ok, nmX5, by decide, by decide +kernel⟩
set_option maxRecDepth 20000 in
theorem kL_X6_192 : Cond.fieldLink RX6 192 (TX5 7).1 (TX5 7).2.1 (TX5 7).2.2.1 ∈ TB ∨ ∃ host : String, Cond.fieldLinkNest RX6 192 (TX5 7).1 (TX5 7).2.1 (TX5 7).2.2.1 host ∈ TB := Or.inr ⟨"SwapCalls", tb_mem 227 (by decide +kernel) (by decide +kernel)⟩
set_option maxRecDepth 20000 in
theorem kF_X6_192 : mFld RX6 192 5 7 := ⟨RX5, TX5, 12, rfl, by decide, inX5, kL_X6_192⟩
set_option maxRecDepth 20000 in
theorem kP_X6_192 : mFldP RX6 192 5 7 .int := ⟨RX5, TX5, 12, tyX5, rfl, by decide, inX5, kL_X6_192, tyX5_ok, nmX5, by decide, by decide +kernel⟩
set_option maxRecDepth 20000 in
theorem kL_X5_37 : Cond.fieldLink RX5 37 (TX5 8).1 (TX5 8).2.1 (TX5 8).2.2.1 ∈ TB ∨ ∃ host : String, Cond.fieldLinkNest RX5 37 (TX5 8).1 (TX5 8).2.1 (TX5 8).2.2.1 host ∈ TB := Or.inl (tb_mem 228 (by decide +kernel) (by decide +kernel))
set_option maxRecDepth 20000 in
theorem kF_X5_37 : mFld RX5 37 5 8 := ⟨RX5, TX5, 12, rfl, by decide, inX5, kL_X5_37⟩
set_option maxRecDepth 20000 in
theorem kL_X3_85 : Cond.fieldLink RX3 85 (TX5 8).1 (TX5 8).2.1 (TX5 8).2.2.1 ∈ TB ∨ ∃ host : String, Cond.fieldLinkNest RX3 85 (TX5 8).1 (TX5 8).2.1 (TX5 8).2.2.1 host ∈ TB := Or.inr ⟨"SwapCalls", tb_mem 229 (by decide +kernel) (by decide +kernel)⟩
set_option maxRecDepth 20000 in
theorem kF_X3_85 : mFld RX3 85 5 8 := ⟨RX5, TX5, 12, rfl, by decide, inX5, kL_X3_85⟩
set_option maxRecDepth 20000 in
theorem kL_X0_89 : Cond.fieldLink RX0 89 (TX5 8).1 (TX5 8).2.1 (TX5 8).2.2.1 ∈ TB ∨ ∃ host : String, Cond.fieldLinkNest RX0 89 (TX5 8).1 (TX5 8).2.1 (TX5 8).2.2.1 host ∈ TB := Or.inr ⟨"SwapCalls", tb_mem 230 (by decide +kernel) (by decide +kernel)⟩
set_option maxRecDepth 20000 in
theorem kF_X0_89 : mFld RX0 89 5 8 := ⟨RX5, TX5, 12, rfl, by decide, inX5, kL_X0_89⟩
set_option maxRecDepth 20000 in
theorem kL_X5_40 : Cond.fieldLink RX5 40 (TX5 9).1 (TX5 9).2.1 (TX5 9).2.2.1 ∈ TB ∨ ∃ host : String, Cond.fieldLinkNest RX5 40 (TX5 9).1 (TX5 9).2.1 (TX5 9).2.2.1 host ∈ TB := Or.inl (tb_mem 231 (by decide +kernel) (by decide +kernel))
set_option maxRecDepth 20000 in
theorem kF_X5_40 : mFld RX5 40 5 9 := ⟨RX5, TX5, 12, rfl, by decide, inX5, kL_X5_40⟩
set_option maxRecDepth 20000 in
theorem kL_X3_82 : Cond.fieldLink RX3 82 (TX5 9).1 (TX5 9).2.1 (TX5 9).2.2.1 ∈ TB ∨ ∃ host : String, Cond.fieldLinkNest RX3 82 (TX5 9).1 (TX5 9).2.1 (TX5 9).2.2.1 host ∈ TB := Or.inr ⟨"SwapCalls", tb_mem 232 (by decide +kernel) (by decide +kernel)⟩
set_option maxRecDepth 20000 in
theorem kF_X3_82 : mFld RX3 82 5 9 := ⟨RX5, TX5, 12, rfl, by decide, inX5, kL_X3_82⟩
set_option maxRecDepth 20000 in
theorem kL_X0_92 : Cond.fieldLink RX0 92 (TX5 9).1 (TX5 9).2.1 (TX5 9).2.2.1 ∈ TB ∨ ∃ host : String, Cond.fieldLinkNest RX0 92 (TX5 9).1 (TX5 9).2.1 (TX5 9).2.2.1 host ∈ TB := Or.inr ⟨"SwapCalls", tb_mem 233 (by decide +kernel) (by decide +kernel)⟩
set_option maxRecDepth 20000 in
theorem kF_X0_92 : mFld RX0 92 5 9 := ⟨RX5, TX5, 12, rfl, by decide, inX5, kL_X0_92⟩
set_option maxRecDepth 20000 in
theorem kL_X5_43 : Cond.fieldLink RX5 43 (TX5 10).1 (TX5 10).2.1 (TX5 10).2.2.1 ∈ TB ∨ ∃ host : String, Cond.fieldLinkNest RX5 43 (TX5 10).1 (TX5 10).2.1 (TX5 10).2.2.1 host ∈ TB := Or.inl (tb_mem 234 (by decide +kernel) (by decide +kernel))
set_option maxRecDepth 20000 in
theorem kF_X5_43 : mFld RX5 43 5 10 := ⟨RX5, TX5, 12, rfl, by decide, inX5, kL_X5_43⟩
set_option maxRecDepth 20000 in
theorem kP_X5_43 : mFldP RX5 43 5 10 .int := ⟨RX5, TX5, 12, tyX5, rfl, by decide, inX5, kL_X5_43, tyX5_ok, nmX5, by decide, by decide +kernel⟩
set_option maxRecDepth 20000 in
theorem kL_X0_86 : Cond.fieldLink RX0 86 (TX5 10).1 (TX5 10).2.1 (TX5 10).2.2.1 ∈ TB ∨ ∃ host : String, Cond.fieldLinkNest RX0 86 (TX5 10).1 (TX5 10).2.1 (TX5 10).2.2.1 host ∈ TB := Or.inr ⟨"SwapCalls", tb_mem 235 (by decide +kernel) (by decide +kernel)⟩
set_option maxRecDepth 20000 in
theorem kF_X0_86 : mFld RX0 86 5 10 := ⟨RX5, TX5, 12, rfl, by decide, inX5, kL_X0_86⟩
set_option maxRecDepth 20000 in
theorem kP_X0_86 : mFldP RX0 86 5 10 .int := ⟨RX5, TX5, 12, tyX5, rfl, by decide, inX5, kL_X0_86, tyX5_ok, nmX5, by decide, by decide +kernel⟩
set_option maxRecDepth 20000 in
theorem kL_X5_46 : Cond.fieldLink RX5 46 (TX5 11).1 (TX5 11).2.1 (TX5 11).2.2.1 ∈ TB ∨ ∃ host : String, Cond.fieldLinkNest RX5 46 (TX5 11).1 (TX5 11).2.1 (TX5 11).2.2.1 host ∈ TB := Or.inl (tb_mem 236 (by decide +kernel) (by decide +kernel))
set_option maxRecDepth 20000 in
theorem kF_X5_46 : mFld RX5 46 5 11 := ⟨RX5, TX5, 12, rfl, by decide, inX5, kL_X5_46⟩
set_option maxRecDepth 20000 in
theorem kP_X5_46 : mFldP RX5 46 5 11 .int := ⟨RX5, TX5, 12, tyX5, rfl, by decide, inX5, kL_X5_46, tyX5_ok, nmX5, by decide, by decide +kernel⟩
set_option maxRecDepth 20000 in
theorem kL_X1_9 : Cond.fieldLink RX1 9 (TX1 0).1 (TX1 0).2.1 (TX1 0).2.2.1 ∈ TB ∨ ∃ host : String, Cond.fieldLinkNest RX1 9 (TX1 0).1 (TX1 0).2.1 (TX1 0).2.2.1 host ∈ TB := Or.inl (tb_mem 269 (by decide +kernel) (by decide +kernel))
set_option maxRecDepth 20000 in
theorem kF_X1_9 : mFld RX1 9 1 0 := ⟨RX1, TX1, 3, rfl, by decide, inX1, kL_X1_9⟩
set_option maxRecDepth 20000 in
theorem kL_X6_182 : Cond.fieldLink RX6 182 (TX1 0).1 (TX1 0).2.1 (TX1 0).2.2.1 ∈ TB ∨ ∃ host : String, Cond.fieldLinkNest RX6 182 (TX1 0).1 (TX1 0).2.1 (TX1 0).2.2.1 host ∈ TB := Or.inr ⟨"SwapCalls", tb_mem 270 (by decide +kernel) (by decide +kernel)⟩
set_option maxRecDepth 20000 in
theorem kF_X6_182 : mFld RX6 182 1 0 := ⟨RX1, TX1, 3, rfl, by decide, inX1, kL_X6_182⟩
set_option maxRecDepth 20000 in
theorem kL_X1_18 : Cond.fieldLink RX1 18 (TX1 1).1 (TX1 1).2.1 (TX1 1).2.2.1 ∈ TB ∨ ∃ host : String, Cond.fieldLinkNest RX1 18 (TX1 1).1 (TX1 1).2.1 (TX1 1).2.2.1 host ∈ TB := Or.inl (tb_mem 271 (by decide +kernel) (by decide +kernel))
set_option maxRecDepth 20000 in
theorem kF_X1_18 : mFld RX1 18 1 1 := ⟨RX1, TX1, 3, rfl, by decide, inX1, kL_X1_18⟩
set_option maxRecDepth 20000 in
theorem kL_X6_151 : Cond.fieldLink RX6 151 (TX1 1).1 (TX1 1).2.1 (TX1 1).2.2.1 ∈ TB ∨ ∃ host : String, Cond.fieldLinkNest RX6 151 (TX1 1).1 (TX1 1).2.1 (TX1 1).2.2.1 host ∈ TB := Or.inr ⟨"SwapCalls", tb_mem 272 (by decide +kernel) (by decide +kernel)⟩
set_option maxRecDepth 20000 in
theorem kF_X6_151 : mFld RX6 151 1 1 := ⟨RX1, TX1, 3, rfl, by decide, inX1, kL_X6_151⟩
set_option maxRecDepth 20000 in
theorem kL_X1_22 : Cond.fieldLink RX1 22 (TX1 2).1 (TX1 2).2.1 (TX1 2).2.2.1 ∈ TB ∨ ∃ host : String, Cond.fieldLinkNest RX1 22 (TX1 2).1 (TX1 2).2.1 (TX1 2).2.2.1 host ∈ TB := Or.inl (tb_mem 273 (by decide +kernel) (by decide +kernel))
set_option maxRecDepth 20000 in
theorem kF_X1_22 : mFld RX1 22 1 2 := ⟨RX1, TX1, 3, rfl, by decide, inX1, kL_X1_22⟩
set_option maxRecDepth 20000 in
theorem kP_X1_22 : mFldP RX1 22 1 2 .boolean := ⟨RX1, TX1, 3, tyX1, rfl, by decide, inX1, kL_X1_22, tyX1_ok, nmX1, by decide, by decide +kernel⟩
set_option maxRecDepth 20000 in
theorem kL_X6_127 : Cond.fieldLink RX6 127 (TX1 2).1 (TX1 2).2.1 (TX1 2).2.2.1 ∈ TB ∨ ∃ host : String, Cond.fieldLinkNest RX6 127 (TX1 2).1 (TX1 2).2.1 (TX1 2).2.2.1 host ∈ TB := Or.inr ⟨"SwapCalls", tb_mem 274 (by decide +kernel) (by decide +kernel)⟩
set_option maxRecDepth 20000 in
theorem kF_X6_127 : mFld RX6 127 1 2 := ⟨RX1, TX1, 3, rfl, by decide, inX1, kL_X6_127⟩
set_option maxRecDepth 20000 in
theorem kP_X6_127 : mFldP RX6 127 1 2 .boolean := ⟨RX1, TX1, 3, tyX1, rfl, by decide, inX1, kL_X6_127, tyX1_ok, nmX1, by decide, by decide +kernel⟩
set_option maxRecDepth 20000 in
theorem kL_X6_11 : Cond.fieldLink RX6 11 (TX6 0).1 (TX6 0).2.1 (TX6 0).2.2.1 ∈ TB ∨ ∃ host : String, Cond.fieldLinkNest RX6 11 (TX6 0).1 (TX6 0).2.1 (TX6 0).2.2.1 host ∈ TB := Or.inl (tb_mem 282 (by decide +kernel) (by decide +kernel))
set_option maxRecDepth 20000 in
theorem kF_X6_11 : mFld RX6 11 6 0 := ⟨RX6, TX6, 8, rfl, by decide, inX6, kL_X6_11⟩
set_option maxRecDepth 20000 in
theorem kL_X6_18 : Cond.fieldLink RX6 18 (TX6 1).1 (TX6 1).2.1 (TX6 1).2.2.1 ∈ TB ∨ ∃ host : String, Cond.fieldLinkNest RX6 18 (TX6 1).1 (TX6 1).2.1 (TX6 1).2.2.1 host ∈ TB := Or.inl (tb_mem 283 (by decide +kernel) (by decide +kernel))
set_option maxRecDepth 20000 in
theorem kF_X6_18 : mFld RX6 18 6 1 := ⟨RX6, TX6, 8, rfl, by decide, inX6, kL_X6_18⟩
set_option maxRecDepth 20000 in
theorem kL_X6_22 : Cond.fieldLink RX6 22 (TX6 2).1 (TX6 2).2.1 (TX6 2).2.2.1 ∈ TB ∨ ∃ host : String, Cond.fieldLinkNest RX6 22 (TX6 2).1 (TX6 2).2.1 (TX6 2).2.2.1 host ∈ TB := Or.inl (tb_mem 284 (by decide +kernel) (by decide +kernel))
set_option maxRecDepth 20000 in
theorem kF_X6_22 : mFld RX6 22 6 2 := ⟨RX6, TX6, 8, rfl, by decide, inX6, kL_X6_22⟩
set_option maxRecDepth 20000 in
theorem kL_X6_29 : Cond.fieldLink RX6 29 (TX6 3).1 (TX6 3).2.1 (TX6 3).2.2.1 ∈ TB ∨ ∃ host : String, Cond.fieldLinkNest RX6 29 (TX6 3).1 (TX6 3).2.1 (TX6 3).2.2.1 host ∈ TB := Or.inl (tb_mem 285 (by decide +kernel) (by decide +kernel))
set_option maxRecDepth 20000 in
theorem kF_X6_29 : mFld RX6 29 6 3 := ⟨RX6, TX6, 8, rfl, by decide, inX6, kL_X6_29⟩
set_option maxRecDepth 20000 in
theorem kL_X6_35 : Cond.fieldLink RX6 35 (TX6 4).1 (TX6 4).2.1 (TX6 4).2.2.1 ∈ TB ∨ ∃ host : String, Cond.fieldLinkNest RX6 35 (TX6 4).1 (TX6 4).2.1 (TX6 4).2.2.1 host ∈ TB := Or.inl (tb_mem 286 (by decide +kernel) (by decide +kernel))
set_option maxRecDepth 20000 in
theorem kF_X6_35 : mFld RX6 35 6 4 := ⟨RX6, TX6, 8, rfl, by decide, inX6, kL_X6_35⟩
set_option maxRecDepth 20000 in
theorem kL_X6_42 : Cond.fieldLink RX6 42 (TX6 5).1 (TX6 5).2.1 (TX6 5).2.2.1 ∈ TB ∨ ∃ host : String, Cond.fieldLinkNest RX6 42 (TX6 5).1 (TX6 5).2.1 (TX6 5).2.2.1 host ∈ TB := Or.inl (tb_mem 287 (by decide +kernel) (by decide +kernel))
set_option maxRecDepth 20000 in
theorem kF_X6_42 : mFld RX6 42 6 5 := ⟨RX6, TX6, 8, rfl, by decide, inX6, kL_X6_42⟩
set_option maxRecDepth 20000 in
theorem kL_X6_46 : Cond.fieldLink RX6 46 (TX6 6).1 (TX6 6).2.1 (TX6 6).2.2.1 ∈ TB ∨ ∃ host : String, Cond.fieldLinkNest RX6 46 (TX6 6).1 (TX6 6).2.1 (TX6 6).2.2.1 host ∈ TB := Or.inl (tb_mem 288 (by decide +kernel) (by decide +kernel))
set_option maxRecDepth 20000 in
theorem kF_X6_46 : mFld RX6 46 6 6 := ⟨RX6, TX6, 8, rfl, by decide, inX6, kL_X6_46⟩
set_option maxRecDepth 20000 in
theorem kL_X6_52 : Cond.fieldLink RX6 52 (TX6 7).1 (TX6 7).2.1 (TX6 7).2.2.1 ∈ TB ∨ ∃ host : String, Cond.fieldLinkNest RX6 52 (TX6 7).1 (TX6 7).2.1 (TX6 7).2.2.1 host ∈ TB := Or.inl (tb_mem 289 (by decide +kernel) (by decide +kernel))
set_option maxRecDepth 20000 in
theorem kF_X6_52 : mFld RX6 52 6 7 := ⟨RX6, TX6, 8, rfl, by decide, inX6, kL_X6_52⟩
set_option maxRecDepth 20000 in
theorem kL_X7_7 : Cond.fieldLink RX7 7 (TX7 0).1 (TX7 0).2.1 (TX7 0).2.2.1 ∈ TB ∨ ∃ host : String, Cond.fieldLinkNest RX7 7 (TX7 0).1 (TX7 0).2.1 (TX7 0).2.2.1 host ∈ TB := Or.inl (tb_mem 603 (by decide +kernel) (by decide +kernel))
set_option maxRecDepth 20000 in
theorem kF_X7_7 : mFld RX7 7 7 0 := ⟨RX7, TX7, 39, rfl, by decide, inX7, kL_X7_7⟩
set_option maxRecDepth 20000 in
theorem kL_X7_13 : Cond.fieldLink RX7 13 (TX7 1).1 (TX7 1).2.1 (TX7 1).2.2.1 ∈ TB ∨ ∃ host : String, Cond.fieldLinkNest RX7 13 (TX7 1).1 (TX7 1).2.1 (TX7 1).2.2.1 host ∈ TB := Or.inl (tb_mem 604 (by decide +kernel) (by decide +kernel))
set_option maxRecDepth 20000 in
theorem kF_X7_13 : mFld RX7 13 7 1 := ⟨RX7, TX7, 39, rfl, by decide, inX7, kL_X7_13⟩
set_option maxRecDepth 20000 in
theorem kL_X7_16 : Cond.fieldLink RX7 16 (TX7 2).1 (TX7 2).2.1 (TX7 2).2.2.1 ∈ TB ∨ ∃ host : String, Cond.fieldLinkNest RX7 16 (TX7 2).1 (TX7 2).2.1 (TX7 2).2.2.1 host ∈ TB := Or.inl (tb_mem 605 (by decide +kernel) (by decide +kernel))
set_option maxRecDepth 20000 in
theorem kF_X7_16 : mFld RX7 16 7 2 := ⟨RX7, TX7, 39, rfl, by decide, inX7, kL_X7_16⟩
set_option maxRecDepth 20000 in
theorem kL_X7_19 : Cond.fieldLink RX7 19 (TX7 3).1 (TX7 3).2.1 (TX7 3).2.2.1 ∈ TB ∨ ∃ host : String, Cond.fieldLinkNest RX7 19 (TX7 3).1 (TX7 3).2.1 (TX7 3).2.2.1 host ∈ TB := Or.inl (tb_mem 606 (by decide +kernel) (by decide +kernel))
set_option maxRecDepth 20000 in
theorem kF_X7_19 : mFld RX7 19 7 3 := ⟨RX7, TX7, 39, rfl, by decide, inX7, kL_X7_19⟩
set_option maxRecDepth 20000 in
theorem kL_X7_22 : Cond.fieldLink RX7 22 (TX7 4).1 (TX7 4).2.1 (TX7 4).2.2.1 ∈ TB ∨ ∃ host : String, Cond.fieldLinkNest RX7 22 (TX7 4).1 (TX7 4).2.1 (TX7 4).2.2.1 host ∈ TB := Or.inl (tb_mem 607 (by decide +kernel) (by decide +kernel))
set_option maxRecDepth 20000 in
theorem kF_X7_22 : mFld RX7 22 7 4 := ⟨RX7, TX7, 39, rfl, by decide, inX7, kL_X7_22⟩
set_option maxRecDepth 20000 in
theorem kL_X7_203 : Cond.fieldLink RX7 203 (TX7 5).1 (TX7 5).2.1 (TX7 5).2.2.1 ∈ TB ∨ ∃ host : String, Cond.fieldLinkNest RX7 203 (TX7 5).1 (TX7 5).2.1 (TX7 5).2.2.1 host ∈ TB := Or.inl (tb_mem 608 (by decide +kernel) (by decide +kernel))
set_option maxRecDepth 20000 in
theorem kF_X7_203 : mFld RX7 203 7 5 := ⟨RX7, TX7, 39, rfl, by decide, inX7, kL_X7_203⟩
set_option maxRecDepth 20000 in
theorem kP_X7_203 : mFldP RX7 203 7 5 .int := ⟨RX7, TX7, 39, tyX7, rfl, by decide, inX7, kL_X7_203, tyX7_ok, nmX7, by decide, by decide +kernel⟩
set_option maxRecDepth 20000 in
theorem kL_X7_95 : Cond.fieldLink RX7 95 (TX7 6).1 (TX7 6).2.1 (TX7 6).2.2.1 ∈ TB ∨ ∃ host : String, Cond.fieldLinkNest RX7 95 (TX7 6).1 (TX7 6).2.1 (TX7 6).2.2.1 host ∈ TB := Or.inl (tb_mem 609 (by decide +kernel) (by decide +kernel))
set_option maxRecDepth 20000 in
theorem kF_X7_95 : mFld RX7 95 7 6 := ⟨RX7, TX7, 39, rfl, by decide, inX7, kL_X7_95⟩
set_option maxRecDepth 20000 in
theorem kP_X7_95 : mFldP RX7 95 7 6 .int := ⟨RX7, TX7, 39, tyX7, rfl, by decide, inX7, kL_X7_95, tyX7_ok, nmX7, by decide, by decide +kernel⟩
set_option maxRecDepth 20000 in
theorem kL_X7_99 : Cond.fieldLink RX7 99 (TX7 7).1 (TX7 7).2.1 (TX7 7).2.2.1 ∈ TB ∨ ∃ host : String, Cond.fieldLinkNest RX7 99 (TX7 7).1 (TX7 7).2.1 (TX7 7).2.2.1 host ∈ TB := Or.inl (tb_mem 610 (by decide +kernel) (by decide +kernel))
set_option maxRecDepth 20000 in
theorem kF_X7_99 : mFld RX7 99 7 7 := ⟨RX7, TX7, 39, rfl, by decide, inX7, kL_X7_99⟩
set_option maxRecDepth 20000 in
theorem kP_X7_99 : mFldP RX7 99 7 7 .int := ⟨RX7, TX7, 39, tyX7, rfl, by decide, inX7, kL_X7_99, tyX7_ok, nmX7, by decide, by decide +kernel⟩
set_option maxRecDepth 20000 in
theorem kL_X7_112 : Cond.fieldLink RX7 112 (TX7 8).1 (TX7 8).2.1 (TX7 8).2.2.1 ∈ TB ∨ ∃ host : String, Cond.fieldLinkNest RX7 112 (TX7 8).1 (TX7 8).2.1 (TX7 8).2.2.1 host ∈ TB := Or.inl (tb_mem 611 (by decide +kernel) (by decide +kernel))
set_option maxRecDepth 20000 in
theorem kF_X7_112 : mFld RX7 112 7 8 := ⟨RX7, TX7, 39, rfl, by decide, inX7, kL_X7_112⟩
set_option maxRecDepth 20000 in
theorem kP_X7_112 : mFldP RX7 112 7 8 .int := ⟨RX7, TX7, 39, tyX7, rfl, by decide, inX7, kL_X7_112, tyX7_ok, nmX7, by decide, by decide +kernel⟩
set_option maxRecDepth 20000 in
theorem kL_X7_115 : Cond.fieldLink RX7 115 (TX7 9).1 (TX7 9).2.1 (TX7 9).2.2.1 ∈ TB ∨ ∃ host : String, Cond.fieldLinkNest RX7 115 (TX7 9).1 (TX7 9).2.1 (TX7 9).2.2.1 host ∈ TB := Or.inl (tb_mem 612 (by decide +kernel) (by decide +kernel))
set_option maxRecDepth 20000 in
theorem kF_X7_115 : mFld RX7 115 7 9 := ⟨RX7, TX7, 39, rfl, by decide, inX7, kL_X7_115⟩
set_option maxRecDepth 20000 in
theorem kP_X7_115 : mFldP RX7 115 7 9 .int := ⟨RX7, TX7, 39, tyX7, rfl, by decide, inX7, kL_X7_115, tyX7_ok, nmX7, by decide, by decide +kernel⟩
set_option maxRecDepth 20000 in
theorem kL_X7_133 : Cond.fieldLink RX7 133 (TX7 10).1 (TX7 10).2.1 (TX7 10).2.2.1 ∈ TB ∨ ∃ host : String, Cond.fieldLinkNest RX7 133 (TX7 10).1 (TX7 10).2.1 (TX7 10).2.2.1 host ∈ TB := Or.inl (tb_mem 613 (by decide +kernel) (by decide +kernel))
set_option maxRecDepth 20000 in
theorem kF_X7_133 : mFld RX7 133 7 10 := ⟨RX7, TX7, 39, rfl, by decide, inX7, kL_X7_133⟩
set_option maxRecDepth 20000 in
theorem kP_X7_133 : mFldP RX7 133 7 10 .int := ⟨RX7, TX7, 39, tyX7, rfl, by decide, inX7, kL_X7_133, tyX7_ok, nmX7, by decide, by decide +kernel⟩
set_option maxRecDepth 20000 in
theorem kL_X7_124 : Cond.fieldLink RX7 124 (TX7 11).1 (TX7 11).2.1 (TX7 11).2.2.1 ∈ TB ∨ ∃ host : String, Cond.fieldLinkNest RX7 124 (TX7 11).1 (TX7 11).2.1 (TX7 11).2.2.1 host ∈ TB := Or.inl (tb_mem 614 (by decide +kernel) (by decide +kernel))
set_option maxRecDepth 20000 in
theorem kF_X7_124 : mFld RX7 124 7 11 := ⟨RX7, TX7, 39, rfl, by decide, inX7, kL_X7_124⟩
set_option maxRecDepth 20000 in
theorem kP_X7_124 : mFldP RX7 124 7 11 .int := ⟨RX7, TX7, 39, tyX7, rfl, by decide, inX7, kL_X7_124, tyX7_ok, nmX7, by decide, by decide +kernel⟩
set_option maxRecDepth 20000 in
theorem kL_X7_127 : Cond.fieldLink RX7 127 (TX7 12).1 (TX7 12).2.1 (TX7 12).2.2.1 ∈ TB ∨ ∃ host : String, Cond.fieldLinkNest RX7 127 (TX7 12).1 (TX7 12).2.1 (TX7 12).2.2.1 host ∈ TB := Or.inl (tb_mem 615 (by decide +kernel) (by decide +kernel))
set_option maxRecDepth 20000 in
theorem kF_X7_127 : mFld RX7 127 7 12 := ⟨RX7, TX7, 39, rfl, by decide, inX7, kL_X7_127⟩
set_option maxRecDepth 20000 in
theorem kP_X7_127 : mFldP RX7 127 7 12 .int := ⟨RX7, TX7, 39, tyX7, rfl, by decide, inX7, kL_X7_127, tyX7_ok, nmX7, by decide, by decide +kernel⟩
set_option maxRecDepth 20000 in
theorem kL_X7_130 : Cond.fieldLink RX7 130 (TX7 13).1 (TX7 13).2.1 (TX7 13).2.2.1 ∈ TB ∨ ∃ host : String, Cond.fieldLinkNest RX7 130 (TX7 13).1 (TX7 13).2.1 (TX7 13).2.2.1 host ∈ TB := Or.inl (tb_mem 616 (by decide +kernel) (by decide +kernel))
set_option maxRecDepth 20000 in
theorem kF_X7_130 : mFld RX7 130 7 13 := ⟨RX7, TX7, 39, rfl, by decide, inX7, kL_X7_130⟩
set_option maxRecDepth 20000 in
theorem kP_X7_130 : mFldP RX7 130 7 13 .int := ⟨RX7, TX7, 39, tyX7, rfl, by decide, inX7, kL_X7_130, tyX7_ok, nmX7, by decide, by decide +kernel⟩
set_option maxRecDepth 20000 in
theorem kL_X7_25 : Cond.fieldLink RX7 25 (TX7 14).1 (TX7 14).2.1 (TX7 14).2.2.1 ∈ TB ∨ ∃ host : String, Cond.fieldLinkNest RX7 25 (TX7 14).1 (TX7 14).2.1 (TX7 14).2.2.1 host ∈ TB := Or.inl (tb_mem 617 (by decide +kernel) (by decide +kernel))
set_option maxRecDepth 20000 in
theorem kF_X7_25 : mFld RX7 25 7 14 := ⟨RX7, TX7, 39, rfl, by decide, inX7, kL_X7_25⟩
set_option maxRecDepth 20000 in
theorem kL_X7_28 : Cond.fieldLink RX7 28 (TX7 15).1 (TX7 15).2.1 (TX7 15).2.2.1 ∈ TB ∨ ∃ host : String, Cond.fieldLinkNest RX7 28 (TX7 15).1 (TX7 15).2.1 (TX7 15).2.2.1 host ∈ TB := Or.inl (tb_mem 618 (by decide +kernel) (by decide +kernel))
set_option maxRecDepth 20000 in
theorem kF_X7_28 : mFld RX7 28 7 15 := ⟨RX7, TX7, 39, rfl, by decide, inX7, kL_X7_28⟩
set_option maxRecDepth 20000 in
theorem kL_X7_31 : Cond.fieldLink RX7 31 (TX7 16).1 (TX7 16).2.1 (TX7 16).2.2.1 ∈ TB ∨ ∃ host : String, Cond.fieldLinkNest RX7 31 (TX7 16).1 (TX7 16).2.1 (TX7 16).2.2.1 host ∈ TB := Or.inl (tb_mem 619 (by decide +kernel) (by decide +kernel))
set_option maxRecDepth 20000 in
theorem kF_X7_31 : mFld RX7 31 7 16 := ⟨RX7, TX7, 39, rfl, by decide, inX7, kL_X7_31⟩
set_option maxRecDepth 20000 in
theorem kL_X7_34 : Cond.fieldLink RX7 34 (TX7 17).1 (TX7 17).2.1 (TX7 17).2.2.1 ∈ TB ∨ ∃ host : String, Cond.fieldLinkNest RX7 34 (TX7 17).1 (TX7 17).2.1 (TX7 17).2.2.1 host ∈ TB := Or.inl (tb_mem 620 (by decide +kernel) (by decide +kernel))
set_option maxRecDepth 20000 in
theorem kF_X7_34 : mFld RX7 34 7 17 := ⟨RX7, TX7, 39, rfl, by decide, inX7, kL_X7_34⟩
set_option maxRecDepth 20000 in
theorem kL_X7_37 : Cond.fieldLink RX7 37 (TX7 18).1 (TX7 18).2.1 (TX7 18).2.2.1 ∈ TB ∨ ∃ host : String, Cond.fieldLinkNest RX7 37 (TX7 18).1 (TX7 18).2.1 (TX7 18).2.2.1 host ∈ TB := Or.inl (tb_mem 621 (by decide +kernel) (by decide +kernel))
set_option maxRecDepth 20000 in
theorem kF_X7_37 : mFld RX7 37 7 18 := ⟨RX7, TX7, 39, rfl, by decide, inX7, kL_X7_37⟩
set_option maxRecDepth 20000 in
theorem kL_X7_40 : Cond.fieldLink RX7 40 (TX7 19).1 (TX7 19).2.1 (TX7 19).2.2.1 ∈ TB ∨ ∃ host : String, Cond.fieldLinkNest RX7 40 (TX7 19).1 (TX7 19).2.1 (TX7 19).2.2.1 host ∈ TB := Or.inl (tb_mem 622 (by decide +kernel) (by decide +kernel))
set_option maxRecDepth 20000 in
theorem kF_X7_40 : mFld RX7 40 7 19 := ⟨RX7, TX7, 39, rfl, by decide, inX7, kL_X7_40⟩
set_option maxRecDepth 20000 in
theorem kL_X7_170 : Cond.fieldLink RX7 170 (TX7 20).1 (TX7 20).2.1 (TX7 20).2.2.1 ∈ TB ∨ ∃ host : String, Cond.fieldLinkNest RX7 170 (TX7 20).1 (TX7 20).2.1 (TX7 20).2.2.1 host ∈ TB := Or.inl (tb_mem 623 (by decide +kernel) (by decide +kernel))
set_option maxRecDepth 20000 in
theorem kF_X7_170 : mFld RX7 170 7 20 := ⟨RX7, TX7, 39, rfl, by decide, inX7, kL_X7_170⟩
set_option maxRecDepth 20000 in
theorem kP_X7_170 : mFldP RX7 170 7 20 .boolean := ⟨RX7, TX7, 39, tyX7, rfl, by decide, inX7, kL_X7_170, tyX7_ok, nmX7, by decide, by decide +kernel⟩
set_option maxRecDepth 20000 in
theorem kL_X7_43 : Cond.fieldLink RX7 43 (TX7 21).1 (TX7 21).2.1 (TX7 21).2.2.1 ∈ TB ∨ ∃ host : String, Cond.fieldLinkNest RX7 43 (TX7 21).1 (TX7 21).2.1 (TX7 21).2.2.1 host ∈ TB := Or.inl (tb_mem 624 (by decide +kernel) (by decide +kernel))
set_option maxRecDepth 20000 in
theorem kF_X7_43 : mFld RX7 43 7 21 := ⟨RX7, TX7, 39, rfl, by decide, inX7, kL_X7_43⟩
set_option maxRecDepth 20000 in
theorem kL_X7_46 : Cond.fieldLink RX7 46 (TX7 22).1 (TX7 22).2.1 (TX7 22).2.2.1 ∈ TB ∨ ∃ host : String, Cond.fieldLinkNest RX7 46 (TX7 22).1 (TX7 22).2.1 (TX7 22).2.2.1 host ∈ TB := Or.inl (tb_mem 625 (by decide +kernel) (by decide +kernel))
set_option maxRecDepth 20000 in
theorem kF_X7_46 : mFld RX7 46 7 22 := ⟨RX7, TX7, 39, rfl, by decide, inX7, kL_X7_46⟩
set_option maxRecDepth 20000 in
theorem kL_X7_49 : Cond.fieldLink RX7 49 (TX7 23).1 (TX7 23).2.1 (TX7 23).2.2.1 ∈ TB ∨ ∃ host : String, Cond.fieldLinkNest RX7 49 (TX7 23).1 (TX7 23).2.1 (TX7 23).2.2.1 host ∈ TB := Or.inl (tb_mem 626 (by decide +kernel) (by decide +kernel))
set_option maxRecDepth 20000 in
theorem kF_X7_49 : mFld RX7 49 7 23 := ⟨RX7, TX7, 39, rfl, by decide, inX7, kL_X7_49⟩
set_option maxRecDepth 20000 in
theorem kL_X7_52 : Cond.fieldLink RX7 52 (TX7 24).1 (TX7 24).2.1 (TX7 24).2.2.1 ∈ TB ∨ ∃ host : String, Cond.fieldLinkNest RX7 52 (TX7 24).1 (TX7 24).2.1 (TX7 24).2.2.1 host ∈ TB := Or.inl (tb_mem 627 (by decide +kernel) (by decide +kernel))
set_option maxRecDepth 20000 in
theorem kF_X7_52 : mFld RX7 52 7 24 := ⟨RX7, TX7, 39, rfl, by decide, inX7, kL_X7_52⟩
set_option maxRecDepth 20000 in
theorem kL_X7_55 : Cond.fieldLink RX7 55 (TX7 25).1 (TX7 25).2.1 (TX7 25).2.2.1 ∈ TB ∨ ∃ host : String, Cond.fieldLinkNest RX7 55 (TX7 25).1 (TX7 25).2.1 (TX7 25).2.2.1 host ∈ TB := Or.inl (tb_mem 628 (by decide +kernel) (by decide +kernel))
set_option maxRecDepth 20000 in
theorem kF_X7_55 : mFld RX7 55 7 25 := ⟨RX7, TX7, 39, rfl, by decide, inX7, kL_X7_55⟩
set_option maxRecDepth 20000 in
theorem kL_X7_236 : Cond.fieldLink RX7 236 (TX7 26).1 (TX7 26).2.1 (TX7 26).2.2.1 ∈ TB ∨ ∃ host : String, Cond.fieldLinkNest RX7 236 (TX7 26).1 (TX7 26).2.1 (TX7 26).2.2.1 host ∈ TB := Or.inl (tb_mem 629 (by decide +kernel) (by decide +kernel))
set_option maxRecDepth 20000 in
theorem kF_X7_236 : mFld RX7 236 7 26 := ⟨RX7, TX7, 39, rfl, by decide, inX7, kL_X7_236⟩
set_option maxRecDepth 20000 in
theorem kP_X7_236 : mFldP RX7 236 7 26 .int := ⟨RX7, TX7, 39, tyX7, rfl, by decide, inX7, kL_X7_236, tyX7_ok, nmX7, by decide, by decide +kernel⟩
set_option maxRecDepth 20000 in
theorem kL_X7_58 : Cond.fieldLink RX7 58 (TX7 27).1 (TX7 27).2.1 (TX7 27).2.2.1 ∈ TB ∨ ∃ host : String, Cond.fieldLinkNest RX7 58 (TX7 27).1 (TX7 27).2.1 (TX7 27).2.2.1 host ∈ TB := Or.inl (tb_mem 630 (by decide +kernel) (by decide +kernel))
set_option maxRecDepth 20000 in
theorem kF_X7_58 : mFld RX7 58 7 27 := ⟨RX7, TX7, 39, rfl, by decide, inX7, kL_X7_58⟩
set_option maxRecDepth 20000 in
theorem kL_X7_61 : Cond.fieldLink RX7 61 (TX7 28).1 (TX7 28).2.1 (TX7 28).2.2.1 ∈ TB ∨ ∃ host : String, Cond.fieldLinkNest RX7 61 (TX7 28).1 (TX7 28).2.1 (TX7 28).2.2.1 host ∈ TB := Or.inl (tb_mem 631 (by decide +kernel) (by decide +kernel))
set_option maxRecDepth 20000 in
theorem kF_X7_61 : mFld RX7 61 7 28 := ⟨RX7, TX7, 39, rfl, by decide, inX7, kL_X7_61⟩
set_option maxRecDepth 20000 in
theorem kL_X7_64 : Cond.fieldLink RX7 64 (TX7 29).1 (TX7 29).2.1 (TX7 29).2.2.1 ∈ TB ∨ ∃ host : String, Cond.fieldLinkNest RX7 64 (TX7 29).1 (TX7 29).2.1 (TX7 29).2.2.1 host ∈ TB := Or.inl (tb_mem 632 (by decide +kernel) (by decide +kernel))
set_option maxRecDepth 20000 in
theorem kF_X7_64 : mFld RX7 64 7 29 := ⟨RX7, TX7, 39, rfl, by decide, inX7, kL_X7_64⟩
set_option maxRecDepth 20000 in
theorem kL_X7_265 : Cond.fieldLink RX7 265 (TX7 30).1 (TX7 30).2.1 (TX7 30).2.2.1 ∈ TB ∨ ∃ host : String, Cond.fieldLinkNest RX7 265 (TX7 30).1 (TX7 30).2.1 (TX7 30).2.2.1 host ∈ TB := Or.inl (tb_mem 633 (by decide +kernel) (by decide +kernel))
set_option maxRecDepth 20000 in
theorem kF_X7_265 : mFld RX7 265 7 30 := ⟨RX7, TX7, 39, rfl, by decide, inX7, kL_X7_265⟩
set_option maxRecDepth 20000 in
theorem kP_X7_265 : mFldP RX7 265 7 30 .int := ⟨RX7, TX7, 39, tyX7, rfl, by decide, inX7, kL_X7_265, tyX7_ok, nmX7, by decide, by decide +kernel⟩
set_option maxRecDepth 20000 in
theorem kL_X7_268 : Cond.fieldLink RX7 268 (TX7 31).1 (TX7 31).2.1 (TX7 31).2.2.1 ∈ TB ∨ ∃ host : String, Cond.fieldLinkNest RX7 268 (TX7 31).1 (TX7 31).2.1 (TX7 31).2.2.1 host ∈ TB := Or.inl (tb_mem 634 (by decide +kernel) (by decide +kernel))
set_option maxRecDepth 20000 in
theorem kF_X7_268 : mFld RX7 268 7 31 := ⟨RX7, TX7, 39, rfl, by decide, inX7, kL_X7_268⟩
set_option maxRecDepth 20000 in
theorem kP_X7_268 : mFldP RX7 268 7 31 .int := ⟨RX7, TX7, 39, tyX7, rfl, by decide, inX7, kL_X7_268, tyX7_ok, nmX7, by decide, by decide +kernel⟩
set_option maxRecDepth 20000 in
theorem kL_X7_67 : Cond.fieldLink RX7 67 (TX7 32).1 (TX7 32).2.1 (TX7 32).2.2.1 ∈ TB ∨ ∃ host : String, Cond.fieldLinkNest RX7 67 (TX7 32).1 (TX7 32).2.1 (TX7 32).2.2.1 host ∈ TB := Or.inl (tb_mem 635 (by decide +kernel) (by decide +kernel))
set_option maxRecDepth 20000 in
theorem kF_X7_67 : mFld RX7 67 7 32 := ⟨RX7, TX7, 39, rfl, by decide, inX7, kL_X7_67⟩
set_option maxRecDepth 20000 in
theorem kL_X7_277 : Cond.fieldLink RX7 277 (TX7 33).1 (TX7 33).2.1 (TX7 33).2.2.1 ∈ TB ∨ ∃ host : String, Cond.fieldLinkNest RX7 277 (TX7 33).1 (TX7 33).2.1 (TX7 33).2.2.1 host ∈ TB := Or.inl (tb_mem 636 (by decide +kernel) (by decide +kernel))
set_option maxRecDepth 20000 in
theorem kF_X7_277 : mFld RX7 277 7 33 := ⟨RX7, TX7, 39, rfl, by decide, inX7, kL_X7_277⟩
set_option maxRecDepth 20000 in
theorem kP_X7_277 : mFldP RX7 277 7 33 .int := ⟨RX7, TX7, 39, tyX7, rfl, by decide, inX7, kL_X7_277, tyX7_ok, nmX7, by decide, by decide +kernel⟩
set_option maxRecDepth 20000 in
theorem kL_X7_280 : Cond.fieldLink RX7 280 (TX7 34).1 (TX7 34).2.1 (TX7 34).2.2.1 ∈ TB ∨ ∃ host : String, Cond.fieldLinkNest RX7 280 (TX7 34).1 (TX7 34).2.1 (TX7 34).2.2.1 host ∈ TB := Or.inl (tb_mem 637 (by decide +kernel) (by decide +kernel))
set_option maxRecDepth 20000 in
theorem kF_X7_280 : mFld RX7 280 7 34 := ⟨RX7, TX7, 39, rfl, by decide, inX7, kL_X7_280⟩
set_option maxRecDepth 20000 in
theorem kP_X7_280 : mFldP RX7 280 7 34 .int := ⟨RX7, TX7, 39, tyX7, rfl, by decide, inX7, kL_X7_280, tyX7_ok, nmX7, by decide, by decide +kernel⟩
set_option maxRecDepth 20000 in
theorem kL_X7_70 : Cond.fieldLink RX7 70 (TX7 35).1 (TX7 35).2.1 (TX7 35).2.2.1 ∈ TB ∨ ∃ host : String, Cond.fieldLinkNest RX7 70 (TX7 35).1 (TX7 35).2.1 (TX7 35).2.2.1 host ∈ TB := Or.inl (tb_mem 638 (by decide +kernel) (by decide +kernel))
set_option maxRecDepth 20000 in
theorem kF_X7_70 : mFld RX7 70 7 35 := ⟨RX7, TX7, 39, rfl, by decide, inX7, kL_X7_70⟩
set_option maxRecDepth 20000 in
theorem kL_X7_73 : Cond.fieldLink RX7 73 (TX7 36).1 (TX7 36).2.1 (TX7 36).2.2.1 ∈ TB ∨ ∃ host : String, Cond.fieldLinkNest RX7 73 (TX7 36).1 (TX7 36).2.1 (TX7 36).2.2.1 host ∈ TB := Or.inl (tb_mem 639 (by decide +kernel) (by decide +kernel))
set_option maxRecDepth 20000 in
theorem kF_X7_73 : mFld RX7 73 7 36 := ⟨RX7, TX7, 39, rfl, by decide, inX7, kL_X7_73⟩
set_option maxRecDepth 20000 in
theorem kL_X7_299 : Cond.fieldLink RX7 299 (TX7 37).1 (TX7 37).2.1 (TX7 37).2.2.1 ∈ TB ∨ ∃ host : String, Cond.fieldLinkNest RX7 299 (TX7 37).1 (TX7 37).2.1 (TX7 37).2.2.1 host ∈ TB := Or.inl (tb_mem 640 (by decide +kernel) (by decide +kernel))
set_option maxRecDepth 20000 in
theorem kF_X7_299 : mFld RX7 299 7 37 := ⟨RX7, TX7, 39, rfl, by decide, inX7, kL_X7_299⟩
set_option maxRecDepth 20000 in
theorem kP_X7_299 : mFldP RX7 299 7 37 .int := ⟨RX7, TX7, 39, tyX7, rfl, by decide, inX7, kL_X7_299, tyX7_ok, nmX7, by decide, by decide +kernel⟩
set_option maxRecDepth 20000 in
theorem kL_X7_296 : Cond.fieldLink RX7 296 (TX7 38).1 (TX7 38).2.1 (TX7 38).2.2.1 ∈ TB ∨ ∃ host : String, Cond.fieldLinkNest RX7 296 (TX7 38).1 (TX7 38).2.1 (TX7 38).2.2.1 host ∈ TB := Or.inl (tb_mem 641 (by decide +kernel) (by decide +kernel))
set_option maxRecDepth 20000 in
theorem kF_X7_296 : mFld RX7 296 7 38 := ⟨RX7, TX7, 39, rfl, by decide, inX7, kL_X7_296⟩
set_option maxRecDepth 20000 in
theorem kP_X7_296 : mFldP RX7 296 7 38 .boolean := ⟨RX7, TX7, 39, tyX7, rfl, by decide, inX7, kL_X7_296, tyX7_ok, nmX7, by decide, by decide +kernel⟩
set_option maxRecDepth 20000 in
theorem kM_L_9 : Cond.methodLink RL 9 yX6_init ∈ TB := tb_mem 78 (by decide +kernel) (by decide +kernel)
set_option maxRecDepth 20000 in
theorem kM_X6_17 : Cond.methodLinkNest RX6 17 yX0_init "SwapCalls" ∈ TB := tb_mem 88 (by decide +kernel) (by decide +kernel)
set_option maxRecDepth 20000 in
theorem kM_X6_28 : Cond.methodLinkNest RX6 28 yX4_init "SwapCalls" ∈ TB := tb_mem 116 (by decide +kernel) (by decide +kernel)
set_option maxRecDepth 20000 in
theorem kM_X6_41 : Cond.methodLinkNest RX6 41 yX2_init "SwapCalls" ∈ TB := tb_mem 146 (by decide +kernel) (by decide +kernel)
set_option maxRecDepth 20000 in
theorem kM_X2_11 : Cond.methodLinkNest RX2 11 yX4_init "SwapCalls" ∈ TB := tb_mem 151 (by decide +kernel) (by decide +kernel)
set_option maxRecDepth 20000 in
theorem kM_X6_51 : Cond.methodLinkNest RX6 51 yX3_init "SwapCalls" ∈ TB := tb_mem 178 (by decide +kernel) (by decide +kernel)
set_option maxRecDepth 20000 in
theorem kM_X6_56 : Cond.methodLinkNest RX6 56 yX5_init "SwapCalls" ∈ TB := tb_mem 203 (by decide +kernel) (by decide +kernel)
set_option maxRecDepth 20000 in
theorem kM_X6_57 : Cond.methodLinkNest RX6 57 yX1_init "SwapCalls" ∈ TB := tb_mem 263 (by decide +kernel) (by decide +kernel)
set_option maxRecDepth 20000 in
theorem kM_X1_17 : Cond.methodLinkNest RX1 17 yX4_init "SwapCalls" ∈ TB := tb_mem 268 (by decide +kernel) (by decide +kernel)
set_option maxRecDepth 20000 in
theorem kM_L_13 : Cond.methodLink RL 13 yX6_say ∈ TB := tb_mem 307 (by decide +kernel) (by decide +kernel)
set_option maxRecDepth 20000 in
theorem kM_X6_58 : Cond.methodLink RX6 58 yX6_within ∈ TB := tb_mem 311 (by decide +kernel) (by decide +kernel)
set_option maxRecDepth 20000 in
theorem kM_X6_66 : Cond.methodLink RX6 66 yX5_append ∈ TB := tb_mem 314 (by decide +kernel) (by decide +kernel)
set_option maxRecDepth 20000 in
theorem kM_X5_49 : Cond.methodLink RX5 49 yX5_readText ∈ TB := tb_mem 318 (by decide +kernel) (by decide +kernel)
set_option maxRecDepth 20000 in
theorem kM_X5_52 : Cond.methodLink RX5 52 yX5_readStatement ∈ TB := tb_mem 322 (by decide +kernel) (by decide +kernel)
set_option maxRecDepth 20000 in
theorem kM_X5_56 : Cond.methodLink RX5 56 yX5_kindOf ∈ TB := tb_mem 326 (by decide +kernel) (by decide +kernel)
set_option maxRecDepth 20000 in
theorem kM_X5_60 : Cond.methodLink RX5 60 yX5_readCallee ∈ TB := tb_mem 329 (by decide +kernel) (by decide +kernel)
set_option maxRecDepth 20000 in
theorem kM_X5_63 : Cond.methodLink RX5 63 yX5_readIndex ∈ TB := tb_mem 333 (by decide +kernel) (by decide +kernel)
set_option maxRecDepth 20000 in
theorem kM_X5_77 : Cond.methodLink RX5 77 yX5_isFigure ∈ TB := tb_mem 337 (by decide +kernel) (by decide +kernel)
set_option maxRecDepth 20000 in
theorem kM_X5_67 : Cond.methodLink RX5 67 yX5_readLetter ∈ TB := tb_mem 340 (by decide +kernel) (by decide +kernel)
set_option maxRecDepth 20000 in
theorem kM_X5_74 : Cond.methodLink RX5 74 yX5_isLetter ∈ TB := tb_mem 344 (by decide +kernel) (by decide +kernel)
set_option maxRecDepth 20000 in
theorem kM_X5_70 : Cond.methodLink RX5 70 yX5_readTerm ∈ TB := tb_mem 347 (by decide +kernel) (by decide +kernel)
set_option maxRecDepth 20000 in
theorem kM_X5_80 : Cond.methodLink RX5 80 yX5_readLeaf ∈ TB := tb_mem 351 (by decide +kernel) (by decide +kernel)
set_option maxRecDepth 20000 in
theorem kM_X5_83 : Cond.methodLink RX5 83 yX5_addLeaf ∈ TB := tb_mem 355 (by decide +kernel) (by decide +kernel)
set_option maxRecDepth 20000 in
theorem kM_X6_70 : Cond.methodLink RX6 70 yX0_forget ∈ TB := tb_mem 359 (by decide +kernel) (by decide +kernel)
set_option maxRecDepth 20000 in
theorem kM_L_18 : Cond.methodLink RL 18 yX6_wipe ∈ TB := tb_mem 363 (by decide +kernel) (by decide +kernel)
set_option maxRecDepth 20000 in
theorem kM_X6_73 : Cond.methodLink RX6 73 yX5_empty ∈ TB := tb_mem 367 (by decide +kernel) (by decide +kernel)
set_option maxRecDepth 20000 in
theorem kM_L_23 : Cond.methodLink RL 23 yX6_fault ∈ TB := tb_mem 371 (by decide +kernel) (by decide +kernel)
set_option maxRecDepth 20000 in
theorem kM_L_27 : Cond.methodLink RL 27 yX6_set ∈ TB := tb_mem 375 (by decide +kernel) (by decide +kernel)
set_option maxRecDepth 20000 in
theorem kM_L_31 : Cond.methodLink RL 31 yX6_get ∈ TB := tb_mem 379 (by decide +kernel) (by decide +kernel)
set_option maxRecDepth 20000 in
theorem kM_L_35 : Cond.methodLink RL 35 yX6_effect ∈ TB := tb_mem 383 (by decide +kernel) (by decide +kernel)
set_option maxRecDepth 20000 in
theorem kM_X6_79 : Cond.methodLink RX6 79 yX0_find ∈ TB := tb_mem 387 (by decide +kernel) (by decide +kernel)
set_option maxRecDepth 20000 in
theorem kM_X0_32 : Cond.methodLink RX0 32 yX0_findKnown ∈ TB := tb_mem 391 (by decide +kernel) (by decide +kernel)
set_option maxRecDepth 20000 in
theorem kM_X0_65 : Cond.methodLink RX0 65 yX5_calleeBits ∈ TB := tb_mem 395 (by decide +kernel) (by decide +kernel)
set_option maxRecDepth 20000 in
theorem kM_X0_69 : Cond.methodLink RX0 69 yX0_knowsBits ∈ TB := tb_mem 399 (by decide +kernel) (by decide +kernel)
set_option maxRecDepth 20000 in
theorem kM_X0_36 : Cond.methodLink RX0 36 yX0_startWithOwn ∈ TB := tb_mem 403 (by decide +kernel) (by decide +kernel)
set_option maxRecDepth 20000 in
theorem kM_X0_79 : Cond.methodLinkNest RX0 79 yX6_placeOf "SwapCalls" ∈ TB := tb_mem 407 (by decide +kernel) (by decide +kernel)
set_option maxRecDepth 20000 in
theorem kM_X0_40 : Cond.methodLink RX0 40 yX0_goRound ∈ TB := tb_mem 410 (by decide +kernel) (by decide +kernel)
set_option maxRecDepth 20000 in
theorem kM_X0_95 : Cond.methodLink RX0 95 yX0_takeFromCallees ∈ TB := tb_mem 414 (by decide +kernel) (by decide +kernel)
set_option maxRecDepth 20000 in
theorem kM_X0_102 : Cond.methodLink RX0 102 yX0_take ∈ TB := tb_mem 418 (by decide +kernel) (by decide +kernel)
set_option maxRecDepth 20000 in
theorem kM_X6_87 : Cond.methodLink RX6 87 yX0_part ∈ TB := tb_mem 422 (by decide +kernel) (by decide +kernel)
set_option maxRecDepth 20000 in
theorem kM_L_40 : Cond.methodLink RL 40 yX6_causes ∈ TB := tb_mem 426 (by decide +kernel) (by decide +kernel)
set_option maxRecDepth 20000 in
theorem kM_X6_91 : Cond.methodLink RX6 91 yX0_between ∈ TB := tb_mem 430 (by decide +kernel) (by decide +kernel)
set_option maxRecDepth 20000 in
theorem kM_L_45 : Cond.methodLink RL 45 yX6_call ∈ TB := tb_mem 434 (by decide +kernel) (by decide +kernel)
set_option maxRecDepth 20000 in
theorem kM_X6_98 : Cond.methodLink RX6 98 yX4_append ∈ TB := tb_mem 438 (by decide +kernel) (by decide +kernel)
set_option maxRecDepth 20000 in
theorem kM_L_49 : Cond.methodLink RL 49 yX6_drop ∈ TB := tb_mem 442 (by decide +kernel) (by decide +kernel)
set_option maxRecDepth 20000 in
theorem kM_X6_101 : Cond.methodLink RX6 101 yX4_remove ∈ TB := tb_mem 446 (by decide +kernel) (by decide +kernel)
set_option maxRecDepth 20000 in
theorem kM_L_53 : Cond.methodLink RL 53 yX6_swap ∈ TB := tb_mem 450 (by decide +kernel) (by decide +kernel)
set_option maxRecDepth 20000 in
theorem kM_X6_107 : Cond.methodLink RX6 107 yX0_free ∈ TB := tb_mem 454 (by decide +kernel) (by decide +kernel)
set_option maxRecDepth 20000 in
theorem kM_X0_56 : Cond.methodLink RX0 56 yX0_between ∈ TB := tb_mem 458 (by decide +kernel) (by decide +kernel)
set_option maxRecDepth 20000 in
theorem kM_X6_111 : Cond.methodLink RX6 111 yX4_exchangeWithNext ∈ TB := tb_mem 459 (by decide +kernel) (by decide +kernel)
set_option maxRecDepth 20000 in
theorem kM_L_57 : Cond.methodLink RL 57 yX6_told ∈ TB := tb_mem 463 (by decide +kernel) (by decide +kernel)
set_option maxRecDepth 20000 in
theorem kM_X6_117 : Cond.methodLink RX6 117 yX6_layProgram ∈ TB := tb_mem 467 (by decide +kernel) (by decide +kernel)
set_option maxRecDepth 20000 in
theorem kM_X6_198 : Cond.methodLink RX6 198 yX0_knowsAll ∈ TB := tb_mem 471 (by decide +kernel) (by decide +kernel)
set_option maxRecDepth 20000 in
theorem kM_X6_202 : Cond.methodLink RX6 202 yX2_lay ∈ TB := tb_mem 475 (by decide +kernel) (by decide +kernel)
set_option maxRecDepth 20000 in
theorem kM_X2_35 : Cond.methodLink RX2 35 yX4_copyFrom ∈ TB := tb_mem 479 (by decide +kernel) (by decide +kernel)
set_option maxRecDepth 20000 in
theorem kA_X4_22 : Cond.methodLink RX4 22 arraycopyName ∈ TB ∧ Cond.native arraycopyName ∈ TB ∧ Cond.static arraycopyName ∈ TB ∧ Cond.initialized "java/lang/System" ∈ TB := ⟨tb_mem 483 (by decide +kernel) (by decide +kernel), tb_mem 485 (by decide +kernel) (by decide +kernel), tb_mem 484 (by decide +kernel) (by decide +kernel), tb_mem 74 (by decide +kernel) (by decide +kernel)⟩
set_option maxRecDepth 20000 in
theorem kM_X2_42 : Cond.methodLink RX2 42 yX0_free ∈ TB := tb_mem 486 (by decide +kernel) (by decide +kernel)
set_option maxRecDepth 20000 in
theorem kM_X2_48 : Cond.methodLink RX2 48 yJ9_max_7cf53 ∈ TB := tb_mem 487 (by decide +kernel) (by decide +kernel)
set_option maxRecDepth 20000 in
theorem kM_X2_54 : Cond.methodLink RX2 54 yX2_position ∈ TB := tb_mem 490 (by decide +kernel) (by decide +kernel)
set_option maxRecDepth 20000 in
theorem kM_X2_75 : Cond.methodLink RX2 75 yX2_goesAhead ∈ TB := tb_mem 494 (by decide +kernel) (by decide +kernel)
set_option maxRecDepth 20000 in
theorem kM_L_61 : Cond.methodLink RL 61 yX6_stages ∈ TB := tb_mem 498 (by decide +kernel) (by decide +kernel)
set_option maxRecDepth 20000 in
theorem kM_X6_134 : Cond.methodLink RX6 134 yX2_mostOfOneStage ∈ TB := tb_mem 502 (by decide +kernel) (by decide +kernel)
set_option maxRecDepth 20000 in
theorem kM_X2_57 : Cond.methodLink RX2 57 yX2_sizeOfStage ∈ TB := tb_mem 506 (by decide +kernel) (by decide +kernel)
set_option maxRecDepth 20000 in
theorem kM_X6_138 : Cond.methodLink RX6 138 yX2_firstFullestStage ∈ TB := tb_mem 510 (by decide +kernel) (by decide +kernel)
set_option maxRecDepth 20000 in
theorem kM_X2_61 : Cond.methodLink RX2 61 yX2_mostOfOneStage ∈ TB := tb_mem 514 (by decide +kernel) (by decide +kernel)
set_option maxRecDepth 20000 in
theorem kM_X6_141 : Cond.methodLink RX6 141 yX6_nearestSingle ∈ TB := tb_mem 515 (by decide +kernel) (by decide +kernel)
set_option maxRecDepth 20000 in
theorem kM_X6_148 : Cond.methodLink RX6 148 yX2_isNormal ∈ TB := tb_mem 518 (by decide +kernel) (by decide +kernel)
set_option maxRecDepth 20000 in
theorem kM_X6_152 : Cond.methodLink RX6 152 yX6_compareWithImage ∈ TB := tb_mem 522 (by decide +kernel) (by decide +kernel)
set_option maxRecDepth 20000 in
theorem kM_X6_215 : Cond.methodLink RX6 215 yX2_sameNormalForm ∈ TB := tb_mem 526 (by decide +kernel) (by decide +kernel)
set_option maxRecDepth 20000 in
theorem kM_X2_65 : Cond.methodLink RX2 65 yX2_arrange ∈ TB := tb_mem 530 (by decide +kernel) (by decide +kernel)
set_option maxRecDepth 20000 in
theorem kM_L_65 : Cond.methodLink RL 65 yX6_run ∈ TB := tb_mem 534 (by decide +kernel) (by decide +kernel)
set_option maxRecDepth 20000 in
theorem kM_X6_156 : Cond.methodLink RX6 156 yX6_perform ∈ TB := tb_mem 538 (by decide +kernel) (by decide +kernel)
set_option maxRecDepth 20000 in
theorem kM_X6_206 : Cond.methodLink RX6 206 yX2_arrange ∈ TB := tb_mem 542 (by decide +kernel) (by decide +kernel)
set_option maxRecDepth 20000 in
theorem kM_X6_212 : Cond.methodLink RX6 212 yX3_perform ∈ TB := tb_mem 543 (by decide +kernel) (by decide +kernel)
set_option maxRecDepth 20000 in
theorem kA_X3_28 : Cond.methodLink RX3 28 arraycopyName ∈ TB ∧ Cond.native arraycopyName ∈ TB ∧ Cond.static arraycopyName ∈ TB ∧ Cond.initialized "java/lang/System" ∈ TB := ⟨tb_mem 547 (by decide +kernel) (by decide +kernel), tb_mem 485 (by decide +kernel) (by decide +kernel), tb_mem 484 (by decide +kernel) (by decide +kernel), tb_mem 74 (by decide +kernel) (by decide +kernel)⟩
set_option maxRecDepth 20000 in
theorem kM_X3_45 : Cond.methodLink RX3 45 yX3_doRoutine ∈ TB := tb_mem 548 (by decide +kernel) (by decide +kernel)
set_option maxRecDepth 20000 in
theorem kM_X3_57 : Cond.methodLinkNest RX3 57 yX6_placeOf "SwapCalls" ∈ TB := tb_mem 552 (by decide +kernel) (by decide +kernel)
set_option maxRecDepth 20000 in
theorem kM_X3_67 : Cond.methodLink RX3 67 yX3_doSimple ∈ TB := tb_mem 553 (by decide +kernel) (by decide +kernel)
set_option maxRecDepth 20000 in
theorem kM_X3_71 : Cond.methodLink RX3 71 yX3_sumOfLeaves ∈ TB := tb_mem 557 (by decide +kernel) (by decide +kernel)
set_option maxRecDepth 20000 in
theorem kM_X3_75 : Cond.methodLink RX3 75 yX5_leafStart ∈ TB := tb_mem 561 (by decide +kernel) (by decide +kernel)
set_option maxRecDepth 20000 in
theorem kM_L_69 : Cond.methodLink RL 69 yX6_thrower ∈ TB := tb_mem 565 (by decide +kernel) (by decide +kernel)
set_option maxRecDepth 20000 in
theorem kM_L_73 : Cond.methodLink RL 73 yX6_commit ∈ TB := tb_mem 569 (by decide +kernel) (by decide +kernel)
set_option maxRecDepth 20000 in
theorem kA_X6_172 : Cond.methodLink RX6 172 arraycopyName ∈ TB ∧ Cond.native arraycopyName ∈ TB ∧ Cond.static arraycopyName ∈ TB ∧ Cond.initialized "java/lang/System" ∈ TB := ⟨tb_mem 573 (by decide +kernel) (by decide +kernel), tb_mem 485 (by decide +kernel) (by decide +kernel), tb_mem 484 (by decide +kernel) (by decide +kernel), tb_mem 74 (by decide +kernel) (by decide +kernel)⟩
set_option maxRecDepth 20000 in
theorem kM_L_78 : Cond.methodLink RL 78 yX6_image ∈ TB := tb_mem 574 (by decide +kernel) (by decide +kernel)
set_option maxRecDepth 20000 in
theorem kM_X6_178 : Cond.methodLink RX6 178 yX1_keep ∈ TB := tb_mem 578 (by decide +kernel) (by decide +kernel)
set_option maxRecDepth 20000 in
theorem kA_X1_26 : Cond.methodLink RX1 26 arraycopyName ∈ TB ∧ Cond.native arraycopyName ∈ TB ∧ Cond.static arraycopyName ∈ TB ∧ Cond.initialized "java/lang/System" ∈ TB := ⟨tb_mem 582 (by decide +kernel) (by decide +kernel), tb_mem 485 (by decide +kernel) (by decide +kernel), tb_mem 484 (by decide +kernel) (by decide +kernel), tb_mem 74 (by decide +kernel) (by decide +kernel)⟩
set_option maxRecDepth 20000 in
theorem kM_X1_32 : Cond.methodLink RX1 32 yX4_copyFrom ∈ TB := tb_mem 583 (by decide +kernel) (by decide +kernel)
set_option maxRecDepth 20000 in
theorem kM_L_82 : Cond.methodLink RL 82 yX6_restore ∈ TB := tb_mem 584 (by decide +kernel) (by decide +kernel)
set_option maxRecDepth 20000 in
theorem kM_X6_183 : Cond.methodLink RX6 183 yX4_copyFrom ∈ TB := tb_mem 588 (by decide +kernel) (by decide +kernel)
set_option maxRecDepth 20000 in
theorem kM_L_86 : Cond.methodLink RL 86 yX6_count ∈ TB := tb_mem 589 (by decide +kernel) (by decide +kernel)
set_option maxRecDepth 20000 in
theorem kM_X6_187 : Cond.methodLink RX6 187 yJ9_floorMod_7cf53 ∈ TB := tb_mem 593 (by decide +kernel) (by decide +kernel)
set_option maxRecDepth 20000 in
theorem kM_X6_195 : Cond.methodLink RX6 195 yX5_calleeBits ∈ TB := tb_mem 596 (by decide +kernel) (by decide +kernel)
set_option maxRecDepth 20000 in
theorem kM_L_12 : Cond.methodLink RL 12 yX7_init ∈ TB := tb_mem 599 (by decide +kernel) (by decide +kernel)
set_option maxRecDepth 20000 in
theorem kM_L_17 : Cond.methodLink RL 17 yX7_say ∈ TB := tb_mem 721 (by decide +kernel) (by decide +kernel)
set_option maxRecDepth 20000 in
theorem kM_X7_87 : Cond.methodLink RX7 87 yX7_isRoutine ∈ TB := tb_mem 725 (by decide +kernel) (by decide +kernel)
set_option maxRecDepth 20000 in
theorem kM_X7_79 : Cond.methodLink RX7 79 yX7_in ∈ TB := tb_mem 729 (by decide +kernel) (by decide +kernel)
set_option maxRecDepth 20000 in
theorem kM_L_22 : Cond.methodLink RL 22 yX7_wipe ∈ TB := tb_mem 734 (by decide +kernel) (by decide +kernel)
set_option maxRecDepth 20000 in
theorem kM_L_26 : Cond.methodLink RL 26 yX7_fault ∈ TB := tb_mem 738 (by decide +kernel) (by decide +kernel)
set_option maxRecDepth 20000 in
theorem kM_X7_159 : Cond.methodLink RX7 159 yX7_faultOf ∈ TB := tb_mem 742 (by decide +kernel) (by decide +kernel)
set_option maxRecDepth 20000 in
theorem kM_X7_149 : Cond.methodLink RX7 149 yX7_begin ∈ TB := tb_mem 746 (by decide +kernel) (by decide +kernel)
set_option maxRecDepth 20000 in
theorem kM_X7_153 : Cond.methodLink RX7 153 yX7_isMore ∈ TB := tb_mem 750 (by decide +kernel) (by decide +kernel)
set_option maxRecDepth 20000 in
theorem kM_X7_156 : Cond.methodLink RX7 156 yX7_statement ∈ TB := tb_mem 754 (by decide +kernel) (by decide +kernel)
set_option maxRecDepth 20000 in
theorem kM_X7_101 : Cond.methodLink RX7 101 yX7_here ∈ TB := tb_mem 758 (by decide +kernel) (by decide +kernel)
set_option maxRecDepth 20000 in
theorem kM_X7_136 : Cond.methodLink RX7 136 yX7_callHere ∈ TB := tb_mem 762 (by decide +kernel) (by decide +kernel)
set_option maxRecDepth 20000 in
theorem kM_X7_108 : Cond.methodLink RX7 108 yX7_index ∈ TB := tb_mem 766 (by decide +kernel) (by decide +kernel)
set_option maxRecDepth 20000 in
theorem kM_X7_105 : Cond.methodLink RX7 105 yX7_isFigure ∈ TB := tb_mem 770 (by decide +kernel) (by decide +kernel)
set_option maxRecDepth 20000 in
theorem kM_X7_139 : Cond.methodLink RX7 139 yX7_numberHere ∈ TB := tb_mem 773 (by decide +kernel) (by decide +kernel)
set_option maxRecDepth 20000 in
theorem kM_X7_118 : Cond.methodLink RX7 118 yX7_isLetter ∈ TB := tb_mem 777 (by decide +kernel) (by decide +kernel)
set_option maxRecDepth 20000 in
theorem kM_X7_143 : Cond.methodLink RX7 143 yX7_cellHere ∈ TB := tb_mem 780 (by decide +kernel) (by decide +kernel)
set_option maxRecDepth 20000 in
theorem kM_X7_146 : Cond.methodLink RX7 146 yX7_term ∈ TB := tb_mem 784 (by decide +kernel) (by decide +kernel)
set_option maxRecDepth 20000 in
theorem kM_X7_121 : Cond.methodLink RX7 121 yX7_leaf ∈ TB := tb_mem 788 (by decide +kernel) (by decide +kernel)
set_option maxRecDepth 20000 in
theorem kM_L_30 : Cond.methodLink RL 30 yX7_set ∈ TB := tb_mem 792 (by decide +kernel) (by decide +kernel)
set_option maxRecDepth 20000 in
theorem kM_X7_162 : Cond.methodLink RX7 162 yX7_isPlace ∈ TB := tb_mem 796 (by decide +kernel) (by decide +kernel)
set_option maxRecDepth 20000 in
theorem kM_L_34 : Cond.methodLink RL 34 yX7_get ∈ TB := tb_mem 801 (by decide +kernel) (by decide +kernel)
set_option maxRecDepth 20000 in
theorem kM_L_39 : Cond.methodLink RL 39 yX7_effect ∈ TB := tb_mem 805 (by decide +kernel) (by decide +kernel)
set_option maxRecDepth 20000 in
theorem kM_X7_189 : Cond.methodLink RX7 189 yX7_isGiven ∈ TB := tb_mem 809 (by decide +kernel) (by decide +kernel)
set_option maxRecDepth 20000 in
theorem kM_X7_194 : Cond.methodLink RX7 194 yX7_findEffects ∈ TB := tb_mem 814 (by decide +kernel) (by decide +kernel)
set_option maxRecDepth 20000 in
theorem kM_X7_182 : Cond.methodLink RX7 182 yX7_findReaches ∈ TB := tb_mem 818 (by decide +kernel) (by decide +kernel)
set_option maxRecDepth 20000 in
theorem kM_X7_167 : Cond.methodLink RX7 167 yX7_callsOf ∈ TB := tb_mem 822 (by decide +kernel) (by decide +kernel)
set_option maxRecDepth 20000 in
theorem kM_X7_185 : Cond.methodLink RX7 185 yX7_addEffects ∈ TB := tb_mem 826 (by decide +kernel) (by decide +kernel)
set_option maxRecDepth 20000 in
theorem kM_X7_178 : Cond.methodLink RX7 178 yX7_takeIn ∈ TB := tb_mem 830 (by decide +kernel) (by decide +kernel)
set_option maxRecDepth 20000 in
theorem kM_X7_174 : Cond.methodLink RX7 174 yX7_more ∈ TB := tb_mem 834 (by decide +kernel) (by decide +kernel)
set_option maxRecDepth 20000 in
theorem kM_X7_197 : Cond.methodLink RX7 197 yX7_isKnown ∈ TB := tb_mem 838 (by decide +kernel) (by decide +kernel)
set_option maxRecDepth 20000 in
theorem kM_L_44 : Cond.methodLink RL 44 yX7_causes ∈ TB := tb_mem 842 (by decide +kernel) (by decide +kernel)
set_option maxRecDepth 20000 in
theorem kM_X7_200 : Cond.methodLink RX7 200 yX7_causesOf ∈ TB := tb_mem 846 (by decide +kernel) (by decide +kernel)
set_option maxRecDepth 20000 in
theorem kM_L_48 : Cond.methodLink RL 48 yX7_call ∈ TB := tb_mem 850 (by decide +kernel) (by decide +kernel)
set_option maxRecDepth 20000 in
theorem kM_L_52 : Cond.methodLink RL 52 yX7_drop ∈ TB := tb_mem 854 (by decide +kernel) (by decide +kernel)
set_option maxRecDepth 20000 in
theorem kM_X7_206 : Cond.methodLink RX7 206 yX7_isCall ∈ TB := tb_mem 858 (by decide +kernel) (by decide +kernel)
set_option maxRecDepth 20000 in
theorem kM_L_56 : Cond.methodLink RL 56 yX7_swap ∈ TB := tb_mem 862 (by decide +kernel) (by decide +kernel)
set_option maxRecDepth 20000 in
theorem kM_X7_209 : Cond.methodLink RX7 209 yX7_effectOf ∈ TB := tb_mem 866 (by decide +kernel) (by decide +kernel)
set_option maxRecDepth 20000 in
theorem kM_X7_212 : Cond.methodLink RX7 212 yX7_turn ∈ TB := tb_mem 870 (by decide +kernel) (by decide +kernel)
set_option maxRecDepth 20000 in
theorem kM_L_60 : Cond.methodLink RL 60 yX7_told ∈ TB := tb_mem 873 (by decide +kernel) (by decide +kernel)
set_option maxRecDepth 20000 in
theorem kM_X7_226 : Cond.methodLink RX7 226 yX7_isFound ∈ TB := tb_mem 877 (by decide +kernel) (by decide +kernel)
set_option maxRecDepth 20000 in
theorem kM_X7_220 : Cond.methodLink RX7 220 yX7_isAllKnown ∈ TB := tb_mem 881 (by decide +kernel) (by decide +kernel)
set_option maxRecDepth 20000 in
theorem kM_X7_223 : Cond.methodLink RX7 223 yX7_findStages ∈ TB := tb_mem 885 (by decide +kernel) (by decide +kernel)
set_option maxRecDepth 20000 in
theorem kM_X7_216 : Cond.methodLink RX7 216 yX7_isAhead ∈ TB := tb_mem 889 (by decide +kernel) (by decide +kernel)
set_option maxRecDepth 20000 in
theorem kM_L_64 : Cond.methodLink RL 64 yX7_stages ∈ TB := tb_mem 893 (by decide +kernel) (by decide +kernel)
set_option maxRecDepth 20000 in
theorem kM_X7_229 : Cond.methodLink RX7 229 yX7_stageMany ∈ TB := tb_mem 898 (by decide +kernel) (by decide +kernel)
set_option maxRecDepth 20000 in
theorem kM_X7_250 : Cond.methodLink RX7 250 yX7_widest ∈ TB := tb_mem 902 (by decide +kernel) (by decide +kernel)
set_option maxRecDepth 20000 in
theorem kM_X7_232 : Cond.methodLink RX7 232 yX7_callsAt ∈ TB := tb_mem 906 (by decide +kernel) (by decide +kernel)
set_option maxRecDepth 20000 in
theorem kM_X7_253 : Cond.methodLink RX7 253 yX7_single ∈ TB := tb_mem 910 (by decide +kernel) (by decide +kernel)
set_option maxRecDepth 20000 in
theorem kM_X7_256 : Cond.methodLink RX7 256 yX7_freePairs ∈ TB := tb_mem 914 (by decide +kernel) (by decide +kernel)
set_option maxRecDepth 20000 in
theorem kM_X7_259 : Cond.methodLink RX7 259 yX7_isNormal ∈ TB := tb_mem 918 (by decide +kernel) (by decide +kernel)
set_option maxRecDepth 20000 in
theorem kM_X7_262 : Cond.methodLink RX7 262 yX7_compared ∈ TB := tb_mem 922 (by decide +kernel) (by decide +kernel)
set_option maxRecDepth 20000 in
theorem kM_X7_239 : Cond.methodLink RX7 239 yX7_layNormal ∈ TB := tb_mem 926 (by decide +kernel) (by decide +kernel)
set_option maxRecDepth 20000 in
theorem kM_X7_242 : Cond.methodLink RX7 242 yX7_hold ∈ TB := tb_mem 930 (by decide +kernel) (by decide +kernel)
set_option maxRecDepth 20000 in
theorem kM_X7_245 : Cond.methodLink RX7 245 yX7_giveBack ∈ TB := tb_mem 934 (by decide +kernel) (by decide +kernel)
set_option maxRecDepth 20000 in
theorem kM_L_68 : Cond.methodLink RL 68 yX7_run ∈ TB := tb_mem 938 (by decide +kernel) (by decide +kernel)
set_option maxRecDepth 20000 in
theorem kM_X7_293 : Cond.methodLink RX7 293 yX7_isRun ∈ TB := tb_mem 944 (by decide +kernel) (by decide +kernel)
set_option maxRecDepth 20000 in
theorem kM_X7_283 : Cond.methodLink RX7 283 yX7_kth ∈ TB := tb_mem 948 (by decide +kernel) (by decide +kernel)
set_option maxRecDepth 20000 in
theorem kM_X7_286 : Cond.methodLink RX7 286 yX7_doCall ∈ TB := tb_mem 952 (by decide +kernel) (by decide +kernel)
set_option maxRecDepth 20000 in
theorem kM_X7_271 : Cond.methodLink RX7 271 yX7_push ∈ TB := tb_mem 956 (by decide +kernel) (by decide +kernel)
set_option maxRecDepth 20000 in
theorem kM_X7_274 : Cond.methodLink RX7 274 yX7_isThrowing ∈ TB := tb_mem 960 (by decide +kernel) (by decide +kernel)
set_option maxRecDepth 20000 in
theorem kM_L_72 : Cond.methodLink RL 72 yX7_thrower ∈ TB := tb_mem 964 (by decide +kernel) (by decide +kernel)
set_option maxRecDepth 20000 in
theorem kM_L_77 : Cond.methodLink RL 77 yX7_commit ∈ TB := tb_mem 968 (by decide +kernel) (by decide +kernel)
set_option maxRecDepth 20000 in
theorem kM_L_81 : Cond.methodLink RL 81 yX7_image ∈ TB := tb_mem 972 (by decide +kernel) (by decide +kernel)
set_option maxRecDepth 20000 in
theorem kM_X7_305 : Cond.methodLink RX7 305 yX7_passAll ∈ TB := tb_mem 976 (by decide +kernel) (by decide +kernel)
set_option maxRecDepth 20000 in
theorem kM_X7_302 : Cond.methodLink RX7 302 yX7_passRow ∈ TB := tb_mem 980 (by decide +kernel) (by decide +kernel)
set_option maxRecDepth 20000 in
theorem kM_L_85 : Cond.methodLink RL 85 yX7_restore ∈ TB := tb_mem 984 (by decide +kernel) (by decide +kernel)
set_option maxRecDepth 20000 in
theorem kM_L_89 : Cond.methodLink RL 89 yX7_count ∈ TB := tb_mem 988 (by decide +kernel) (by decide +kernel)
set_option maxRecDepth 20000 in
theorem kM_X7_312 : Cond.methodLink RX7 312 yX7_statementsOf ∈ TB := tb_mem 994 (by decide +kernel) (by decide +kernel)
set_option maxRecDepth 20000 in
theorem kC_X6_say : mCal yX6_say cX6_say 3 (some .int) 2 := ⟨tb_mem 310 (by decide +kernel) (by decide +kernel), tb_mem 66 (by decide +kernel) (by decide +kernel), ⟨tb_mem 308 (by decide +kernel) (by decide +kernel), tb_mem 309 (by decide +kernel) (by decide +kernel)⟩, by decide +kernel, by decide +kernel⟩
set_option maxRecDepth 20000 in
theorem kC_X6_within : mCalS yX6_within cX6_within 2 (some .boolean) 2 := ⟨tb_mem 313 (by decide +kernel) (by decide +kernel), tb_mem 66 (by decide +kernel) (by decide +kernel), tb_mem 312 (by decide +kernel) (by decide +kernel), by decide +kernel, by decide +kernel⟩
set_option maxRecDepth 20000 in
theorem kC_X5_append : mCal yX5_append cX5_append 2 none 1 := ⟨tb_mem 317 (by decide +kernel) (by decide +kernel), tb_mem 71 (by decide +kernel) (by decide +kernel), ⟨tb_mem 315 (by decide +kernel) (by decide +kernel), tb_mem 316 (by decide +kernel) (by decide +kernel)⟩, by decide +kernel, by decide +kernel⟩
set_option maxRecDepth 20000 in
theorem kC_X5_readText : mCal yX5_readText cX5_readText 3 none 0 := ⟨tb_mem 321 (by decide +kernel) (by decide +kernel), tb_mem 71 (by decide +kernel) (by decide +kernel), ⟨tb_mem 320 (by decide +kernel) (by decide +kernel), tb_mem 0 (by decide +kernel) (by decide +kernel)⟩, by decide +kernel, by decide +kernel⟩
set_option maxRecDepth 20000 in
theorem kC_X5_readStatement : mCal yX5_readStatement cX5_readStatement 6 (some .boolean) 1 := ⟨tb_mem 325 (by decide +kernel) (by decide +kernel), tb_mem 71 (by decide +kernel) (by decide +kernel), ⟨tb_mem 324 (by decide +kernel) (by decide +kernel), tb_mem 1 (by decide +kernel) (by decide +kernel)⟩, by decide +kernel, by decide +kernel⟩
set_option maxRecDepth 20000 in
theorem kC_X5_kindOf : mCalS yX5_kindOf cX5_kindOf 1 (some .int) 1 := ⟨tb_mem 328 (by decide +kernel) (by decide +kernel), tb_mem 71 (by decide +kernel) (by decide +kernel), tb_mem 327 (by decide +kernel) (by decide +kernel), by decide +kernel, by decide +kernel⟩
set_option maxRecDepth 20000 in
theorem kC_X5_readCallee : mCal yX5_readCallee cX5_readCallee 2 (some .boolean) 1 := ⟨tb_mem 332 (by decide +kernel) (by decide +kernel), tb_mem 71 (by decide +kernel) (by decide +kernel), ⟨tb_mem 331 (by decide +kernel) (by decide +kernel), tb_mem 2 (by decide +kernel) (by decide +kernel)⟩, by decide +kernel, by decide +kernel⟩
set_option maxRecDepth 20000 in
theorem kC_X5_readIndex : mCal yX5_readIndex cX5_readIndex 3 (some .int) 0 := ⟨tb_mem 336 (by decide +kernel) (by decide +kernel), tb_mem 71 (by decide +kernel) (by decide +kernel), ⟨tb_mem 335 (by decide +kernel) (by decide +kernel), tb_mem 3 (by decide +kernel) (by decide +kernel)⟩, by decide +kernel, by decide +kernel⟩
set_option maxRecDepth 20000 in
theorem kC_X5_isFigure : mCalS yX5_isFigure cX5_isFigure 1 (some .boolean) 1 := ⟨tb_mem 339 (by decide +kernel) (by decide +kernel), tb_mem 71 (by decide +kernel) (by decide +kernel), tb_mem 338 (by decide +kernel) (by decide +kernel), by decide +kernel, by decide +kernel⟩
set_option maxRecDepth 20000 in
theorem kC_X5_readLetter : mCal yX5_readLetter cX5_readLetter 2 (some .int) 0 := ⟨tb_mem 343 (by decide +kernel) (by decide +kernel), tb_mem 71 (by decide +kernel) (by decide +kernel), ⟨tb_mem 342 (by decide +kernel) (by decide +kernel), tb_mem 4 (by decide +kernel) (by decide +kernel)⟩, by decide +kernel, by decide +kernel⟩
set_option maxRecDepth 20000 in
theorem kC_X5_isLetter : mCalS yX5_isLetter cX5_isLetter 1 (some .boolean) 1 := ⟨tb_mem 346 (by decide +kernel) (by decide +kernel), tb_mem 71 (by decide +kernel) (by decide +kernel), tb_mem 345 (by decide +kernel) (by decide +kernel), by decide +kernel, by decide +kernel⟩
set_option maxRecDepth 20000 in
theorem kC_X5_readTerm : mCal yX5_readTerm cX5_readTerm 3 (some .boolean) 0 := ⟨tb_mem 350 (by decide +kernel) (by decide +kernel), tb_mem 71 (by decide +kernel) (by decide +kernel), ⟨tb_mem 349 (by decide +kernel) (by decide +kernel), tb_mem 5 (by decide +kernel) (by decide +kernel)⟩, by decide +kernel, by decide +kernel⟩
set_option maxRecDepth 20000 in
theorem kC_X5_readLeaf : mCal yX5_readLeaf cX5_readLeaf 2 (some .boolean) 0 := ⟨tb_mem 354 (by decide +kernel) (by decide +kernel), tb_mem 71 (by decide +kernel) (by decide +kernel), ⟨tb_mem 353 (by decide +kernel) (by decide +kernel), tb_mem 6 (by decide +kernel) (by decide +kernel)⟩, by decide +kernel, by decide +kernel⟩
set_option maxRecDepth 20000 in
theorem kC_X5_addLeaf : mCal yX5_addLeaf cX5_addLeaf 3 (some .boolean) 2 := ⟨tb_mem 358 (by decide +kernel) (by decide +kernel), tb_mem 71 (by decide +kernel) (by decide +kernel), ⟨tb_mem 357 (by decide +kernel) (by decide +kernel), tb_mem 7 (by decide +kernel) (by decide +kernel)⟩, by decide +kernel, by decide +kernel⟩
set_option maxRecDepth 20000 in
theorem kC_X0_forget : mCal yX0_forget cX0_forget 1 none 0 := ⟨tb_mem 362 (by decide +kernel) (by decide +kernel), tb_mem 67 (by decide +kernel) (by decide +kernel), ⟨tb_mem 360 (by decide +kernel) (by decide +kernel), tb_mem 361 (by decide +kernel) (by decide +kernel)⟩, by decide +kernel, by decide +kernel⟩
set_option maxRecDepth 20000 in
theorem kC_X6_wipe : mCal yX6_wipe cX6_wipe 3 (some .int) 1 := ⟨tb_mem 366 (by decide +kernel) (by decide +kernel), tb_mem 66 (by decide +kernel) (by decide +kernel), ⟨tb_mem 364 (by decide +kernel) (by decide +kernel), tb_mem 365 (by decide +kernel) (by decide +kernel)⟩, by decide +kernel, by decide +kernel⟩
set_option maxRecDepth 20000 in
theorem kC_X5_empty : mCal yX5_empty cX5_empty 1 none 0 := ⟨tb_mem 370 (by decide +kernel) (by decide +kernel), tb_mem 71 (by decide +kernel) (by decide +kernel), ⟨tb_mem 368 (by decide +kernel) (by decide +kernel), tb_mem 369 (by decide +kernel) (by decide +kernel)⟩, by decide +kernel, by decide +kernel⟩
set_option maxRecDepth 20000 in
theorem kC_X6_fault : mCal yX6_fault cX6_fault 2 (some .int) 1 := ⟨tb_mem 374 (by decide +kernel) (by decide +kernel), tb_mem 66 (by decide +kernel) (by decide +kernel), ⟨tb_mem 372 (by decide +kernel) (by decide +kernel), tb_mem 373 (by decide +kernel) (by decide +kernel)⟩, by decide +kernel, by decide +kernel⟩
set_option maxRecDepth 20000 in
theorem kC_X6_set : mCal yX6_set cX6_set 4 (some .int) 2 := ⟨tb_mem 378 (by decide +kernel) (by decide +kernel), tb_mem 66 (by decide +kernel) (by decide +kernel), ⟨tb_mem 376 (by decide +kernel) (by decide +kernel), tb_mem 377 (by decide +kernel) (by decide +kernel)⟩, by decide +kernel, by decide +kernel⟩
set_option maxRecDepth 20000 in
theorem kC_X6_get : mCal yX6_get cX6_get 2 (some .int) 1 := ⟨tb_mem 382 (by decide +kernel) (by decide +kernel), tb_mem 66 (by decide +kernel) (by decide +kernel), ⟨tb_mem 380 (by decide +kernel) (by decide +kernel), tb_mem 381 (by decide +kernel) (by decide +kernel)⟩, by decide +kernel, by decide +kernel⟩
set_option maxRecDepth 20000 in
theorem kC_X6_effect : mCal yX6_effect cX6_effect 4 (some .int) 3 := ⟨tb_mem 386 (by decide +kernel) (by decide +kernel), tb_mem 66 (by decide +kernel) (by decide +kernel), ⟨tb_mem 384 (by decide +kernel) (by decide +kernel), tb_mem 385 (by decide +kernel) (by decide +kernel)⟩, by decide +kernel, by decide +kernel⟩
set_option maxRecDepth 20000 in
theorem kC_X0_find : mCal yX0_find cX0_find 4 none 1 := ⟨tb_mem 390 (by decide +kernel) (by decide +kernel), tb_mem 67 (by decide +kernel) (by decide +kernel), ⟨tb_mem 388 (by decide +kernel) (by decide +kernel), tb_mem 389 (by decide +kernel) (by decide +kernel)⟩, by decide +kernel, by decide +kernel⟩
set_option maxRecDepth 20000 in
theorem kC_X0_findKnown : mCal yX0_findKnown cX0_findKnown 4 none 1 := ⟨tb_mem 394 (by decide +kernel) (by decide +kernel), tb_mem 67 (by decide +kernel) (by decide +kernel), ⟨tb_mem 393 (by decide +kernel) (by decide +kernel), tb_mem 8 (by decide +kernel) (by decide +kernel)⟩, by decide +kernel, by decide +kernel⟩
set_option maxRecDepth 20000 in
theorem kC_X5_calleeBits : mCal yX5_calleeBits cX5_calleeBits 3 (some .int) 0 := ⟨tb_mem 398 (by decide +kernel) (by decide +kernel), tb_mem 71 (by decide +kernel) (by decide +kernel), ⟨tb_mem 396 (by decide +kernel) (by decide +kernel), tb_mem 397 (by decide +kernel) (by decide +kernel)⟩, by decide +kernel, by decide +kernel⟩
set_option maxRecDepth 20000 in
theorem kC_X0_knowsBits : mCal yX0_knowsBits cX0_knowsBits 3 (some .boolean) 1 := ⟨tb_mem 402 (by decide +kernel) (by decide +kernel), tb_mem 67 (by decide +kernel) (by decide +kernel), ⟨tb_mem 401 (by decide +kernel) (by decide +kernel), tb_mem 9 (by decide +kernel) (by decide +kernel)⟩, by decide +kernel, by decide +kernel⟩
set_option maxRecDepth 20000 in
theorem kC_X0_startWithOwn : mCal yX0_startWithOwn cX0_startWithOwn 7 none 3 := ⟨tb_mem 406 (by decide +kernel) (by decide +kernel), tb_mem 67 (by decide +kernel) (by decide +kernel), ⟨tb_mem 405 (by decide +kernel) (by decide +kernel), tb_mem 10 (by decide +kernel) (by decide +kernel)⟩, by decide +kernel, by decide +kernel⟩
set_option maxRecDepth 20000 in
theorem kC_X6_placeOf : mCalS yX6_placeOf cX6_placeOf 2 (some .int) 2 := ⟨tb_mem 409 (by decide +kernel) (by decide +kernel), tb_mem 66 (by decide +kernel) (by decide +kernel), tb_mem 408 (by decide +kernel) (by decide +kernel), by decide +kernel, by decide +kernel⟩
set_option maxRecDepth 20000 in
theorem kC_X0_goRound : mCal yX0_goRound cX0_goRound 5 (some .boolean) 1 := ⟨tb_mem 413 (by decide +kernel) (by decide +kernel), tb_mem 67 (by decide +kernel) (by decide +kernel), ⟨tb_mem 412 (by decide +kernel) (by decide +kernel), tb_mem 11 (by decide +kernel) (by decide +kernel)⟩, by decide +kernel, by decide +kernel⟩
set_option maxRecDepth 20000 in
theorem kC_X0_takeFromCallees : mCal yX0_takeFromCallees cX0_takeFromCallees 7 (some .boolean) 3 := ⟨tb_mem 417 (by decide +kernel) (by decide +kernel), tb_mem 67 (by decide +kernel) (by decide +kernel), ⟨tb_mem 416 (by decide +kernel) (by decide +kernel), tb_mem 12 (by decide +kernel) (by decide +kernel)⟩, by decide +kernel, by decide +kernel⟩
set_option maxRecDepth 20000 in
theorem kC_X0_take : mCal yX0_take cX0_take 4 (some .boolean) 2 := ⟨tb_mem 421 (by decide +kernel) (by decide +kernel), tb_mem 67 (by decide +kernel) (by decide +kernel), ⟨tb_mem 420 (by decide +kernel) (by decide +kernel), tb_mem 13 (by decide +kernel) (by decide +kernel)⟩, by decide +kernel, by decide +kernel⟩
set_option maxRecDepth 20000 in
theorem kC_X0_part : mCal yX0_part cX0_part 5 (some .int) 3 := ⟨tb_mem 425 (by decide +kernel) (by decide +kernel), tb_mem 67 (by decide +kernel) (by decide +kernel), ⟨tb_mem 423 (by decide +kernel) (by decide +kernel), tb_mem 424 (by decide +kernel) (by decide +kernel)⟩, by decide +kernel, by decide +kernel⟩
set_option maxRecDepth 20000 in
theorem kC_X6_causes : mCal yX6_causes cX6_causes 5 (some .int) 4 := ⟨tb_mem 429 (by decide +kernel) (by decide +kernel), tb_mem 66 (by decide +kernel) (by decide +kernel), ⟨tb_mem 427 (by decide +kernel) (by decide +kernel), tb_mem 428 (by decide +kernel) (by decide +kernel)⟩, by decide +kernel, by decide +kernel⟩
set_option maxRecDepth 20000 in
theorem kC_X0_between : mCal yX0_between cX0_between 10 (some .int) 4 := ⟨tb_mem 433 (by decide +kernel) (by decide +kernel), tb_mem 67 (by decide +kernel) (by decide +kernel), ⟨tb_mem 431 (by decide +kernel) (by decide +kernel), tb_mem 432 (by decide +kernel) (by decide +kernel)⟩, by decide +kernel, by decide +kernel⟩
set_option maxRecDepth 20000 in
theorem kC_X6_call : mCal yX6_call cX6_call 3 (some .int) 2 := ⟨tb_mem 437 (by decide +kernel) (by decide +kernel), tb_mem 66 (by decide +kernel) (by decide +kernel), ⟨tb_mem 435 (by decide +kernel) (by decide +kernel), tb_mem 436 (by decide +kernel) (by decide +kernel)⟩, by decide +kernel, by decide +kernel⟩
set_option maxRecDepth 20000 in
theorem kC_X4_append : mCal yX4_append cX4_append 3 none 2 := ⟨tb_mem 441 (by decide +kernel) (by decide +kernel), tb_mem 68 (by decide +kernel) (by decide +kernel), ⟨tb_mem 439 (by decide +kernel) (by decide +kernel), tb_mem 440 (by decide +kernel) (by decide +kernel)⟩, by decide +kernel, by decide +kernel⟩
set_option maxRecDepth 20000 in
theorem kC_X6_drop : mCal yX6_drop cX6_drop 2 (some .int) 1 := ⟨tb_mem 445 (by decide +kernel) (by decide +kernel), tb_mem 66 (by decide +kernel) (by decide +kernel), ⟨tb_mem 443 (by decide +kernel) (by decide +kernel), tb_mem 444 (by decide +kernel) (by decide +kernel)⟩, by decide +kernel, by decide +kernel⟩
set_option maxRecDepth 20000 in
theorem kC_X4_remove : mCal yX4_remove cX4_remove 3 none 1 := ⟨tb_mem 449 (by decide +kernel) (by decide +kernel), tb_mem 68 (by decide +kernel) (by decide +kernel), ⟨tb_mem 447 (by decide +kernel) (by decide +kernel), tb_mem 448 (by decide +kernel) (by decide +kernel)⟩, by decide +kernel, by decide +kernel⟩
set_option maxRecDepth 20000 in
theorem kC_X6_swap : mCal yX6_swap cX6_swap 2 (some .int) 1 := ⟨tb_mem 453 (by decide +kernel) (by decide +kernel), tb_mem 66 (by decide +kernel) (by decide +kernel), ⟨tb_mem 451 (by decide +kernel) (by decide +kernel), tb_mem 452 (by decide +kernel) (by decide +kernel)⟩, by decide +kernel, by decide +kernel⟩
set_option maxRecDepth 20000 in
theorem kC_X0_free : mCal yX0_free cX0_free 4 (some .boolean) 3 := ⟨tb_mem 457 (by decide +kernel) (by decide +kernel), tb_mem 67 (by decide +kernel) (by decide +kernel), ⟨tb_mem 455 (by decide +kernel) (by decide +kernel), tb_mem 456 (by decide +kernel) (by decide +kernel)⟩, by decide +kernel, by decide +kernel⟩
set_option maxRecDepth 20000 in
theorem kC_X4_exchangeWithNext : mCal yX4_exchangeWithNext cX4_exchangeWithNext 4 none 1 := ⟨tb_mem 462 (by decide +kernel) (by decide +kernel), tb_mem 68 (by decide +kernel) (by decide +kernel), ⟨tb_mem 460 (by decide +kernel) (by decide +kernel), tb_mem 461 (by decide +kernel) (by decide +kernel)⟩, by decide +kernel, by decide +kernel⟩
set_option maxRecDepth 20000 in
theorem kC_X6_told : mCal yX6_told cX6_told 3 (some .int) 2 := ⟨tb_mem 466 (by decide +kernel) (by decide +kernel), tb_mem 66 (by decide +kernel) (by decide +kernel), ⟨tb_mem 464 (by decide +kernel) (by decide +kernel), tb_mem 465 (by decide +kernel) (by decide +kernel)⟩, by decide +kernel, by decide +kernel⟩
set_option maxRecDepth 20000 in
theorem kC_X6_layProgram : mCal yX6_layProgram cX6_layProgram 1 (some .boolean) 0 := ⟨tb_mem 470 (by decide +kernel) (by decide +kernel), tb_mem 66 (by decide +kernel) (by decide +kernel), ⟨tb_mem 469 (by decide +kernel) (by decide +kernel), tb_mem 14 (by decide +kernel) (by decide +kernel)⟩, by decide +kernel, by decide +kernel⟩
set_option maxRecDepth 20000 in
theorem kC_X0_knowsAll : mCal yX0_knowsAll cX0_knowsAll 3 (some .boolean) 1 := ⟨tb_mem 474 (by decide +kernel) (by decide +kernel), tb_mem 67 (by decide +kernel) (by decide +kernel), ⟨tb_mem 472 (by decide +kernel) (by decide +kernel), tb_mem 473 (by decide +kernel) (by decide +kernel)⟩, by decide +kernel, by decide +kernel⟩
set_option maxRecDepth 20000 in
theorem kC_X2_lay : mCal yX2_lay cX2_lay 5 none 2 := ⟨tb_mem 478 (by decide +kernel) (by decide +kernel), tb_mem 69 (by decide +kernel) (by decide +kernel), ⟨tb_mem 476 (by decide +kernel) (by decide +kernel), tb_mem 477 (by decide +kernel) (by decide +kernel)⟩, by decide +kernel, by decide +kernel⟩
set_option maxRecDepth 20000 in
theorem kC_X4_copyFrom : mCal yX4_copyFrom cX4_copyFrom 2 none 1 := ⟨tb_mem 482 (by decide +kernel) (by decide +kernel), tb_mem 68 (by decide +kernel) (by decide +kernel), ⟨tb_mem 480 (by decide +kernel) (by decide +kernel), tb_mem 481 (by decide +kernel) (by decide +kernel)⟩, by decide +kernel, by decide +kernel⟩
set_option maxRecDepth 20000 in
theorem kC_J9_max_7cf53 : mCalS yJ9_max_7cf53 cJ9_max_7cf53 2 (some .int) 2 := ⟨tb_mem 489 (by decide +kernel) (by decide +kernel), tb_mem 75 (by decide +kernel) (by decide +kernel), tb_mem 488 (by decide +kernel) (by decide +kernel), by decide +kernel, by decide +kernel⟩
set_option maxRecDepth 20000 in
theorem kC_X2_position : mCal yX2_position cX2_position 5 (some .int) 2 := ⟨tb_mem 493 (by decide +kernel) (by decide +kernel), tb_mem 69 (by decide +kernel) (by decide +kernel), ⟨tb_mem 492 (by decide +kernel) (by decide +kernel), tb_mem 15 (by decide +kernel) (by decide +kernel)⟩, by decide +kernel, by decide +kernel⟩
set_option maxRecDepth 20000 in
theorem kC_X2_goesAhead : mCal yX2_goesAhead cX2_goesAhead 4 (some .boolean) 3 := ⟨tb_mem 497 (by decide +kernel) (by decide +kernel), tb_mem 69 (by decide +kernel) (by decide +kernel), ⟨tb_mem 496 (by decide +kernel) (by decide +kernel), tb_mem 16 (by decide +kernel) (by decide +kernel)⟩, by decide +kernel, by decide +kernel⟩
set_option maxRecDepth 20000 in
theorem kC_X6_stages : mCal yX6_stages cX6_stages 2 (some .int) 1 := ⟨tb_mem 501 (by decide +kernel) (by decide +kernel), tb_mem 66 (by decide +kernel) (by decide +kernel), ⟨tb_mem 499 (by decide +kernel) (by decide +kernel), tb_mem 500 (by decide +kernel) (by decide +kernel)⟩, by decide +kernel, by decide +kernel⟩
set_option maxRecDepth 20000 in
theorem kC_X2_mostOfOneStage : mCal yX2_mostOfOneStage cX2_mostOfOneStage 3 (some .int) 0 := ⟨tb_mem 505 (by decide +kernel) (by decide +kernel), tb_mem 69 (by decide +kernel) (by decide +kernel), ⟨tb_mem 503 (by decide +kernel) (by decide +kernel), tb_mem 504 (by decide +kernel) (by decide +kernel)⟩, by decide +kernel, by decide +kernel⟩
set_option maxRecDepth 20000 in
theorem kC_X2_sizeOfStage : mCal yX2_sizeOfStage cX2_sizeOfStage 4 (some .int) 1 := ⟨tb_mem 509 (by decide +kernel) (by decide +kernel), tb_mem 69 (by decide +kernel) (by decide +kernel), ⟨tb_mem 508 (by decide +kernel) (by decide +kernel), tb_mem 17 (by decide +kernel) (by decide +kernel)⟩, by decide +kernel, by decide +kernel⟩
set_option maxRecDepth 20000 in
theorem kC_X2_firstFullestStage : mCal yX2_firstFullestStage cX2_firstFullestStage 3 (some .int) 0 := ⟨tb_mem 513 (by decide +kernel) (by decide +kernel), tb_mem 69 (by decide +kernel) (by decide +kernel), ⟨tb_mem 511 (by decide +kernel) (by decide +kernel), tb_mem 512 (by decide +kernel) (by decide +kernel)⟩, by decide +kernel, by decide +kernel⟩
set_option maxRecDepth 20000 in
theorem kC_X6_nearestSingle : mCalS yX6_nearestSingle cX6_nearestSingle 6 (some .int) 2 := ⟨tb_mem 517 (by decide +kernel) (by decide +kernel), tb_mem 66 (by decide +kernel) (by decide +kernel), tb_mem 516 (by decide +kernel) (by decide +kernel), by decide +kernel, by decide +kernel⟩
set_option maxRecDepth 20000 in
theorem kC_X2_isNormal : mCal yX2_isNormal cX2_isNormal 2 (some .boolean) 0 := ⟨tb_mem 521 (by decide +kernel) (by decide +kernel), tb_mem 69 (by decide +kernel) (by decide +kernel), ⟨tb_mem 519 (by decide +kernel) (by decide +kernel), tb_mem 520 (by decide +kernel) (by decide +kernel)⟩, by decide +kernel, by decide +kernel⟩
set_option maxRecDepth 20000 in
theorem kC_X6_compareWithImage : mCal yX6_compareWithImage cX6_compareWithImage 2 (some .int) 1 := ⟨tb_mem 525 (by decide +kernel) (by decide +kernel), tb_mem 66 (by decide +kernel) (by decide +kernel), ⟨tb_mem 524 (by decide +kernel) (by decide +kernel), tb_mem 18 (by decide +kernel) (by decide +kernel)⟩, by decide +kernel, by decide +kernel⟩
set_option maxRecDepth 20000 in
theorem kC_X2_sameNormalForm : mCal yX2_sameNormalForm cX2_sameNormalForm 5 (some .boolean) 1 := ⟨tb_mem 529 (by decide +kernel) (by decide +kernel), tb_mem 69 (by decide +kernel) (by decide +kernel), ⟨tb_mem 527 (by decide +kernel) (by decide +kernel), tb_mem 528 (by decide +kernel) (by decide +kernel)⟩, by decide +kernel, by decide +kernel⟩
set_option maxRecDepth 20000 in
theorem kC_X2_arrange : mCal yX2_arrange cX2_arrange 3 none 1 := ⟨tb_mem 533 (by decide +kernel) (by decide +kernel), tb_mem 69 (by decide +kernel) (by decide +kernel), ⟨tb_mem 531 (by decide +kernel) (by decide +kernel), tb_mem 532 (by decide +kernel) (by decide +kernel)⟩, by decide +kernel, by decide +kernel⟩
set_option maxRecDepth 20000 in
theorem kC_X6_run : mCal yX6_run cX6_run 3 (some .int) 2 := ⟨tb_mem 537 (by decide +kernel) (by decide +kernel), tb_mem 66 (by decide +kernel) (by decide +kernel), ⟨tb_mem 535 (by decide +kernel) (by decide +kernel), tb_mem 536 (by decide +kernel) (by decide +kernel)⟩, by decide +kernel, by decide +kernel⟩
set_option maxRecDepth 20000 in
theorem kC_X6_perform : mCal yX6_perform cX6_perform 2 (some .boolean) 1 := ⟨tb_mem 541 (by decide +kernel) (by decide +kernel), tb_mem 66 (by decide +kernel) (by decide +kernel), ⟨tb_mem 540 (by decide +kernel) (by decide +kernel), tb_mem 19 (by decide +kernel) (by decide +kernel)⟩, by decide +kernel, by decide +kernel⟩
set_option maxRecDepth 20000 in
theorem kC_X3_perform : mCal yX3_perform cX3_perform 8 (some .boolean) 4 := ⟨tb_mem 546 (by decide +kernel) (by decide +kernel), tb_mem 70 (by decide +kernel) (by decide +kernel), ⟨tb_mem 544 (by decide +kernel) (by decide +kernel), tb_mem 545 (by decide +kernel) (by decide +kernel)⟩, by decide +kernel, by decide +kernel⟩
set_option maxRecDepth 20000 in
theorem kC_X3_doRoutine : mCal yX3_doRoutine cX3_doRoutine 9 (some .int) 4 := ⟨tb_mem 551 (by decide +kernel) (by decide +kernel), tb_mem 70 (by decide +kernel) (by decide +kernel), ⟨tb_mem 550 (by decide +kernel) (by decide +kernel), tb_mem 20 (by decide +kernel) (by decide +kernel)⟩, by decide +kernel, by decide +kernel⟩
set_option maxRecDepth 20000 in
theorem kC_X3_doSimple : mCal yX3_doSimple cX3_doSimple 5 (some .int) 4 := ⟨tb_mem 556 (by decide +kernel) (by decide +kernel), tb_mem 70 (by decide +kernel) (by decide +kernel), ⟨tb_mem 555 (by decide +kernel) (by decide +kernel), tb_mem 21 (by decide +kernel) (by decide +kernel)⟩, by decide +kernel, by decide +kernel⟩
set_option maxRecDepth 20000 in
theorem kC_X3_sumOfLeaves : mCal yX3_sumOfLeaves cX3_sumOfLeaves 7 (some .int) 3 := ⟨tb_mem 560 (by decide +kernel) (by decide +kernel), tb_mem 70 (by decide +kernel) (by decide +kernel), ⟨tb_mem 559 (by decide +kernel) (by decide +kernel), tb_mem 22 (by decide +kernel) (by decide +kernel)⟩, by decide +kernel, by decide +kernel⟩
set_option maxRecDepth 20000 in
theorem kC_X5_leafStart : mCal yX5_leafStart cX5_leafStart 2 (some .int) 1 := ⟨tb_mem 564 (by decide +kernel) (by decide +kernel), tb_mem 71 (by decide +kernel) (by decide +kernel), ⟨tb_mem 562 (by decide +kernel) (by decide +kernel), tb_mem 563 (by decide +kernel) (by decide +kernel)⟩, by decide +kernel, by decide +kernel⟩
set_option maxRecDepth 20000 in
theorem kC_X6_thrower : mCal yX6_thrower cX6_thrower 3 (some .int) 2 := ⟨tb_mem 568 (by decide +kernel) (by decide +kernel), tb_mem 66 (by decide +kernel) (by decide +kernel), ⟨tb_mem 566 (by decide +kernel) (by decide +kernel), tb_mem 567 (by decide +kernel) (by decide +kernel)⟩, by decide +kernel, by decide +kernel⟩
set_option maxRecDepth 20000 in
theorem kC_X6_commit : mCal yX6_commit cX6_commit 1 (some .int) 0 := ⟨tb_mem 572 (by decide +kernel) (by decide +kernel), tb_mem 66 (by decide +kernel) (by decide +kernel), ⟨tb_mem 570 (by decide +kernel) (by decide +kernel), tb_mem 571 (by decide +kernel) (by decide +kernel)⟩, by decide +kernel, by decide +kernel⟩
set_option maxRecDepth 20000 in
theorem kC_X6_image : mCal yX6_image cX6_image 2 (some .int) 1 := ⟨tb_mem 577 (by decide +kernel) (by decide +kernel), tb_mem 66 (by decide +kernel) (by decide +kernel), ⟨tb_mem 575 (by decide +kernel) (by decide +kernel), tb_mem 576 (by decide +kernel) (by decide +kernel)⟩, by decide +kernel, by decide +kernel⟩
set_option maxRecDepth 20000 in
theorem kC_X1_keep : mCal yX1_keep cX1_keep 3 none 2 := ⟨tb_mem 581 (by decide +kernel) (by decide +kernel), tb_mem 72 (by decide +kernel) (by decide +kernel), ⟨tb_mem 579 (by decide +kernel) (by decide +kernel), tb_mem 580 (by decide +kernel) (by decide +kernel)⟩, by decide +kernel, by decide +kernel⟩
set_option maxRecDepth 20000 in
theorem kC_X6_restore : mCal yX6_restore cX6_restore 2 (some .int) 1 := ⟨tb_mem 587 (by decide +kernel) (by decide +kernel), tb_mem 66 (by decide +kernel) (by decide +kernel), ⟨tb_mem 585 (by decide +kernel) (by decide +kernel), tb_mem 586 (by decide +kernel) (by decide +kernel)⟩, by decide +kernel, by decide +kernel⟩
set_option maxRecDepth 20000 in
theorem kC_X6_count : mCal yX6_count cX6_count 4 (some .int) 1 := ⟨tb_mem 592 (by decide +kernel) (by decide +kernel), tb_mem 66 (by decide +kernel) (by decide +kernel), ⟨tb_mem 590 (by decide +kernel) (by decide +kernel), tb_mem 591 (by decide +kernel) (by decide +kernel)⟩, by decide +kernel, by decide +kernel⟩
set_option maxRecDepth 20000 in
theorem kC_J9_floorMod_7cf53 : mCalS yJ9_floorMod_7cf53 cJ9_floorMod_7cf53 3 (some .int) 2 := ⟨tb_mem 595 (by decide +kernel) (by decide +kernel), tb_mem 75 (by decide +kernel) (by decide +kernel), tb_mem 594 (by decide +kernel) (by decide +kernel), by decide +kernel, by decide +kernel⟩
set_option maxRecDepth 20000 in
theorem kC_X7_say : mCal yX7_say cX7_say 3 (some .int) 2 := ⟨tb_mem 724 (by decide +kernel) (by decide +kernel), tb_mem 73 (by decide +kernel) (by decide +kernel), ⟨tb_mem 722 (by decide +kernel) (by decide +kernel), tb_mem 723 (by decide +kernel) (by decide +kernel)⟩, by decide +kernel, by decide +kernel⟩
set_option maxRecDepth 20000 in
theorem kC_X7_isRoutine : mCalS yX7_isRoutine cX7_isRoutine 1 (some .boolean) 1 := ⟨tb_mem 727 (by decide +kernel) (by decide +kernel), tb_mem 73 (by decide +kernel) (by decide +kernel), tb_mem 726 (by decide +kernel) (by decide +kernel), by decide +kernel, by decide +kernel⟩
set_option maxRecDepth 20000 in
theorem kC_X7_in : mCalS yX7_in cX7_in 6 (some .boolean) 3 := ⟨tb_mem 731 (by decide +kernel) (by decide +kernel), tb_mem 73 (by decide +kernel) (by decide +kernel), tb_mem 730 (by decide +kernel) (by decide +kernel), by decide +kernel, by decide +kernel⟩
set_option maxRecDepth 20000 in
theorem kC_X7_wipe : mCal yX7_wipe cX7_wipe 3 (some .int) 1 := ⟨tb_mem 737 (by decide +kernel) (by decide +kernel), tb_mem 73 (by decide +kernel) (by decide +kernel), ⟨tb_mem 735 (by decide +kernel) (by decide +kernel), tb_mem 736 (by decide +kernel) (by decide +kernel)⟩, by decide +kernel, by decide +kernel⟩
set_option maxRecDepth 20000 in
theorem kC_X7_fault : mCal yX7_fault cX7_fault 2 (some .int) 1 := ⟨tb_mem 741 (by decide +kernel) (by decide +kernel), tb_mem 73 (by decide +kernel) (by decide +kernel), ⟨tb_mem 739 (by decide +kernel) (by decide +kernel), tb_mem 740 (by decide +kernel) (by decide +kernel)⟩, by decide +kernel, by decide +kernel⟩
set_option maxRecDepth 20000 in
theorem kC_X7_faultOf : mCal yX7_faultOf cX7_faultOf 2 (some .int) 1 := ⟨tb_mem 745 (by decide +kernel) (by decide +kernel), tb_mem 73 (by decide +kernel) (by decide +kernel), ⟨tb_mem 744 (by decide +kernel) (by decide +kernel), tb_mem 23 (by decide +kernel) (by decide +kernel)⟩, by decide +kernel, by decide +kernel⟩
set_option maxRecDepth 20000 in
theorem kC_X7_begin : mCal yX7_begin cX7_begin 2 none 1 := ⟨tb_mem 749 (by decide +kernel) (by decide +kernel), tb_mem 73 (by decide +kernel) (by decide +kernel), ⟨tb_mem 748 (by decide +kernel) (by decide +kernel), tb_mem 24 (by decide +kernel) (by decide +kernel)⟩, by decide +kernel, by decide +kernel⟩
set_option maxRecDepth 20000 in
theorem kC_X7_isMore : mCal yX7_isMore cX7_isMore 1 (some .boolean) 0 := ⟨tb_mem 753 (by decide +kernel) (by decide +kernel), tb_mem 73 (by decide +kernel) (by decide +kernel), ⟨tb_mem 752 (by decide +kernel) (by decide +kernel), tb_mem 25 (by decide +kernel) (by decide +kernel)⟩, by decide +kernel, by decide +kernel⟩
set_option maxRecDepth 20000 in
theorem kC_X7_statement : mCal yX7_statement cX7_statement 4 (some .boolean) 1 := ⟨tb_mem 757 (by decide +kernel) (by decide +kernel), tb_mem 73 (by decide +kernel) (by decide +kernel), ⟨tb_mem 756 (by decide +kernel) (by decide +kernel), tb_mem 26 (by decide +kernel) (by decide +kernel)⟩, by decide +kernel, by decide +kernel⟩
set_option maxRecDepth 20000 in
theorem kC_X7_here : mCal yX7_here cX7_here 1 (some .int) 0 := ⟨tb_mem 761 (by decide +kernel) (by decide +kernel), tb_mem 73 (by decide +kernel) (by decide +kernel), ⟨tb_mem 760 (by decide +kernel) (by decide +kernel), tb_mem 27 (by decide +kernel) (by decide +kernel)⟩, by decide +kernel, by decide +kernel⟩
set_option maxRecDepth 20000 in
theorem kC_X7_callHere : mCal yX7_callHere cX7_callHere 2 (some .boolean) 1 := ⟨tb_mem 765 (by decide +kernel) (by decide +kernel), tb_mem 73 (by decide +kernel) (by decide +kernel), ⟨tb_mem 764 (by decide +kernel) (by decide +kernel), tb_mem 28 (by decide +kernel) (by decide +kernel)⟩, by decide +kernel, by decide +kernel⟩
set_option maxRecDepth 20000 in
theorem kC_X7_index : mCal yX7_index cX7_index 4 (some .int) 1 := ⟨tb_mem 769 (by decide +kernel) (by decide +kernel), tb_mem 73 (by decide +kernel) (by decide +kernel), ⟨tb_mem 768 (by decide +kernel) (by decide +kernel), tb_mem 29 (by decide +kernel) (by decide +kernel)⟩, by decide +kernel, by decide +kernel⟩
set_option maxRecDepth 20000 in
theorem kC_X7_isFigure : mCalS yX7_isFigure cX7_isFigure 1 (some .boolean) 1 := ⟨tb_mem 772 (by decide +kernel) (by decide +kernel), tb_mem 73 (by decide +kernel) (by decide +kernel), tb_mem 771 (by decide +kernel) (by decide +kernel), by decide +kernel, by decide +kernel⟩
set_option maxRecDepth 20000 in
theorem kC_X7_numberHere : mCal yX7_numberHere cX7_numberHere 1 (some .boolean) 0 := ⟨tb_mem 776 (by decide +kernel) (by decide +kernel), tb_mem 73 (by decide +kernel) (by decide +kernel), ⟨tb_mem 775 (by decide +kernel) (by decide +kernel), tb_mem 30 (by decide +kernel) (by decide +kernel)⟩, by decide +kernel, by decide +kernel⟩
set_option maxRecDepth 20000 in
theorem kC_X7_isLetter : mCalS yX7_isLetter cX7_isLetter 1 (some .boolean) 1 := ⟨tb_mem 779 (by decide +kernel) (by decide +kernel), tb_mem 73 (by decide +kernel) (by decide +kernel), tb_mem 778 (by decide +kernel) (by decide +kernel), by decide +kernel, by decide +kernel⟩
set_option maxRecDepth 20000 in
theorem kC_X7_cellHere : mCal yX7_cellHere cX7_cellHere 3 (some .boolean) 1 := ⟨tb_mem 783 (by decide +kernel) (by decide +kernel), tb_mem 73 (by decide +kernel) (by decide +kernel), ⟨tb_mem 782 (by decide +kernel) (by decide +kernel), tb_mem 31 (by decide +kernel) (by decide +kernel)⟩, by decide +kernel, by decide +kernel⟩
set_option maxRecDepth 20000 in
theorem kC_X7_term : mCal yX7_term cX7_term 3 (some .boolean) 1 := ⟨tb_mem 787 (by decide +kernel) (by decide +kernel), tb_mem 73 (by decide +kernel) (by decide +kernel), ⟨tb_mem 786 (by decide +kernel) (by decide +kernel), tb_mem 32 (by decide +kernel) (by decide +kernel)⟩, by decide +kernel, by decide +kernel⟩
set_option maxRecDepth 20000 in
theorem kC_X7_leaf : mCal yX7_leaf cX7_leaf 4 (some .boolean) 1 := ⟨tb_mem 791 (by decide +kernel) (by decide +kernel), tb_mem 73 (by decide +kernel) (by decide +kernel), ⟨tb_mem 790 (by decide +kernel) (by decide +kernel), tb_mem 33 (by decide +kernel) (by decide +kernel)⟩, by decide +kernel, by decide +kernel⟩
set_option maxRecDepth 20000 in
theorem kC_X7_set : mCal yX7_set cX7_set 4 (some .int) 2 := ⟨tb_mem 795 (by decide +kernel) (by decide +kernel), tb_mem 73 (by decide +kernel) (by decide +kernel), ⟨tb_mem 793 (by decide +kernel) (by decide +kernel), tb_mem 794 (by decide +kernel) (by decide +kernel)⟩, by decide +kernel, by decide +kernel⟩
set_option maxRecDepth 20000 in
theorem kC_X7_isPlace : mCalS yX7_isPlace cX7_isPlace 1 (some .boolean) 1 := ⟨tb_mem 798 (by decide +kernel) (by decide +kernel), tb_mem 73 (by decide +kernel) (by decide +kernel), tb_mem 797 (by decide +kernel) (by decide +kernel), by decide +kernel, by decide +kernel⟩
set_option maxRecDepth 20000 in
theorem kC_X7_get : mCal yX7_get cX7_get 2 (some .int) 1 := ⟨tb_mem 804 (by decide +kernel) (by decide +kernel), tb_mem 73 (by decide +kernel) (by decide +kernel), ⟨tb_mem 802 (by decide +kernel) (by decide +kernel), tb_mem 803 (by decide +kernel) (by decide +kernel)⟩, by decide +kernel, by decide +kernel⟩
set_option maxRecDepth 20000 in
theorem kC_X7_effect : mCal yX7_effect cX7_effect 5 (some .int) 3 := ⟨tb_mem 808 (by decide +kernel) (by decide +kernel), tb_mem 73 (by decide +kernel) (by decide +kernel), ⟨tb_mem 806 (by decide +kernel) (by decide +kernel), tb_mem 807 (by decide +kernel) (by decide +kernel)⟩, by decide +kernel, by decide +kernel⟩
set_option maxRecDepth 20000 in
theorem kC_X7_isGiven : mCalS yX7_isGiven cX7_isGiven 1 (some .boolean) 1 := ⟨tb_mem 811 (by decide +kernel) (by decide +kernel), tb_mem 73 (by decide +kernel) (by decide +kernel), tb_mem 810 (by decide +kernel) (by decide +kernel), by decide +kernel, by decide +kernel⟩
set_option maxRecDepth 20000 in
theorem kC_X7_findEffects : mCal yX7_findEffects cX7_findEffects 2 none 0 := ⟨tb_mem 817 (by decide +kernel) (by decide +kernel), tb_mem 73 (by decide +kernel) (by decide +kernel), ⟨tb_mem 816 (by decide +kernel) (by decide +kernel), tb_mem 34 (by decide +kernel) (by decide +kernel)⟩, by decide +kernel, by decide +kernel⟩
set_option maxRecDepth 20000 in
theorem kC_X7_findReaches : mCal yX7_findReaches cX7_findReaches 4 none 0 := ⟨tb_mem 821 (by decide +kernel) (by decide +kernel), tb_mem 73 (by decide +kernel) (by decide +kernel), ⟨tb_mem 820 (by decide +kernel) (by decide +kernel), tb_mem 35 (by decide +kernel) (by decide +kernel)⟩, by decide +kernel, by decide +kernel⟩
set_option maxRecDepth 20000 in
theorem kC_X7_callsOf : mCal yX7_callsOf cX7_callsOf 3 (some .int) 1 := ⟨tb_mem 825 (by decide +kernel) (by decide +kernel), tb_mem 73 (by decide +kernel) (by decide +kernel), ⟨tb_mem 824 (by decide +kernel) (by decide +kernel), tb_mem 36 (by decide +kernel) (by decide +kernel)⟩, by decide +kernel, by decide +kernel⟩
set_option maxRecDepth 20000 in
theorem kC_X7_addEffects : mCal yX7_addEffects cX7_addEffects 6 none 2 := ⟨tb_mem 829 (by decide +kernel) (by decide +kernel), tb_mem 73 (by decide +kernel) (by decide +kernel), ⟨tb_mem 828 (by decide +kernel) (by decide +kernel), tb_mem 37 (by decide +kernel) (by decide +kernel)⟩, by decide +kernel, by decide +kernel⟩
set_option maxRecDepth 20000 in
theorem kC_X7_takeIn : mCal yX7_takeIn cX7_takeIn 6 none 5 := ⟨tb_mem 833 (by decide +kernel) (by decide +kernel), tb_mem 73 (by decide +kernel) (by decide +kernel), ⟨tb_mem 832 (by decide +kernel) (by decide +kernel), tb_mem 38 (by decide +kernel) (by decide +kernel)⟩, by decide +kernel, by decide +kernel⟩
set_option maxRecDepth 20000 in
theorem kC_X7_more : mCal yX7_more cX7_more 3 (some .int) 2 := ⟨tb_mem 837 (by decide +kernel) (by decide +kernel), tb_mem 73 (by decide +kernel) (by decide +kernel), ⟨tb_mem 836 (by decide +kernel) (by decide +kernel), tb_mem 39 (by decide +kernel) (by decide +kernel)⟩, by decide +kernel, by decide +kernel⟩
set_option maxRecDepth 20000 in
theorem kC_X7_isKnown : mCal yX7_isKnown cX7_isKnown 4 (some .boolean) 1 := ⟨tb_mem 841 (by decide +kernel) (by decide +kernel), tb_mem 73 (by decide +kernel) (by decide +kernel), ⟨tb_mem 840 (by decide +kernel) (by decide +kernel), tb_mem 40 (by decide +kernel) (by decide +kernel)⟩, by decide +kernel, by decide +kernel⟩
set_option maxRecDepth 20000 in
theorem kC_X7_causes : mCal yX7_causes cX7_causes 5 (some .int) 4 := ⟨tb_mem 845 (by decide +kernel) (by decide +kernel), tb_mem 73 (by decide +kernel) (by decide +kernel), ⟨tb_mem 843 (by decide +kernel) (by decide +kernel), tb_mem 844 (by decide +kernel) (by decide +kernel)⟩, by decide +kernel, by decide +kernel⟩
set_option maxRecDepth 20000 in
theorem kC_X7_causesOf : mCal yX7_causesOf cX7_causesOf 6 (some .int) 2 := ⟨tb_mem 849 (by decide +kernel) (by decide +kernel), tb_mem 73 (by decide +kernel) (by decide +kernel), ⟨tb_mem 848 (by decide +kernel) (by decide +kernel), tb_mem 41 (by decide +kernel) (by decide +kernel)⟩, by decide +kernel, by decide +kernel⟩
set_option maxRecDepth 20000 in
theorem kC_X7_call : mCal yX7_call cX7_call 3 (some .int) 2 := ⟨tb_mem 853 (by decide +kernel) (by decide +kernel), tb_mem 73 (by decide +kernel) (by decide +kernel), ⟨tb_mem 851 (by decide +kernel) (by decide +kernel), tb_mem 852 (by decide +kernel) (by decide +kernel)⟩, by decide +kernel, by decide +kernel⟩
set_option maxRecDepth 20000 in
theorem kC_X7_drop : mCal yX7_drop cX7_drop 3 (some .int) 1 := ⟨tb_mem 857 (by decide +kernel) (by decide +kernel), tb_mem 73 (by decide +kernel) (by decide +kernel), ⟨tb_mem 855 (by decide +kernel) (by decide +kernel), tb_mem 856 (by decide +kernel) (by decide +kernel)⟩, by decide +kernel, by decide +kernel⟩
set_option maxRecDepth 20000 in
theorem kC_X7_isCall : mCal yX7_isCall cX7_isCall 2 (some .boolean) 1 := ⟨tb_mem 861 (by decide +kernel) (by decide +kernel), tb_mem 73 (by decide +kernel) (by decide +kernel), ⟨tb_mem 860 (by decide +kernel) (by decide +kernel), tb_mem 42 (by decide +kernel) (by decide +kernel)⟩, by decide +kernel, by decide +kernel⟩
set_option maxRecDepth 20000 in
theorem kC_X7_swap : mCal yX7_swap cX7_swap 2 (some .int) 1 := ⟨tb_mem 865 (by decide +kernel) (by decide +kernel), tb_mem 73 (by decide +kernel) (by decide +kernel), ⟨tb_mem 863 (by decide +kernel) (by decide +kernel), tb_mem 864 (by decide +kernel) (by decide +kernel)⟩, by decide +kernel, by decide +kernel⟩
set_option maxRecDepth 20000 in
theorem kC_X7_effectOf : mCal yX7_effectOf cX7_effectOf 2 (some .int) 1 := ⟨tb_mem 869 (by decide +kernel) (by decide +kernel), tb_mem 73 (by decide +kernel) (by decide +kernel), ⟨tb_mem 868 (by decide +kernel) (by decide +kernel), tb_mem 43 (by decide +kernel) (by decide +kernel)⟩, by decide +kernel, by decide +kernel⟩
set_option maxRecDepth 20000 in
theorem kC_X7_turn : mCalS yX7_turn cX7_turn 3 none 2 := ⟨tb_mem 872 (by decide +kernel) (by decide +kernel), tb_mem 73 (by decide +kernel) (by decide +kernel), tb_mem 871 (by decide +kernel) (by decide +kernel), by decide +kernel, by decide +kernel⟩
set_option maxRecDepth 20000 in
theorem kC_X7_told : mCal yX7_told cX7_told 3 (some .int) 2 := ⟨tb_mem 876 (by decide +kernel) (by decide +kernel), tb_mem 73 (by decide +kernel) (by decide +kernel), ⟨tb_mem 874 (by decide +kernel) (by decide +kernel), tb_mem 875 (by decide +kernel) (by decide +kernel)⟩, by decide +kernel, by decide +kernel⟩
set_option maxRecDepth 20000 in
theorem kC_X7_isFound : mCal yX7_isFound cX7_isFound 1 (some .boolean) 0 := ⟨tb_mem 880 (by decide +kernel) (by decide +kernel), tb_mem 73 (by decide +kernel) (by decide +kernel), ⟨tb_mem 879 (by decide +kernel) (by decide +kernel), tb_mem 44 (by decide +kernel) (by decide +kernel)⟩, by decide +kernel, by decide +kernel⟩
set_option maxRecDepth 20000 in
theorem kC_X7_isAllKnown : mCal yX7_isAllKnown cX7_isAllKnown 3 (some .boolean) 0 := ⟨tb_mem 884 (by decide +kernel) (by decide +kernel), tb_mem 73 (by decide +kernel) (by decide +kernel), ⟨tb_mem 883 (by decide +kernel) (by decide +kernel), tb_mem 45 (by decide +kernel) (by decide +kernel)⟩, by decide +kernel, by decide +kernel⟩
set_option maxRecDepth 20000 in
theorem kC_X7_findStages : mCal yX7_findStages cX7_findStages 4 none 0 := ⟨tb_mem 888 (by decide +kernel) (by decide +kernel), tb_mem 73 (by decide +kernel) (by decide +kernel), ⟨tb_mem 887 (by decide +kernel) (by decide +kernel), tb_mem 46 (by decide +kernel) (by decide +kernel)⟩, by decide +kernel, by decide +kernel⟩
set_option maxRecDepth 20000 in
theorem kC_X7_isAhead : mCal yX7_isAhead cX7_isAhead 3 (some .boolean) 2 := ⟨tb_mem 892 (by decide +kernel) (by decide +kernel), tb_mem 73 (by decide +kernel) (by decide +kernel), ⟨tb_mem 891 (by decide +kernel) (by decide +kernel), tb_mem 47 (by decide +kernel) (by decide +kernel)⟩, by decide +kernel, by decide +kernel⟩
set_option maxRecDepth 20000 in
theorem kC_X7_stages : mCal yX7_stages cX7_stages 2 (some .int) 1 := ⟨tb_mem 896 (by decide +kernel) (by decide +kernel), tb_mem 73 (by decide +kernel) (by decide +kernel), ⟨tb_mem 894 (by decide +kernel) (by decide +kernel), tb_mem 895 (by decide +kernel) (by decide +kernel)⟩, by decide +kernel, by decide +kernel⟩
set_option maxRecDepth 20000 in
theorem kC_X7_stageMany : mCal yX7_stageMany cX7_stageMany 3 (some .int) 0 := ⟨tb_mem 901 (by decide +kernel) (by decide +kernel), tb_mem 73 (by decide +kernel) (by decide +kernel), ⟨tb_mem 900 (by decide +kernel) (by decide +kernel), tb_mem 48 (by decide +kernel) (by decide +kernel)⟩, by decide +kernel, by decide +kernel⟩
set_option maxRecDepth 20000 in
theorem kC_X7_widest : mCal yX7_widest cX7_widest 3 (some .int) 0 := ⟨tb_mem 905 (by decide +kernel) (by decide +kernel), tb_mem 73 (by decide +kernel) (by decide +kernel), ⟨tb_mem 904 (by decide +kernel) (by decide +kernel), tb_mem 49 (by decide +kernel) (by decide +kernel)⟩, by decide +kernel, by decide +kernel⟩
set_option maxRecDepth 20000 in
theorem kC_X7_callsAt : mCal yX7_callsAt cX7_callsAt 4 (some .int) 1 := ⟨tb_mem 909 (by decide +kernel) (by decide +kernel), tb_mem 73 (by decide +kernel) (by decide +kernel), ⟨tb_mem 908 (by decide +kernel) (by decide +kernel), tb_mem 50 (by decide +kernel) (by decide +kernel)⟩, by decide +kernel, by decide +kernel⟩
set_option maxRecDepth 20000 in
theorem kC_X7_single : mCalS yX7_single cX7_single 6 (some .int) 2 := ⟨tb_mem 912 (by decide +kernel) (by decide +kernel), tb_mem 73 (by decide +kernel) (by decide +kernel), tb_mem 911 (by decide +kernel) (by decide +kernel), by decide +kernel, by decide +kernel⟩
set_option maxRecDepth 20000 in
theorem kC_X7_freePairs : mCal yX7_freePairs cX7_freePairs 4 (some .int) 0 := ⟨tb_mem 917 (by decide +kernel) (by decide +kernel), tb_mem 73 (by decide +kernel) (by decide +kernel), ⟨tb_mem 916 (by decide +kernel) (by decide +kernel), tb_mem 51 (by decide +kernel) (by decide +kernel)⟩, by decide +kernel, by decide +kernel⟩
set_option maxRecDepth 20000 in
theorem kC_X7_isNormal : mCal yX7_isNormal cX7_isNormal 3 (some .int) 0 := ⟨tb_mem 921 (by decide +kernel) (by decide +kernel), tb_mem 73 (by decide +kernel) (by decide +kernel), ⟨tb_mem 920 (by decide +kernel) (by decide +kernel), tb_mem 52 (by decide +kernel) (by decide +kernel)⟩, by decide +kernel, by decide +kernel⟩
set_option maxRecDepth 20000 in
theorem kC_X7_compared : mCal yX7_compared cX7_compared 4 (some .int) 0 := ⟨tb_mem 925 (by decide +kernel) (by decide +kernel), tb_mem 73 (by decide +kernel) (by decide +kernel), ⟨tb_mem 924 (by decide +kernel) (by decide +kernel), tb_mem 53 (by decide +kernel) (by decide +kernel)⟩, by decide +kernel, by decide +kernel⟩
set_option maxRecDepth 20000 in
theorem kC_X7_layNormal : mCal yX7_layNormal cX7_layNormal 2 none 0 := ⟨tb_mem 929 (by decide +kernel) (by decide +kernel), tb_mem 73 (by decide +kernel) (by decide +kernel), ⟨tb_mem 928 (by decide +kernel) (by decide +kernel), tb_mem 54 (by decide +kernel) (by decide +kernel)⟩, by decide +kernel, by decide +kernel⟩
set_option maxRecDepth 20000 in
theorem kC_X7_hold : mCal yX7_hold cX7_hold 2 none 0 := ⟨tb_mem 933 (by decide +kernel) (by decide +kernel), tb_mem 73 (by decide +kernel) (by decide +kernel), ⟨tb_mem 932 (by decide +kernel) (by decide +kernel), tb_mem 55 (by decide +kernel) (by decide +kernel)⟩, by decide +kernel, by decide +kernel⟩
set_option maxRecDepth 20000 in
theorem kC_X7_giveBack : mCal yX7_giveBack cX7_giveBack 2 none 0 := ⟨tb_mem 937 (by decide +kernel) (by decide +kernel), tb_mem 73 (by decide +kernel) (by decide +kernel), ⟨tb_mem 936 (by decide +kernel) (by decide +kernel), tb_mem 56 (by decide +kernel) (by decide +kernel)⟩, by decide +kernel, by decide +kernel⟩
set_option maxRecDepth 20000 in
theorem kC_X7_run : mCal yX7_run cX7_run 3 (some .int) 2 := ⟨tb_mem 941 (by decide +kernel) (by decide +kernel), tb_mem 73 (by decide +kernel) (by decide +kernel), ⟨tb_mem 939 (by decide +kernel) (by decide +kernel), tb_mem 940 (by decide +kernel) (by decide +kernel)⟩, by decide +kernel, by decide +kernel⟩
set_option maxRecDepth 20000 in
theorem kC_X7_isRun : mCal yX7_isRun cX7_isRun 5 (some .boolean) 1 := ⟨tb_mem 947 (by decide +kernel) (by decide +kernel), tb_mem 73 (by decide +kernel) (by decide +kernel), ⟨tb_mem 946 (by decide +kernel) (by decide +kernel), tb_mem 57 (by decide +kernel) (by decide +kernel)⟩, by decide +kernel, by decide +kernel⟩
set_option maxRecDepth 20000 in
theorem kC_X7_kth : mCal yX7_kth cX7_kth 7 (some .int) 2 := ⟨tb_mem 951 (by decide +kernel) (by decide +kernel), tb_mem 73 (by decide +kernel) (by decide +kernel), ⟨tb_mem 950 (by decide +kernel) (by decide +kernel), tb_mem 58 (by decide +kernel) (by decide +kernel)⟩, by decide +kernel, by decide +kernel⟩
set_option maxRecDepth 20000 in
theorem kC_X7_doCall : mCal yX7_doCall cX7_doCall 4 (some .int) 1 := ⟨tb_mem 955 (by decide +kernel) (by decide +kernel), tb_mem 73 (by decide +kernel) (by decide +kernel), ⟨tb_mem 954 (by decide +kernel) (by decide +kernel), tb_mem 59 (by decide +kernel) (by decide +kernel)⟩, by decide +kernel, by decide +kernel⟩
set_option maxRecDepth 20000 in
theorem kC_X7_push : mCal yX7_push cX7_push 3 none 2 := ⟨tb_mem 959 (by decide +kernel) (by decide +kernel), tb_mem 73 (by decide +kernel) (by decide +kernel), ⟨tb_mem 958 (by decide +kernel) (by decide +kernel), tb_mem 60 (by decide +kernel) (by decide +kernel)⟩, by decide +kernel, by decide +kernel⟩
set_option maxRecDepth 20000 in
theorem kC_X7_isThrowing : mCal yX7_isThrowing cX7_isThrowing 1 (some .boolean) 0 := ⟨tb_mem 963 (by decide +kernel) (by decide +kernel), tb_mem 73 (by decide +kernel) (by decide +kernel), ⟨tb_mem 962 (by decide +kernel) (by decide +kernel), tb_mem 61 (by decide +kernel) (by decide +kernel)⟩, by decide +kernel, by decide +kernel⟩
set_option maxRecDepth 20000 in
theorem kC_X7_thrower : mCal yX7_thrower cX7_thrower 3 (some .int) 2 := ⟨tb_mem 967 (by decide +kernel) (by decide +kernel), tb_mem 73 (by decide +kernel) (by decide +kernel), ⟨tb_mem 965 (by decide +kernel) (by decide +kernel), tb_mem 966 (by decide +kernel) (by decide +kernel)⟩, by decide +kernel, by decide +kernel⟩
set_option maxRecDepth 20000 in
theorem kC_X7_commit : mCal yX7_commit cX7_commit 2 (some .int) 0 := ⟨tb_mem 971 (by decide +kernel) (by decide +kernel), tb_mem 73 (by decide +kernel) (by decide +kernel), ⟨tb_mem 969 (by decide +kernel) (by decide +kernel), tb_mem 970 (by decide +kernel) (by decide +kernel)⟩, by decide +kernel, by decide +kernel⟩
set_option maxRecDepth 20000 in
theorem kC_X7_image : mCal yX7_image cX7_image 2 (some .int) 1 := ⟨tb_mem 975 (by decide +kernel) (by decide +kernel), tb_mem 73 (by decide +kernel) (by decide +kernel), ⟨tb_mem 973 (by decide +kernel) (by decide +kernel), tb_mem 974 (by decide +kernel) (by decide +kernel)⟩, by decide +kernel, by decide +kernel⟩
set_option maxRecDepth 20000 in
theorem kC_X7_passAll : mCal yX7_passAll cX7_passAll 1 none 0 := ⟨tb_mem 979 (by decide +kernel) (by decide +kernel), tb_mem 73 (by decide +kernel) (by decide +kernel), ⟨tb_mem 978 (by decide +kernel) (by decide +kernel), tb_mem 62 (by decide +kernel) (by decide +kernel)⟩, by decide +kernel, by decide +kernel⟩
set_option maxRecDepth 20000 in
theorem kC_X7_passRow : mCal yX7_passRow cX7_passRow 4 none 2 := ⟨tb_mem 983 (by decide +kernel) (by decide +kernel), tb_mem 73 (by decide +kernel) (by decide +kernel), ⟨tb_mem 982 (by decide +kernel) (by decide +kernel), tb_mem 63 (by decide +kernel) (by decide +kernel)⟩, by decide +kernel, by decide +kernel⟩
set_option maxRecDepth 20000 in
theorem kC_X7_restore : mCal yX7_restore cX7_restore 2 (some .int) 1 := ⟨tb_mem 987 (by decide +kernel) (by decide +kernel), tb_mem 73 (by decide +kernel) (by decide +kernel), ⟨tb_mem 985 (by decide +kernel) (by decide +kernel), tb_mem 986 (by decide +kernel) (by decide +kernel)⟩, by decide +kernel, by decide +kernel⟩
set_option maxRecDepth 20000 in
theorem kC_X7_count : mCal yX7_count cX7_count 3 (some .int) 1 := ⟨tb_mem 991 (by decide +kernel) (by decide +kernel), tb_mem 73 (by decide +kernel) (by decide +kernel), ⟨tb_mem 989 (by decide +kernel) (by decide +kernel), tb_mem 990 (by decide +kernel) (by decide +kernel)⟩, by decide +kernel, by decide +kernel⟩
set_option maxRecDepth 20000 in
theorem kC_X7_statementsOf : mCal yX7_statementsOf cX7_statementsOf 3 (some .int) 1 := ⟨tb_mem 997 (by decide +kernel) (by decide +kernel), tb_mem 73 (by decide +kernel) (by decide +kernel), ⟨tb_mem 996 (by decide +kernel) (by decide +kernel), tb_mem 64 (by decide +kernel) (by decide +kernel)⟩, by decide +kernel, by decide +kernel⟩
set_option maxRecDepth 20000 in
theorem kN_X7_77 : Cond.constantLong RX7 77 5 ∈ TB := tb_mem 728 (by decide +kernel) (by decide +kernel)
set_option maxRecDepth 20000 in
theorem kN_X7_91 : Cond.constantLong RX7 91 33 ∈ TB := tb_mem 732 (by decide +kernel) (by decide +kernel)
set_option maxRecDepth 20000 in
theorem kN_X7_93 : Cond.constantLong RX7 93 126 ∈ TB := tb_mem 733 (by decide +kernel) (by decide +kernel)
set_option maxRecDepth 20000 in
theorem kN_X7_85 : Cond.constantLong RX7 85 17 ∈ TB := tb_mem 799 (by decide +kernel) (by decide +kernel)
set_option maxRecDepth 20000 in
theorem kN_X7_165 : Cond.constantLong RX7 165 99 ∈ TB := tb_mem 800 (by decide +kernel) (by decide +kernel)
set_option maxRecDepth 20000 in
theorem kN_X7_83 : Cond.constantLong RX7 83 11 ∈ TB := tb_mem 812 (by decide +kernel) (by decide +kernel)
set_option maxRecDepth 20000 in
theorem kN_X7_192 : Cond.constantLong RX7 192 3 ∈ TB := tb_mem 813 (by decide +kernel) (by decide +kernel)
set_option maxRecDepth 20000 in
theorem kN_X7_248 : Cond.constantLong RX7 248 6 ∈ TB := tb_mem 897 (by decide +kernel) (by decide +kernel)
set_option maxRecDepth 20000 in
theorem kN_X7_289 : Cond.constantLong RX7 289 2 ∈ TB := tb_mem 942 (by decide +kernel) (by decide +kernel)
set_option maxRecDepth 20000 in
theorem kN_X7_291 : Cond.constantLong RX7 291 19 ∈ TB := tb_mem 943 (by decide +kernel) (by decide +kernel)
set_option maxRecDepth 20000 in
theorem kN_X7_308 : Cond.constantLong RX7 308 10 ∈ TB := tb_mem 992 (by decide +kernel) (by decide +kernel)
set_option maxRecDepth 20000 in
theorem kN_X7_310 : Cond.constantLong RX7 310 35 ∈ TB := tb_mem 993 (by decide +kernel) (by decide +kernel)
set_option maxRecDepth 20000 in
theorem kN_X7_235 : Cond.constant RX7 235 8388608 ∈ TB := tb_mem 913 (by decide +kernel) (by decide +kernel)
