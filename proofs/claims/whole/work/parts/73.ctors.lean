def zU : MU := fun _ _ => 0
def zR : MU := fun k => if k = 0 then (fun j => if j = 2 then -6 else 0) else (fun _ => 0)
theorem dfX4 : ∀ j, j < 3 → defaultValue (tyX4 j) = vp_V [.null, .null, .int 0] j
  | 0, _ => rfl
  | 1, _ => rfl
  | 2, _ => rfl
  | n + 3, h => absurd h (by omega)
set_option maxHeartbeats 4000000 in
set_option maxRecDepth 100000 in
theorem m_X4_init {l : Launch} {dC : Nat → ClassId} {dI : Nat → Nat → Nat} {dA : Nat → ClassId} : mMC l dC dI dA yX4_init cX4_init 1 1 12 2 32 4 [.null, .null, .int 0] zU (oPrg 0) := by
  refine mMCof RX4 [] (by decide +kernel) rfl rfl (Nat.le_of_ble_eq_true rfl) (fun _ => rfl) (fun C h0 e1 e2 e3 e4 hC hI hE => ?_)
  subst e1; subst e2; subst e3; subst e4
  refine c_aload_n hC dX4_init_0 rfl rfl ?_
  refine c_obj hC kO_X4_3 (Nat.le_of_ble_eq_true rfl) (Nat.le_of_ble_eq_true rfl) dX4_init_1 ?_
  refine c_aload_n hC dX4_init_4 rfl rfl ?_
  refine c_bipush hC 16 dX4_init_5 (by decide) ?_
  refine c_newI hC (N := 16) kAI (by decide) (by decide) (Nat.le_of_ble_eq_true rfl) (Nat.le_of_ble_eq_true rfl) (Nat.le_of_ble_eq_true rfl) dX4_init_7 (fun q0 => ?_)
  refine c_putF hC hI ([(h0, .inr (4, [.ref q0, .null, .int 0]))] ++ [(q0, .inl (cA C 0, 16, .inl (fun _ => 0)))]) kR_X4_9 rfl rfl rfl (Nat.le_of_ble_eq_true rfl) dX4_init_9 rfl ?_
  refine c_aload_n hC dX4_init_12 rfl rfl ?_
  refine c_bipush hC 16 dX4_init_13 (by decide) ?_
  refine c_newI hC (N := 16) kAI (by decide) (by decide) (Nat.le_of_ble_eq_true rfl) (Nat.le_of_ble_eq_true rfl) (Nat.le_of_ble_eq_true rfl) dX4_init_15 (fun q1 => ?_)
  refine c_putF hC hI (([(h0, .inr (4, [.ref q0, .ref q1, .int 0]))] ++ [(q0, .inl (cA C 0, 16, .inl (fun _ => 0)))]) ++ [(q1, .inl (cA C 0, 16, .inl (fun _ => 0)))]) kR_X4_15 rfl rfl rfl (Nat.le_of_ble_eq_true rfl) dX4_init_17 rfl ?_
  refine c_aload_n hC dX4_init_20 rfl rfl ?_
  refine c_iconst hC 0 dX4_init_21 (by decide) ?_
  refine c_putI hC (([(h0, .inr (4, [.ref q0, .ref q1, .int 0]))] ++ [(q0, .inl (cA C 0, 16, .inl (fun _ => 0)))]) ++ [(q1, .inl (cA C 0, 16, .inl (fun _ => 0)))]) kP_X4_18 rfl (by decide) (by decide) (Nat.le_of_ble_eq_true rfl) dX4_init_22 rfl ?_
  exact c_ret hC hE (nth [h0, q0, q1]) rfl rfl dX4_init_25
theorem dfX5 : ∀ j, j < 12 → defaultValue (tyX5 j) = vp_V [.null, .int 0, .int 0, .null, .null, .null, .null, .int 0, .null, .null, .int 0, .int 0] j
  | 0, _ => rfl
  | 1, _ => rfl
  | 2, _ => rfl
  | 3, _ => rfl
  | 4, _ => rfl
  | 5, _ => rfl
  | 6, _ => rfl
  | 7, _ => rfl
  | 8, _ => rfl
  | 9, _ => rfl
  | 10, _ => rfl
  | 11, _ => rfl
  | n + 12, h => absurd h (by omega)
set_option maxHeartbeats 4000000 in
set_option maxRecDepth 100000 in
theorem m_X5_init {l : Launch} {dC : Nat → ClassId} {dI : Nat → Nat → Nat} {dA : Nat → ClassId} : mMC l dC dI dA yX5_init cX5_init 1 1 12 7 150 5 [.null, .int 0, .int 0, .null, .null, .null, .null, .int 0, .null, .null, .int 0, .int 0] zR (oRtn 0) := by
  refine mMCof RX5 [] (by decide +kernel) rfl rfl (Nat.le_of_ble_eq_true rfl) (fun _ => rfl) (fun C h0 e1 e2 e3 e4 hC hI hE => ?_)
  subst e1; subst e2; subst e3; subst e4
  refine c_aload_n hC dX5_init_0 rfl rfl ?_
  refine c_obj hC kO_X5_3 (Nat.le_of_ble_eq_true rfl) (Nat.le_of_ble_eq_true rfl) dX5_init_1 ?_
  refine c_aload_n hC dX5_init_4 rfl rfl ?_
  refine c_bipush hC 30 dX5_init_5 (by decide) ?_
  refine c_newI hC (N := 30) kAI (by decide) (by decide) (Nat.le_of_ble_eq_true rfl) (Nat.le_of_ble_eq_true rfl) (Nat.le_of_ble_eq_true rfl) dX5_init_7 (fun q0 => ?_)
  refine c_putF hC hI ([(h0, .inr (5, [.ref q0, .int 0, .int 0, .null, .null, .null, .null, .int 0, .null, .null, .int 0, .int 0]))] ++ [(q0, .inl (cA C 0, 30, .inl (fun _ => 0)))]) kR_X5_9 rfl rfl rfl (Nat.le_of_ble_eq_true rfl) dX5_init_9 rfl ?_
  refine c_aload_n hC dX5_init_12 rfl rfl ?_
  refine c_iconst hC 0 dX5_init_13 (by decide) ?_
  refine c_putI hC ([(h0, .inr (5, [.ref q0, .int 0, .int 0, .null, .null, .null, .null, .int 0, .null, .null, .int 0, .int 0]))] ++ [(q0, .inl (cA C 0, 30, .inl (fun _ => 0)))]) kP_X5_15 rfl (by decide) (by decide) (Nat.le_of_ble_eq_true rfl) dX5_init_14 rfl ?_
  refine c_aload_n hC dX5_init_17 rfl rfl ?_
  refine c_bipush hC (-6) dX5_init_18 (by decide) ?_
  refine c_putI hC ([(h0, .inr (5, [.ref q0, .int 0, .int (-6), .null, .null, .null, .null, .int 0, .null, .null, .int 0, .int 0]))] ++ [(q0, .inl (cA C 0, 30, .inl (fun _ => 0)))]) kP_X5_19 rfl (by decide) (by decide) (Nat.le_of_ble_eq_true rfl) dX5_init_20 rfl ?_
  refine c_aload_n hC dX5_init_23 rfl rfl ?_
  refine c_bipush hC 15 dX5_init_24 (by decide) ?_
  refine c_newI hC (N := 15) kAI (by decide) (by decide) (Nat.le_of_ble_eq_true rfl) (Nat.le_of_ble_eq_true rfl) (Nat.le_of_ble_eq_true rfl) dX5_init_26 (fun q1 => ?_)
  refine c_putF hC hI (([(h0, .inr (5, [.ref q0, .int 0, .int (-6), .ref q1, .null, .null, .null, .int 0, .null, .null, .int 0, .int 0]))] ++ [(q0, .inl (cA C 0, 30, .inl (fun _ => 0)))]) ++ [(q1, .inl (cA C 0, 15, .inl (fun _ => 0)))]) kR_X5_22 rfl rfl rfl (Nat.le_of_ble_eq_true rfl) dX5_init_28 rfl ?_
  refine c_aload_n hC dX5_init_31 rfl rfl ?_
  refine c_bipush hC 15 dX5_init_32 (by decide) ?_
  refine c_newI hC (N := 15) kAI (by decide) (by decide) (Nat.le_of_ble_eq_true rfl) (Nat.le_of_ble_eq_true rfl) (Nat.le_of_ble_eq_true rfl) dX5_init_34 (fun q2 => ?_)
  refine c_putF hC hI ((([(h0, .inr (5, [.ref q0, .int 0, .int (-6), .ref q1, .ref q2, .null, .null, .int 0, .null, .null, .int 0, .int 0]))] ++ [(q0, .inl (cA C 0, 30, .inl (fun _ => 0)))]) ++ [(q1, .inl (cA C 0, 15, .inl (fun _ => 0)))]) ++ [(q2, .inl (cA C 0, 15, .inl (fun _ => 0)))]) kR_X5_25 rfl rfl rfl (Nat.le_of_ble_eq_true rfl) dX5_init_36 rfl ?_
  refine c_aload_n hC dX5_init_39 rfl rfl ?_
  refine c_bipush hC 15 dX5_init_40 (by decide) ?_
  refine c_newI hC (N := 15) kAI (by decide) (by decide) (Nat.le_of_ble_eq_true rfl) (Nat.le_of_ble_eq_true rfl) (Nat.le_of_ble_eq_true rfl) dX5_init_42 (fun q3 => ?_)
  refine c_putF hC hI (((([(h0, .inr (5, [.ref q0, .int 0, .int (-6), .ref q1, .ref q2, .ref q3, .null, .int 0, .null, .null, .int 0, .int 0]))] ++ [(q0, .inl (cA C 0, 30, .inl (fun _ => 0)))]) ++ [(q1, .inl (cA C 0, 15, .inl (fun _ => 0)))]) ++ [(q2, .inl (cA C 0, 15, .inl (fun _ => 0)))]) ++ [(q3, .inl (cA C 0, 15, .inl (fun _ => 0)))]) kR_X5_28 rfl rfl rfl (Nat.le_of_ble_eq_true rfl) dX5_init_44 rfl ?_
  refine c_aload_n hC dX5_init_47 rfl rfl ?_
  refine c_bipush hC 15 dX5_init_48 (by decide) ?_
  refine c_newI hC (N := 15) kAI (by decide) (by decide) (Nat.le_of_ble_eq_true rfl) (Nat.le_of_ble_eq_true rfl) (Nat.le_of_ble_eq_true rfl) dX5_init_50 (fun q4 => ?_)
  refine c_putF hC hI ((((([(h0, .inr (5, [.ref q0, .int 0, .int (-6), .ref q1, .ref q2, .ref q3, .ref q4, .int 0, .null, .null, .int 0, .int 0]))] ++ [(q0, .inl (cA C 0, 30, .inl (fun _ => 0)))]) ++ [(q1, .inl (cA C 0, 15, .inl (fun _ => 0)))]) ++ [(q2, .inl (cA C 0, 15, .inl (fun _ => 0)))]) ++ [(q3, .inl (cA C 0, 15, .inl (fun _ => 0)))]) ++ [(q4, .inl (cA C 0, 15, .inl (fun _ => 0)))]) kR_X5_31 rfl rfl rfl (Nat.le_of_ble_eq_true rfl) dX5_init_52 rfl ?_
  refine c_aload_n hC dX5_init_55 rfl rfl ?_
  refine c_iconst hC 0 dX5_init_56 (by decide) ?_
  refine c_putI hC ((((([(h0, .inr (5, [.ref q0, .int 0, .int (-6), .ref q1, .ref q2, .ref q3, .ref q4, .int 0, .null, .null, .int 0, .int 0]))] ++ [(q0, .inl (cA C 0, 30, .inl (fun _ => 0)))]) ++ [(q1, .inl (cA C 0, 15, .inl (fun _ => 0)))]) ++ [(q2, .inl (cA C 0, 15, .inl (fun _ => 0)))]) ++ [(q3, .inl (cA C 0, 15, .inl (fun _ => 0)))]) ++ [(q4, .inl (cA C 0, 15, .inl (fun _ => 0)))]) kP_X5_34 rfl (by decide) (by decide) (Nat.le_of_ble_eq_true rfl) dX5_init_57 rfl ?_
  refine c_aload_n hC dX5_init_60 rfl rfl ?_
  refine c_bipush hC 30 dX5_init_61 (by decide) ?_
  refine c_newI hC (N := 30) kAI (by decide) (by decide) (Nat.le_of_ble_eq_true rfl) (Nat.le_of_ble_eq_true rfl) (Nat.le_of_ble_eq_true rfl) dX5_init_63 (fun q5 => ?_)
  refine c_putF hC hI (((((([(h0, .inr (5, [.ref q0, .int 0, .int (-6), .ref q1, .ref q2, .ref q3, .ref q4, .int 0, .ref q5, .null, .int 0, .int 0]))] ++ [(q0, .inl (cA C 0, 30, .inl (fun _ => 0)))]) ++ [(q1, .inl (cA C 0, 15, .inl (fun _ => 0)))]) ++ [(q2, .inl (cA C 0, 15, .inl (fun _ => 0)))]) ++ [(q3, .inl (cA C 0, 15, .inl (fun _ => 0)))]) ++ [(q4, .inl (cA C 0, 15, .inl (fun _ => 0)))]) ++ [(q5, .inl (cA C 0, 30, .inl (fun _ => 0)))]) kR_X5_37 rfl rfl rfl (Nat.le_of_ble_eq_true rfl) dX5_init_65 rfl ?_
  refine c_aload_n hC dX5_init_68 rfl rfl ?_
  refine c_bipush hC 30 dX5_init_69 (by decide) ?_
  refine c_newI hC (N := 30) kAI (by decide) (by decide) (Nat.le_of_ble_eq_true rfl) (Nat.le_of_ble_eq_true rfl) (Nat.le_of_ble_eq_true rfl) dX5_init_71 (fun q6 => ?_)
  refine c_putF hC hI ((((((([(h0, .inr (5, [.ref q0, .int 0, .int (-6), .ref q1, .ref q2, .ref q3, .ref q4, .int 0, .ref q5, .ref q6, .int 0, .int 0]))] ++ [(q0, .inl (cA C 0, 30, .inl (fun _ => 0)))]) ++ [(q1, .inl (cA C 0, 15, .inl (fun _ => 0)))]) ++ [(q2, .inl (cA C 0, 15, .inl (fun _ => 0)))]) ++ [(q3, .inl (cA C 0, 15, .inl (fun _ => 0)))]) ++ [(q4, .inl (cA C 0, 15, .inl (fun _ => 0)))]) ++ [(q5, .inl (cA C 0, 30, .inl (fun _ => 0)))]) ++ [(q6, .inl (cA C 0, 30, .inl (fun _ => 0)))]) kR_X5_40 rfl rfl rfl (Nat.le_of_ble_eq_true rfl) dX5_init_73 rfl ?_
  refine c_aload_n hC dX5_init_76 rfl rfl ?_
  refine c_iconst hC 0 dX5_init_77 (by decide) ?_
  refine c_putI hC ((((((([(h0, .inr (5, [.ref q0, .int 0, .int (-6), .ref q1, .ref q2, .ref q3, .ref q4, .int 0, .ref q5, .ref q6, .int 0, .int 0]))] ++ [(q0, .inl (cA C 0, 30, .inl (fun _ => 0)))]) ++ [(q1, .inl (cA C 0, 15, .inl (fun _ => 0)))]) ++ [(q2, .inl (cA C 0, 15, .inl (fun _ => 0)))]) ++ [(q3, .inl (cA C 0, 15, .inl (fun _ => 0)))]) ++ [(q4, .inl (cA C 0, 15, .inl (fun _ => 0)))]) ++ [(q5, .inl (cA C 0, 30, .inl (fun _ => 0)))]) ++ [(q6, .inl (cA C 0, 30, .inl (fun _ => 0)))]) kP_X5_43 rfl (by decide) (by decide) (Nat.le_of_ble_eq_true rfl) dX5_init_78 rfl ?_
  refine c_aload_n hC dX5_init_81 rfl rfl ?_
  refine c_iconst hC 0 dX5_init_82 (by decide) ?_
  refine c_putI hC ((((((([(h0, .inr (5, [.ref q0, .int 0, .int (-6), .ref q1, .ref q2, .ref q3, .ref q4, .int 0, .ref q5, .ref q6, .int 0, .int 0]))] ++ [(q0, .inl (cA C 0, 30, .inl (fun _ => 0)))]) ++ [(q1, .inl (cA C 0, 15, .inl (fun _ => 0)))]) ++ [(q2, .inl (cA C 0, 15, .inl (fun _ => 0)))]) ++ [(q3, .inl (cA C 0, 15, .inl (fun _ => 0)))]) ++ [(q4, .inl (cA C 0, 15, .inl (fun _ => 0)))]) ++ [(q5, .inl (cA C 0, 30, .inl (fun _ => 0)))]) ++ [(q6, .inl (cA C 0, 30, .inl (fun _ => 0)))]) kP_X5_46 rfl (by decide) (by decide) (Nat.le_of_ble_eq_true rfl) dX5_init_83 rfl ?_
  exact c_ret hC hE (nth [h0, q0, q1, q2, q3, q4, q5, q6]) rfl rfl dX5_init_86
theorem dfX0 : ∀ j, j < 6 → defaultValue (tyX0 j) = vp_V [.null, .null, .null, .null, .null, .int 0] j
  | 0, _ => rfl
  | 1, _ => rfl
  | 2, _ => rfl
  | 3, _ => rfl
  | 4, _ => rfl
  | 5, _ => rfl
  | n + 6, h => absurd h (by omega)
set_option maxHeartbeats 4000000 in
set_option maxRecDepth 100000 in
theorem m_X0_init {l : Launch} {dC : Nat → ClassId} {dI : Nat → Nat → Nat} {dA : Nat → ClassId} : mMC l dC dI dA yX0_init cX0_init 1 1 12 5 294 0 [.null, .null, .null, .null, .null, .int 0] zU (oEff 0) := by
  refine mMCof RX0 [] (by decide +kernel) rfl rfl (Nat.le_of_ble_eq_true rfl) (fun _ => rfl) (fun C h0 e1 e2 e3 e4 hC hI hE => ?_)
  subst e1; subst e2; subst e3; subst e4
  refine c_aload_n hC dX0_init_0 rfl rfl ?_
  refine c_obj hC kO_X0_3 (Nat.le_of_ble_eq_true rfl) (Nat.le_of_ble_eq_true rfl) dX0_init_1 ?_
  refine c_aload_n hC dX0_init_4 rfl rfl ?_
  refine c_bipush hC 72 dX0_init_5 (by decide) ?_
  refine c_newI hC (N := 72) kAI (by decide) (by decide) (Nat.le_of_ble_eq_true rfl) (Nat.le_of_ble_eq_true rfl) (Nat.le_of_ble_eq_true rfl) dX0_init_7 (fun q0 => ?_)
  refine c_putF hC hI ([(h0, .inr (0, [.ref q0, .null, .null, .null, .null, .int 0]))] ++ [(q0, .inl (cA C 0, 72, .inl (fun _ => 0)))]) kR_X0_11 rfl rfl rfl (Nat.le_of_ble_eq_true rfl) dX0_init_9 rfl ?_
  refine c_aload_n hC dX0_init_12 rfl rfl ?_
  refine c_bipush hC 72 dX0_init_13 (by decide) ?_
  refine c_newI hC (N := 72) kAI (by decide) (by decide) (Nat.le_of_ble_eq_true rfl) (Nat.le_of_ble_eq_true rfl) (Nat.le_of_ble_eq_true rfl) dX0_init_15 (fun q1 => ?_)
  refine c_putF hC hI (([(h0, .inr (0, [.ref q0, .ref q1, .null, .null, .null, .int 0]))] ++ [(q0, .inl (cA C 0, 72, .inl (fun _ => 0)))]) ++ [(q1, .inl (cA C 0, 72, .inl (fun _ => 0)))]) kR_X0_15 rfl rfl rfl (Nat.le_of_ble_eq_true rfl) dX0_init_17 rfl ?_
  refine c_aload_n hC dX0_init_20 rfl rfl ?_
  refine c_bipush hC 72 dX0_init_21 (by decide) ?_
  refine c_newI hC (N := 72) kAI (by decide) (by decide) (Nat.le_of_ble_eq_true rfl) (Nat.le_of_ble_eq_true rfl) (Nat.le_of_ble_eq_true rfl) dX0_init_23 (fun q2 => ?_)
  refine c_putF hC hI ((([(h0, .inr (0, [.ref q0, .ref q1, .ref q2, .null, .null, .int 0]))] ++ [(q0, .inl (cA C 0, 72, .inl (fun _ => 0)))]) ++ [(q1, .inl (cA C 0, 72, .inl (fun _ => 0)))]) ++ [(q2, .inl (cA C 0, 72, .inl (fun _ => 0)))]) kR_X0_18 rfl rfl rfl (Nat.le_of_ble_eq_true rfl) dX0_init_25 rfl ?_
  refine c_aload_n hC dX0_init_28 rfl rfl ?_
  refine c_bipush hC 72 dX0_init_29 (by decide) ?_
  refine c_newI hC (N := 72) kAI (by decide) (by decide) (Nat.le_of_ble_eq_true rfl) (Nat.le_of_ble_eq_true rfl) (Nat.le_of_ble_eq_true rfl) dX0_init_31 (fun q3 => ?_)
  refine c_putF hC hI (((([(h0, .inr (0, [.ref q0, .ref q1, .ref q2, .ref q3, .null, .int 0]))] ++ [(q0, .inl (cA C 0, 72, .inl (fun _ => 0)))]) ++ [(q1, .inl (cA C 0, 72, .inl (fun _ => 0)))]) ++ [(q2, .inl (cA C 0, 72, .inl (fun _ => 0)))]) ++ [(q3, .inl (cA C 0, 72, .inl (fun _ => 0)))]) kR_X0_21 rfl rfl rfl (Nat.le_of_ble_eq_true rfl) dX0_init_33 rfl ?_
  refine c_aload_n hC dX0_init_36 rfl rfl ?_
  refine c_bipush hC 6 dX0_init_37 (by decide) ?_
  refine c_newZ hC (N := 6) kAZ (by decide) (by decide) (Nat.le_of_ble_eq_true rfl) (Nat.le_of_ble_eq_true rfl) (Nat.le_of_ble_eq_true rfl) dX0_init_39 (fun q4 => ?_)
  refine c_putF hC hI ((((([(h0, .inr (0, [.ref q0, .ref q1, .ref q2, .ref q3, .ref q4, .int 0]))] ++ [(q0, .inl (cA C 0, 72, .inl (fun _ => 0)))]) ++ [(q1, .inl (cA C 0, 72, .inl (fun _ => 0)))]) ++ [(q2, .inl (cA C 0, 72, .inl (fun _ => 0)))]) ++ [(q3, .inl (cA C 0, 72, .inl (fun _ => 0)))]) ++ [(q4, .inl (cA C 1, 6, .inl (fun _ => 0)))]) kR_X0_24 rfl rfl rfl (Nat.le_of_ble_eq_true rfl) dX0_init_41 rfl ?_
  refine c_aload_n hC dX0_init_44 rfl rfl ?_
  refine c_iconst hC 0 dX0_init_45 (by decide) ?_
  refine c_putI hC ((((([(h0, .inr (0, [.ref q0, .ref q1, .ref q2, .ref q3, .ref q4, .int 0]))] ++ [(q0, .inl (cA C 0, 72, .inl (fun _ => 0)))]) ++ [(q1, .inl (cA C 0, 72, .inl (fun _ => 0)))]) ++ [(q2, .inl (cA C 0, 72, .inl (fun _ => 0)))]) ++ [(q3, .inl (cA C 0, 72, .inl (fun _ => 0)))]) ++ [(q4, .inl (cA C 1, 6, .inl (fun _ => 0)))]) kP_X0_28 rfl (by decide) (by decide) (Nat.le_of_ble_eq_true rfl) dX0_init_46 rfl ?_
  exact c_ret hC hE (nth [h0, q0, q1, q2, q3, q4]) rfl rfl dX0_init_49
theorem dfX3 : ∀ j, j < 5 → defaultValue (tyX3 j) = vp_V [.null, .null, .int 0, .int 0, .int 0] j
  | 0, _ => rfl
  | 1, _ => rfl
  | 2, _ => rfl
  | 3, _ => rfl
  | 4, _ => rfl
  | n + 5, h => absurd h (by omega)
set_option maxHeartbeats 4000000 in
set_option maxRecDepth 100000 in
theorem m_X3_init {l : Launch} {dC : Nat → ClassId} {dI : Nat → Nat → Nat} {dA : Nat → ClassId} : mMC l dC dI dA yX3_init cX3_init 1 1 12 2 34 3 [.null, .null, .int 0, .int 0, .int 0] zU (oMac 0) := by
  refine mMCof RX3 [] (by decide +kernel) rfl rfl (Nat.le_of_ble_eq_true rfl) (fun _ => rfl) (fun C h0 e1 e2 e3 e4 hC hI hE => ?_)
  subst e1; subst e2; subst e3; subst e4
  refine c_aload_n hC dX3_init_0 rfl rfl ?_
  refine c_obj hC kO_X3_3 (Nat.le_of_ble_eq_true rfl) (Nat.le_of_ble_eq_true rfl) dX3_init_1 ?_
  refine c_aload_n hC dX3_init_4 rfl rfl ?_
  refine c_bipush hC 18 dX3_init_5 (by decide) ?_
  refine c_newI hC (N := 18) kAI (by decide) (by decide) (Nat.le_of_ble_eq_true rfl) (Nat.le_of_ble_eq_true rfl) (Nat.le_of_ble_eq_true rfl) dX3_init_7 (fun q0 => ?_)
  refine c_putF hC hI ([(h0, .inr (3, [.ref q0, .null, .int 0, .int 0, .int 0]))] ++ [(q0, .inl (cA C 0, 18, .inl (fun _ => 0)))]) kR_X3_9 rfl rfl rfl (Nat.le_of_ble_eq_true rfl) dX3_init_9 rfl ?_
  refine c_aload_n hC dX3_init_12 rfl rfl ?_
  refine c_bipush hC 16 dX3_init_13 (by decide) ?_
  refine c_newI hC (N := 16) kAI (by decide) (by decide) (Nat.le_of_ble_eq_true rfl) (Nat.le_of_ble_eq_true rfl) (Nat.le_of_ble_eq_true rfl) dX3_init_15 (fun q1 => ?_)
  refine c_putF hC hI (([(h0, .inr (3, [.ref q0, .ref q1, .int 0, .int 0, .int 0]))] ++ [(q0, .inl (cA C 0, 18, .inl (fun _ => 0)))]) ++ [(q1, .inl (cA C 0, 16, .inl (fun _ => 0)))]) kR_X3_15 rfl rfl rfl (Nat.le_of_ble_eq_true rfl) dX3_init_17 rfl ?_
  refine c_aload_n hC dX3_init_20 rfl rfl ?_
  refine c_iconst hC 0 dX3_init_21 (by decide) ?_
  refine c_putI hC (([(h0, .inr (3, [.ref q0, .ref q1, .int 0, .int 0, .int 0]))] ++ [(q0, .inl (cA C 0, 18, .inl (fun _ => 0)))]) ++ [(q1, .inl (cA C 0, 16, .inl (fun _ => 0)))]) kP_X3_18 rfl (by decide) (by decide) (Nat.le_of_ble_eq_true rfl) dX3_init_22 rfl ?_
  refine c_aload_n hC dX3_init_25 rfl rfl ?_
  refine c_iconst hC 0 dX3_init_26 (by decide) ?_
  refine c_putI hC (([(h0, .inr (3, [.ref q0, .ref q1, .int 0, .int 0, .int 0]))] ++ [(q0, .inl (cA C 0, 18, .inl (fun _ => 0)))]) ++ [(q1, .inl (cA C 0, 16, .inl (fun _ => 0)))]) kP_X3_22 rfl (by decide) (by decide) (Nat.le_of_ble_eq_true rfl) dX3_init_27 rfl ?_
  refine c_aload_n hC dX3_init_30 rfl rfl ?_
  refine c_iconst hC 0 dX3_init_31 (by decide) ?_
  refine c_putI hC (([(h0, .inr (3, [.ref q0, .ref q1, .int 0, .int 0, .int 0]))] ++ [(q0, .inl (cA C 0, 18, .inl (fun _ => 0)))]) ++ [(q1, .inl (cA C 0, 16, .inl (fun _ => 0)))]) kP_X3_25 rfl (by decide) (by decide) (Nat.le_of_ble_eq_true rfl) dX3_init_32 rfl ?_
  exact c_ret hC hE (nth [h0, q0, q1]) rfl rfl dX3_init_35
theorem dfX1 : ∀ j, j < 3 → defaultValue (tyX1 j) = vp_V [.null, .null, .int 0] j
  | 0, _ => rfl
  | 1, _ => rfl
  | 2, _ => rfl
  | n + 3, h => absurd h (by omega)
set_option maxHeartbeats 4000000 in
set_option maxRecDepth 100000 in
theorem m_X1_init {l : Launch} {dC : Nat → ClassId} {dI : Nat → Nat → Nat} {dA : Nat → ClassId} : mMC l dC dI dA yX1_init cX1_init 1 2 32 4 53 1 [.null, .null, .int 0] zU (oImg 0) := by
  refine mMCof RX1 [] (by decide +kernel) rfl rfl (Nat.le_of_ble_eq_true rfl) (fun _ => rfl) (fun C h0 e1 e2 e3 e4 hC hI hE => ?_)
  subst e1; subst e2; subst e3; subst e4
  refine c_aload_n hC dX1_init_0 rfl rfl ?_
  refine c_obj hC kO_X1_3 (Nat.le_of_ble_eq_true rfl) (Nat.le_of_ble_eq_true rfl) dX1_init_1 ?_
  refine c_aload_n hC dX1_init_4 rfl rfl ?_
  refine c_bipush hC 18 dX1_init_5 (by decide) ?_
  refine c_newI hC (N := 18) kAI (by decide) (by decide) (Nat.le_of_ble_eq_true rfl) (Nat.le_of_ble_eq_true rfl) (Nat.le_of_ble_eq_true rfl) dX1_init_7 (fun q0 => ?_)
  refine c_putF hC hI ([(h0, .inr (1, [.ref q0, .null, .int 0]))] ++ [(q0, .inl (cA C 0, 18, .inl (fun _ => 0)))]) kR_X1_9 rfl rfl rfl (Nat.le_of_ble_eq_true rfl) dX1_init_9 rfl ?_
  refine c_aload_n hC dX1_init_12 rfl rfl ?_
  refine c_mk hC m_X4_init rfl inX4 tyX4_ok kK_X1_15 kI_X4 (Or.inr ⟨_, kM_X1_17⟩) dfX4 (Nat.le_of_ble_eq_true rfl) (Nat.le_of_ble_eq_true rfl) (Nat.le_of_ble_eq_true rfl) (Nat.le_of_ble_eq_true rfl) (Nat.le_of_ble_eq_true rfl) dX1_init_13 dX1_init_16 dX1_init_17 (fun b1 => ?_)
  refine c_putF hC hI (([(h0, .inr (1, [.ref q0, .ref (b1 0), .int 0]))] ++ [(q0, .inl (cA C 0, 18, .inl (fun _ => 0)))]) ++ bW (cA C) b1 zU (oPrg 0)) kR_X1_18 rfl rfl rfl (Nat.le_of_ble_eq_true rfl) dX1_init_20 rfl ?_
  refine c_aload_n hC dX1_init_23 rfl rfl ?_
  refine c_iconst hC 0 dX1_init_24 (by decide) ?_
  refine c_putI hC (([(h0, .inr (1, [.ref q0, .ref (b1 0), .int 0]))] ++ [(q0, .inl (cA C 0, 18, .inl (fun _ => 0)))]) ++ bW (cA C) b1 zU (oPrg 0)) kP_X1_22 rfl (by decide) (by decide) (Nat.le_of_ble_eq_true rfl) dX1_init_25 rfl ?_
  exact c_ret hC hE (nth [h0, q0, (b1 0), (b1 1), (b1 2)]) rfl rfl dX1_init_28
theorem dfX2 : ∀ j, j < 6 → defaultValue (tyX2 j) = vp_V [.null, .null, .null, .null, .int 0, .int 0] j
  | 0, _ => rfl
  | 1, _ => rfl
  | 2, _ => rfl
  | 3, _ => rfl
  | 4, _ => rfl
  | 5, _ => rfl
  | n + 6, h => absurd h (by omega)
set_option maxHeartbeats 4000000 in
set_option maxRecDepth 100000 in
theorem m_X2_init {l : Launch} {dC : Nat → ClassId} {dI : Nat → Nat → Nat} {dA : Nat → ClassId} : mMC l dC dI dA yX2_init cX2_init 1 2 32 6 83 2 [.null, .null, .null, .null, .int 0, .int 0] zU (oLay 0) := by
  refine mMCof RX2 [] (by decide +kernel) rfl rfl (Nat.le_of_ble_eq_true rfl) (fun _ => rfl) (fun C h0 e1 e2 e3 e4 hC hI hE => ?_)
  subst e1; subst e2; subst e3; subst e4
  refine c_aload_n hC dX2_init_0 rfl rfl ?_
  refine c_obj hC kO_X2_3 (Nat.le_of_ble_eq_true rfl) (Nat.le_of_ble_eq_true rfl) dX2_init_1 ?_
  refine c_aload_n hC dX2_init_4 rfl rfl ?_
  refine c_mk hC m_X4_init rfl inX4 tyX4_ok kK_X2_9 kI_X4 (Or.inr ⟨_, kM_X2_11⟩) dfX4 (Nat.le_of_ble_eq_true rfl) (Nat.le_of_ble_eq_true rfl) (Nat.le_of_ble_eq_true rfl) (Nat.le_of_ble_eq_true rfl) (Nat.le_of_ble_eq_true rfl) dX2_init_5 dX2_init_8 dX2_init_9 (fun b0 => ?_)
  refine c_putF hC hI ([(h0, .inr (2, [.ref (b0 0), .null, .null, .null, .int 0, .int 0]))] ++ bW (cA C) b0 zU (oPrg 0)) kR_X2_12 rfl rfl rfl (Nat.le_of_ble_eq_true rfl) dX2_init_12 rfl ?_
  refine c_aload_n hC dX2_init_15 rfl rfl ?_
  refine c_bipush hC 16 dX2_init_16 (by decide) ?_
  refine c_newI hC (N := 16) kAI (by decide) (by decide) (Nat.le_of_ble_eq_true rfl) (Nat.le_of_ble_eq_true rfl) (Nat.le_of_ble_eq_true rfl) dX2_init_18 (fun q1 => ?_)
  refine c_putF hC hI (([(h0, .inr (2, [.ref (b0 0), .ref q1, .null, .null, .int 0, .int 0]))] ++ bW (cA C) b0 zU (oPrg 0)) ++ [(q1, .inl (cA C 0, 16, .inl (fun _ => 0)))]) kR_X2_18 rfl rfl rfl (Nat.le_of_ble_eq_true rfl) dX2_init_20 rfl ?_
  refine c_aload_n hC dX2_init_23 rfl rfl ?_
  refine c_bipush hC 16 dX2_init_24 (by decide) ?_
  refine c_newI hC (N := 16) kAI (by decide) (by decide) (Nat.le_of_ble_eq_true rfl) (Nat.le_of_ble_eq_true rfl) (Nat.le_of_ble_eq_true rfl) dX2_init_26 (fun q2 => ?_)
  refine c_putF hC hI ((([(h0, .inr (2, [.ref (b0 0), .ref q1, .ref q2, .null, .int 0, .int 0]))] ++ bW (cA C) b0 zU (oPrg 0)) ++ [(q1, .inl (cA C 0, 16, .inl (fun _ => 0)))]) ++ [(q2, .inl (cA C 0, 16, .inl (fun _ => 0)))]) kR_X2_22 rfl rfl rfl (Nat.le_of_ble_eq_true rfl) dX2_init_28 rfl ?_
  refine c_aload_n hC dX2_init_31 rfl rfl ?_
  refine c_bipush hC 16 dX2_init_32 (by decide) ?_
  refine c_newI hC (N := 16) kAI (by decide) (by decide) (Nat.le_of_ble_eq_true rfl) (Nat.le_of_ble_eq_true rfl) (Nat.le_of_ble_eq_true rfl) dX2_init_34 (fun q3 => ?_)
  refine c_putF hC hI (((([(h0, .inr (2, [.ref (b0 0), .ref q1, .ref q2, .ref q3, .int 0, .int 0]))] ++ bW (cA C) b0 zU (oPrg 0)) ++ [(q1, .inl (cA C 0, 16, .inl (fun _ => 0)))]) ++ [(q2, .inl (cA C 0, 16, .inl (fun _ => 0)))]) ++ [(q3, .inl (cA C 0, 16, .inl (fun _ => 0)))]) kR_X2_25 rfl rfl rfl (Nat.le_of_ble_eq_true rfl) dX2_init_36 rfl ?_
  refine c_aload_n hC dX2_init_39 rfl rfl ?_
  refine c_iconst hC 0 dX2_init_40 (by decide) ?_
  refine c_putI hC (((([(h0, .inr (2, [.ref (b0 0), .ref q1, .ref q2, .ref q3, .int 0, .int 0]))] ++ bW (cA C) b0 zU (oPrg 0)) ++ [(q1, .inl (cA C 0, 16, .inl (fun _ => 0)))]) ++ [(q2, .inl (cA C 0, 16, .inl (fun _ => 0)))]) ++ [(q3, .inl (cA C 0, 16, .inl (fun _ => 0)))]) kP_X2_28 rfl (by decide) (by decide) (Nat.le_of_ble_eq_true rfl) dX2_init_41 rfl ?_
  refine c_aload_n hC dX2_init_44 rfl rfl ?_
  refine c_iconst hC 0 dX2_init_45 (by decide) ?_
  refine c_putI hC (((([(h0, .inr (2, [.ref (b0 0), .ref q1, .ref q2, .ref q3, .int 0, .int 0]))] ++ bW (cA C) b0 zU (oPrg 0)) ++ [(q1, .inl (cA C 0, 16, .inl (fun _ => 0)))]) ++ [(q2, .inl (cA C 0, 16, .inl (fun _ => 0)))]) ++ [(q3, .inl (cA C 0, 16, .inl (fun _ => 0)))]) kP_X2_32 rfl (by decide) (by decide) (Nat.le_of_ble_eq_true rfl) dX2_init_46 rfl ?_
  exact c_ret hC hE (nth [h0, (b0 0), (b0 1), (b0 2), q1, q2, q3]) rfl rfl dX2_init_49
