def isRt (k : Nat) : Bool := k == 30 || k == 38 || k == 46 || k == 54 || k == 62 || k == 70
def u6 : MU := fun k => if isRt k = true then (fun j => if j = 2 then -6 else 0) else (fun _ => 0)
theorem row6 (A : Nat → Nat) : va_up (va_up (va_up (va_up (va_up (va_up (fun _ => none) 0 (some (A 30))) 1 (some (A 38))) 2 (some (A 46))) 3 (some (A 54))) 4 (some (A 62))) 5 (some (A 70)) = fun i => (([30, 38, 46, 54, 62, 70] : List Nat)[i]?).map A := by
  funext i
  match i with
  | 0 => rfl
  | 1 => rfl
  | 2 => rfl
  | 3 => rfl
  | 4 => rfl
  | 5 => rfl
  | n + 6 => rw [va_up_ne _ _ (by omega), va_up_ne _ _ (by omega), va_up_ne _ _ (by omega), va_up_ne _ _ (by omega), va_up_ne _ _ (by omega), va_up_ne _ _ (by omega)]; rfl
theorem row2 (A : Nat → Nat) : va_up (va_up (fun _ => none) 0 (some (A 78))) 1 (some (A 83)) = fun i => (([78, 83] : List Nat)[i]?).map A := by
  funext i
  match i with
  | 0 => rfl
  | 1 => rfl
  | n + 2 => rw [va_up_ne _ _ (by omega), va_up_ne _ _ (by omega)]; rfl
theorem dfX6 : ∀ j, j < 8 → defaultValue (tyX6 j) = vp_V [.null, .null, .null, .null, .null, .null, .null, .null] j
  | 0, _ => rfl
  | 1, _ => rfl
  | 2, _ => rfl
  | 3, _ => rfl
  | 4, _ => rfl
  | 5, _ => rfl
  | 6, _ => rfl
  | 7, _ => rfl
  | n + 8, h => absurd h (by omega)
set_option maxHeartbeats 4000000 in
set_option maxRecDepth 100000 in
theorem m_X6_init {l : Launch} {dC : Nat → ClassId} {dI : Nat → Nat → Nat} {dA : Nat → ClassId} : mMC l dC dI dA yX6_init cX6_init 2 3 52 87 1662 6 [.null, .null, .null, .null, .null, .null, .null, .null] u6 mShX := by
  refine mMCof RX6 [none] (by decide +kernel) rfl rfl (Nat.le_of_ble_eq_true rfl) (fun _ => rfl) (fun C h0 e1 e2 e3 e4 hC hI hE => ?_)
  subst e1; subst e2; subst e3; subst e4
  refine c_aload_n hC dX6_init_0 rfl rfl ?_
  refine c_obj hC kO_X6_3 (Nat.le_of_ble_eq_true rfl) (Nat.le_of_ble_eq_true rfl) dX6_init_1 ?_
  refine c_aload_n hC dX6_init_4 rfl rfl ?_
  refine c_bipush hC 6 dX6_init_5 (by decide) ?_
  refine c_newq hC 2 (N := 6) (Or.inl ⟨rfl, rfl⟩) kK_X6_9 (by decide) (by decide) (Nat.le_of_ble_eq_true rfl) (Nat.le_of_ble_eq_true rfl) (Nat.le_of_ble_eq_true rfl) dX6_init_7 (fun q0 => ?_)
  refine c_eq (ws' := ((h0, .inr (6, [.null, .null, .null, .null, .null, .null, .null, .null])) :: (q0, .inl (cA C 2, 6, .inr (.inr (.inr (.inr (fun _ => none)))))) :: [])) rfl ?_
  refine c_putF hC hI ((h0, .inr (6, [.ref q0, .null, .null, .null, .null, .null, .null, .null])) :: (q0, .inl (cA C 2, 6, .inr (.inr (.inr (.inr (fun _ => none)))))) :: []) kR_X6_11 rfl rfl rfl (Nat.le_of_ble_eq_true rfl) dX6_init_10 rfl ?_
  refine c_aload_n hC dX6_init_13 rfl rfl ?_
  refine c_mk hC m_X0_init rfl inX0 tyX0_ok kK_X6_15 kI_X0 (Or.inr ⟨_, kM_X6_17⟩) dfX0 (Nat.le_of_ble_eq_true rfl) (Nat.le_of_ble_eq_true rfl) (Nat.le_of_ble_eq_true rfl) (Nat.le_of_ble_eq_true rfl) (Nat.le_of_ble_eq_true rfl) dX6_init_14 dX6_init_17 dX6_init_18 (fun b1 => ?_)
  refine c_eq (ws' := ((h0, .inr (6, [.ref q0, .null, .null, .null, .null, .null, .null, .null])) :: (q0, .inl (cA C 2, 6, .inr (.inr (.inr (.inr (fun _ => none)))))) :: bW (cA C) b1 zU (oEff 0))) rfl ?_
  refine c_putF hC hI ((h0, .inr (6, [.ref q0, .ref (b1 0), .null, .null, .null, .null, .null, .null])) :: (q0, .inl (cA C 2, 6, .inr (.inr (.inr (.inr (fun _ => none)))))) :: bW (cA C) b1 zU (oEff 0)) kR_X6_18 rfl rfl rfl (Nat.le_of_ble_eq_true rfl) dX6_init_21 rfl ?_
  refine c_aload_n hC dX6_init_24 rfl rfl ?_
  refine c_bipush hC 18 dX6_init_25 (by decide) ?_
  refine c_newI hC (N := 18) kAI (by decide) (by decide) (Nat.le_of_ble_eq_true rfl) (Nat.le_of_ble_eq_true rfl) (Nat.le_of_ble_eq_true rfl) dX6_init_27 (fun q2 => ?_)
  refine c_eq (ws' := ((h0, .inr (6, [.ref q0, .ref (b1 0), .null, .null, .null, .null, .null, .null])) :: (q0, .inl (cA C 2, 6, .inr (.inr (.inr (.inr (fun _ => none)))))) :: (bW (cA C) b1 zU (oEff 0) ++ [(q2, .inl (cA C 0, 18, .inl (fun _ => 0)))]))) rfl ?_
  refine c_putF hC hI ((h0, .inr (6, [.ref q0, .ref (b1 0), .ref q2, .null, .null, .null, .null, .null])) :: (q0, .inl (cA C 2, 6, .inr (.inr (.inr (.inr (fun _ => none)))))) :: (bW (cA C) b1 zU (oEff 0) ++ [(q2, .inl (cA C 0, 18, .inl (fun _ => 0)))])) kR_X6_22 rfl rfl rfl (Nat.le_of_ble_eq_true rfl) dX6_init_29 rfl ?_
  refine c_aload_n hC dX6_init_32 rfl rfl ?_
  refine c_mk hC m_X4_init rfl inX4 tyX4_ok kK_X6_26 kI_X4 (Or.inr ⟨_, kM_X6_28⟩) dfX4 (Nat.le_of_ble_eq_true rfl) (Nat.le_of_ble_eq_true rfl) (Nat.le_of_ble_eq_true rfl) (Nat.le_of_ble_eq_true rfl) (Nat.le_of_ble_eq_true rfl) dX6_init_33 dX6_init_36 dX6_init_37 (fun b3 => ?_)
  refine c_eq (ws' := ((h0, .inr (6, [.ref q0, .ref (b1 0), .ref q2, .null, .null, .null, .null, .null])) :: (q0, .inl (cA C 2, 6, .inr (.inr (.inr (.inr (fun _ => none)))))) :: ((bW (cA C) b1 zU (oEff 0) ++ [(q2, .inl (cA C 0, 18, .inl (fun _ => 0)))]) ++ bW (cA C) b3 zU (oPrg 0)))) rfl ?_
  refine c_putF hC hI ((h0, .inr (6, [.ref q0, .ref (b1 0), .ref q2, .ref (b3 0), .null, .null, .null, .null])) :: (q0, .inl (cA C 2, 6, .inr (.inr (.inr (.inr (fun _ => none)))))) :: ((bW (cA C) b1 zU (oEff 0) ++ [(q2, .inl (cA C 0, 18, .inl (fun _ => 0)))]) ++ bW (cA C) b3 zU (oPrg 0))) kR_X6_29 rfl rfl rfl (Nat.le_of_ble_eq_true rfl) dX6_init_40 rfl ?_
  refine c_aload_n hC dX6_init_43 rfl rfl ?_
  refine c_iconst hC 2 dX6_init_44 (by decide) ?_
  refine c_newq hC 3 (N := 2) (Or.inr ⟨rfl, rfl⟩) kK_X6_33 (by decide) (by decide) (Nat.le_of_ble_eq_true rfl) (Nat.le_of_ble_eq_true rfl) (Nat.le_of_ble_eq_true rfl) dX6_init_45 (fun q4 => ?_)
  refine c_eq (ws' := ((h0, .inr (6, [.ref q0, .ref (b1 0), .ref q2, .ref (b3 0), .null, .null, .null, .null])) :: (q0, .inl (cA C 2, 6, .inr (.inr (.inr (.inr (fun _ => none)))))) :: (((bW (cA C) b1 zU (oEff 0) ++ [(q2, .inl (cA C 0, 18, .inl (fun _ => 0)))]) ++ bW (cA C) b3 zU (oPrg 0)) ++ [(q4, .inl (cA C 3, 2, .inr (.inr (.inr (.inr (fun _ => none))))))]))) rfl ?_
  refine c_putF hC hI ((h0, .inr (6, [.ref q0, .ref (b1 0), .ref q2, .ref (b3 0), .ref q4, .null, .null, .null])) :: (q0, .inl (cA C 2, 6, .inr (.inr (.inr (.inr (fun _ => none)))))) :: (((bW (cA C) b1 zU (oEff 0) ++ [(q2, .inl (cA C 0, 18, .inl (fun _ => 0)))]) ++ bW (cA C) b3 zU (oPrg 0)) ++ [(q4, .inl (cA C 3, 2, .inr (.inr (.inr (.inr (fun _ => none))))))])) kR_X6_35 rfl rfl rfl (Nat.le_of_ble_eq_true rfl) dX6_init_48 rfl ?_
  refine c_aload_n hC dX6_init_51 rfl rfl ?_
  refine c_mk hC m_X2_init rfl inX2 tyX2_ok kK_X6_39 kI_X2 (Or.inr ⟨_, kM_X6_41⟩) dfX2 (Nat.le_of_ble_eq_true rfl) (Nat.le_of_ble_eq_true rfl) (Nat.le_of_ble_eq_true rfl) (Nat.le_of_ble_eq_true rfl) (Nat.le_of_ble_eq_true rfl) dX6_init_52 dX6_init_55 dX6_init_56 (fun b5 => ?_)
  refine c_eq (ws' := ((h0, .inr (6, [.ref q0, .ref (b1 0), .ref q2, .ref (b3 0), .ref q4, .null, .null, .null])) :: (q0, .inl (cA C 2, 6, .inr (.inr (.inr (.inr (fun _ => none)))))) :: ((((bW (cA C) b1 zU (oEff 0) ++ [(q2, .inl (cA C 0, 18, .inl (fun _ => 0)))]) ++ bW (cA C) b3 zU (oPrg 0)) ++ [(q4, .inl (cA C 3, 2, .inr (.inr (.inr (.inr (fun _ => none))))))]) ++ bW (cA C) b5 zU (oLay 0)))) rfl ?_
  refine c_putF hC hI ((h0, .inr (6, [.ref q0, .ref (b1 0), .ref q2, .ref (b3 0), .ref q4, .ref (b5 0), .null, .null])) :: (q0, .inl (cA C 2, 6, .inr (.inr (.inr (.inr (fun _ => none)))))) :: ((((bW (cA C) b1 zU (oEff 0) ++ [(q2, .inl (cA C 0, 18, .inl (fun _ => 0)))]) ++ bW (cA C) b3 zU (oPrg 0)) ++ [(q4, .inl (cA C 3, 2, .inr (.inr (.inr (.inr (fun _ => none))))))]) ++ bW (cA C) b5 zU (oLay 0))) kR_X6_42 rfl rfl rfl (Nat.le_of_ble_eq_true rfl) dX6_init_59 rfl ?_
  refine c_aload_n hC dX6_init_62 rfl rfl ?_
  refine c_mk hC m_X2_init rfl inX2 tyX2_ok kK_X6_39 kI_X2 (Or.inr ⟨_, kM_X6_41⟩) dfX2 (Nat.le_of_ble_eq_true rfl) (Nat.le_of_ble_eq_true rfl) (Nat.le_of_ble_eq_true rfl) (Nat.le_of_ble_eq_true rfl) (Nat.le_of_ble_eq_true rfl) dX6_init_63 dX6_init_66 dX6_init_67 (fun b6 => ?_)
  refine c_eq (ws' := ((h0, .inr (6, [.ref q0, .ref (b1 0), .ref q2, .ref (b3 0), .ref q4, .ref (b5 0), .null, .null])) :: (q0, .inl (cA C 2, 6, .inr (.inr (.inr (.inr (fun _ => none)))))) :: (((((bW (cA C) b1 zU (oEff 0) ++ [(q2, .inl (cA C 0, 18, .inl (fun _ => 0)))]) ++ bW (cA C) b3 zU (oPrg 0)) ++ [(q4, .inl (cA C 3, 2, .inr (.inr (.inr (.inr (fun _ => none))))))]) ++ bW (cA C) b5 zU (oLay 0)) ++ bW (cA C) b6 zU (oLay 0)))) rfl ?_
  refine c_putF hC hI ((h0, .inr (6, [.ref q0, .ref (b1 0), .ref q2, .ref (b3 0), .ref q4, .ref (b5 0), .ref (b6 0), .null])) :: (q0, .inl (cA C 2, 6, .inr (.inr (.inr (.inr (fun _ => none)))))) :: (((((bW (cA C) b1 zU (oEff 0) ++ [(q2, .inl (cA C 0, 18, .inl (fun _ => 0)))]) ++ bW (cA C) b3 zU (oPrg 0)) ++ [(q4, .inl (cA C 3, 2, .inr (.inr (.inr (.inr (fun _ => none))))))]) ++ bW (cA C) b5 zU (oLay 0)) ++ bW (cA C) b6 zU (oLay 0))) kR_X6_46 rfl rfl rfl (Nat.le_of_ble_eq_true rfl) dX6_init_70 rfl ?_
  refine c_aload_n hC dX6_init_73 rfl rfl ?_
  refine c_mk hC m_X3_init rfl inX3 tyX3_ok kK_X6_49 kI_X3 (Or.inr ⟨_, kM_X6_51⟩) dfX3 (Nat.le_of_ble_eq_true rfl) (Nat.le_of_ble_eq_true rfl) (Nat.le_of_ble_eq_true rfl) (Nat.le_of_ble_eq_true rfl) (Nat.le_of_ble_eq_true rfl) dX6_init_74 dX6_init_77 dX6_init_78 (fun b7 => ?_)
  refine c_eq (ws' := ((h0, .inr (6, [.ref q0, .ref (b1 0), .ref q2, .ref (b3 0), .ref q4, .ref (b5 0), .ref (b6 0), .null])) :: (q0, .inl (cA C 2, 6, .inr (.inr (.inr (.inr (fun _ => none)))))) :: ((((((bW (cA C) b1 zU (oEff 0) ++ [(q2, .inl (cA C 0, 18, .inl (fun _ => 0)))]) ++ bW (cA C) b3 zU (oPrg 0)) ++ [(q4, .inl (cA C 3, 2, .inr (.inr (.inr (.inr (fun _ => none))))))]) ++ bW (cA C) b5 zU (oLay 0)) ++ bW (cA C) b6 zU (oLay 0)) ++ bW (cA C) b7 zU (oMac 0)))) rfl ?_
  refine c_putF hC hI ((h0, .inr (6, [.ref q0, .ref (b1 0), .ref q2, .ref (b3 0), .ref q4, .ref (b5 0), .ref (b6 0), .ref (b7 0)])) :: (q0, .inl (cA C 2, 6, .inr (.inr (.inr (.inr (fun _ => none)))))) :: ((((((bW (cA C) b1 zU (oEff 0) ++ [(q2, .inl (cA C 0, 18, .inl (fun _ => 0)))]) ++ bW (cA C) b3 zU (oPrg 0)) ++ [(q4, .inl (cA C 3, 2, .inr (.inr (.inr (.inr (fun _ => none))))))]) ++ bW (cA C) b5 zU (oLay 0)) ++ bW (cA C) b6 zU (oLay 0)) ++ bW (cA C) b7 zU (oMac 0))) kR_X6_52 rfl rfl rfl (Nat.le_of_ble_eq_true rfl) dX6_init_81 rfl ?_
  refine c_iconst hC 0 dX6_init_84 (by decide) ?_
  refine c_istore_n hC [some (.ref h0), some (.int 0)] dX6_init_85 rfl rfl (Nat.le_of_ble_eq_true rfl) (Nat.le_of_ble_eq_true rfl) rfl ?_
  refine c_iload_n hC dX6_init_86 rfl rfl ?_
  refine c_bipush hC 6 dX6_init_87 (by decide) ?_
  refine c_icmp_geN hC 111 dX6_init_89 (by decide) (by decide) ?_
  refine c_aload_n hC dX6_init_92 rfl rfl ?_
  refine c_getF hC kF_X6_11 rfl rfl dX6_init_93 ?_
  refine c_iload_n hC dX6_init_96 rfl rfl ?_
  refine c_mk hC m_X5_init rfl inX5 tyX5_ok kK_X6_9 kI_X5 (Or.inr ⟨_, kM_X6_56⟩) dfX5 (Nat.le_of_ble_eq_true rfl) (Nat.le_of_ble_eq_true rfl) (Nat.le_of_ble_eq_true rfl) (Nat.le_of_ble_eq_true rfl) (Nat.le_of_ble_eq_true rfl) dX6_init_97 dX6_init_100 dX6_init_101 (fun b8 => ?_)
  refine c_eq (ws' := ((h0, .inr (6, [.ref q0, .ref (b1 0), .ref q2, .ref (b3 0), .ref q4, .ref (b5 0), .ref (b6 0), .ref (b7 0)])) :: (q0, .inl (cA C 2, 6, .inr (.inr (.inr (.inr (fun _ => none)))))) :: (((((((bW (cA C) b1 zU (oEff 0) ++ [(q2, .inl (cA C 0, 18, .inl (fun _ => 0)))]) ++ bW (cA C) b3 zU (oPrg 0)) ++ [(q4, .inl (cA C 3, 2, .inr (.inr (.inr (.inr (fun _ => none))))))]) ++ bW (cA C) b5 zU (oLay 0)) ++ bW (cA C) b6 zU (oLay 0)) ++ bW (cA C) b7 zU (oMac 0)) ++ bW (cA C) b8 zR (oRtn 0)))) rfl ?_
  refine c_aast hC (t := 2) (j := 0) (r := (RX5, TX5, 12)) 1 30 ((h0, .inr (6, [.ref q0, .ref (b1 0), .ref q2, .ref (b3 0), .ref q4, .ref (b5 0), .ref (b6 0), .ref (b7 0)])) :: (q0, .inl (cA C 2, 6, .inr (.inr (.inr (.inr (va_up (fun _ => none) 0 (some (b8 0)))))))) :: (((((((bW (cA C) b1 zU (oEff 0) ++ [(q2, .inl (cA C 0, 18, .inl (fun _ => 0)))]) ++ bW (cA C) b3 zU (oPrg 0)) ++ [(q4, .inl (cA C 3, 2, .inr (.inr (.inr (.inr (fun _ => none))))))]) ++ bW (cA C) b5 zU (oLay 0)) ++ bW (cA C) b6 zU (oLay 0)) ++ bW (cA C) b7 zU (oMac 0)) ++ bW (cA C) b8 zR (oRtn 0))) rfl (fun _ => rfl) rfl rfl (by decide) (by decide) dX6_init_104 rfl ?_
  refine c_iinc hC 1 [some (.ref h0), some (.int 1)] dX6_init_105 rfl (by decide) rfl (Nat.le_of_ble_eq_true rfl) rfl ?_
  refine c_goto hC 86 dX6_init_108 (by decide) ?_
  refine c_iload_n hC dX6_init_86 rfl rfl ?_
  refine c_bipush hC 6 dX6_init_87 (by decide) ?_
  refine c_icmp_geN hC 111 dX6_init_89 (by decide) (by decide) ?_
  refine c_aload_n hC dX6_init_92 rfl rfl ?_
  refine c_getF hC kF_X6_11 rfl rfl dX6_init_93 ?_
  refine c_iload_n hC dX6_init_96 rfl rfl ?_
  refine c_mk hC m_X5_init rfl inX5 tyX5_ok kK_X6_9 kI_X5 (Or.inr ⟨_, kM_X6_56⟩) dfX5 (Nat.le_of_ble_eq_true rfl) (Nat.le_of_ble_eq_true rfl) (Nat.le_of_ble_eq_true rfl) (Nat.le_of_ble_eq_true rfl) (Nat.le_of_ble_eq_true rfl) dX6_init_97 dX6_init_100 dX6_init_101 (fun b9 => ?_)
  refine c_eq (ws' := ((h0, .inr (6, [.ref q0, .ref (b1 0), .ref q2, .ref (b3 0), .ref q4, .ref (b5 0), .ref (b6 0), .ref (b7 0)])) :: (q0, .inl (cA C 2, 6, .inr (.inr (.inr (.inr (va_up (fun _ => none) 0 (some (b8 0)))))))) :: ((((((((bW (cA C) b1 zU (oEff 0) ++ [(q2, .inl (cA C 0, 18, .inl (fun _ => 0)))]) ++ bW (cA C) b3 zU (oPrg 0)) ++ [(q4, .inl (cA C 3, 2, .inr (.inr (.inr (.inr (fun _ => none))))))]) ++ bW (cA C) b5 zU (oLay 0)) ++ bW (cA C) b6 zU (oLay 0)) ++ bW (cA C) b7 zU (oMac 0)) ++ bW (cA C) b8 zR (oRtn 0)) ++ bW (cA C) b9 zR (oRtn 0)))) rfl ?_
  refine c_aast hC (t := 2) (j := 1) (r := (RX5, TX5, 12)) 1 38 ((h0, .inr (6, [.ref q0, .ref (b1 0), .ref q2, .ref (b3 0), .ref q4, .ref (b5 0), .ref (b6 0), .ref (b7 0)])) :: (q0, .inl (cA C 2, 6, .inr (.inr (.inr (.inr (va_up (va_up (fun _ => none) 0 (some (b8 0))) 1 (some (b9 0)))))))) :: ((((((((bW (cA C) b1 zU (oEff 0) ++ [(q2, .inl (cA C 0, 18, .inl (fun _ => 0)))]) ++ bW (cA C) b3 zU (oPrg 0)) ++ [(q4, .inl (cA C 3, 2, .inr (.inr (.inr (.inr (fun _ => none))))))]) ++ bW (cA C) b5 zU (oLay 0)) ++ bW (cA C) b6 zU (oLay 0)) ++ bW (cA C) b7 zU (oMac 0)) ++ bW (cA C) b8 zR (oRtn 0)) ++ bW (cA C) b9 zR (oRtn 0))) rfl (fun _ => rfl) rfl rfl (by decide) (by decide) dX6_init_104 rfl ?_
  refine c_iinc hC 2 [some (.ref h0), some (.int 2)] dX6_init_105 rfl (by decide) rfl (Nat.le_of_ble_eq_true rfl) rfl ?_
  refine c_goto hC 86 dX6_init_108 (by decide) ?_
  refine c_iload_n hC dX6_init_86 rfl rfl ?_
  refine c_bipush hC 6 dX6_init_87 (by decide) ?_
  refine c_icmp_geN hC 111 dX6_init_89 (by decide) (by decide) ?_
  refine c_aload_n hC dX6_init_92 rfl rfl ?_
  refine c_getF hC kF_X6_11 rfl rfl dX6_init_93 ?_
  refine c_iload_n hC dX6_init_96 rfl rfl ?_
  refine c_mk hC m_X5_init rfl inX5 tyX5_ok kK_X6_9 kI_X5 (Or.inr ⟨_, kM_X6_56⟩) dfX5 (Nat.le_of_ble_eq_true rfl) (Nat.le_of_ble_eq_true rfl) (Nat.le_of_ble_eq_true rfl) (Nat.le_of_ble_eq_true rfl) (Nat.le_of_ble_eq_true rfl) dX6_init_97 dX6_init_100 dX6_init_101 (fun b10 => ?_)
  refine c_eq (ws' := ((h0, .inr (6, [.ref q0, .ref (b1 0), .ref q2, .ref (b3 0), .ref q4, .ref (b5 0), .ref (b6 0), .ref (b7 0)])) :: (q0, .inl (cA C 2, 6, .inr (.inr (.inr (.inr (va_up (va_up (fun _ => none) 0 (some (b8 0))) 1 (some (b9 0)))))))) :: (((((((((bW (cA C) b1 zU (oEff 0) ++ [(q2, .inl (cA C 0, 18, .inl (fun _ => 0)))]) ++ bW (cA C) b3 zU (oPrg 0)) ++ [(q4, .inl (cA C 3, 2, .inr (.inr (.inr (.inr (fun _ => none))))))]) ++ bW (cA C) b5 zU (oLay 0)) ++ bW (cA C) b6 zU (oLay 0)) ++ bW (cA C) b7 zU (oMac 0)) ++ bW (cA C) b8 zR (oRtn 0)) ++ bW (cA C) b9 zR (oRtn 0)) ++ bW (cA C) b10 zR (oRtn 0)))) rfl ?_
  refine c_aast hC (t := 2) (j := 2) (r := (RX5, TX5, 12)) 1 46 ((h0, .inr (6, [.ref q0, .ref (b1 0), .ref q2, .ref (b3 0), .ref q4, .ref (b5 0), .ref (b6 0), .ref (b7 0)])) :: (q0, .inl (cA C 2, 6, .inr (.inr (.inr (.inr (va_up (va_up (va_up (fun _ => none) 0 (some (b8 0))) 1 (some (b9 0))) 2 (some (b10 0)))))))) :: (((((((((bW (cA C) b1 zU (oEff 0) ++ [(q2, .inl (cA C 0, 18, .inl (fun _ => 0)))]) ++ bW (cA C) b3 zU (oPrg 0)) ++ [(q4, .inl (cA C 3, 2, .inr (.inr (.inr (.inr (fun _ => none))))))]) ++ bW (cA C) b5 zU (oLay 0)) ++ bW (cA C) b6 zU (oLay 0)) ++ bW (cA C) b7 zU (oMac 0)) ++ bW (cA C) b8 zR (oRtn 0)) ++ bW (cA C) b9 zR (oRtn 0)) ++ bW (cA C) b10 zR (oRtn 0))) rfl (fun _ => rfl) rfl rfl (by decide) (by decide) dX6_init_104 rfl ?_
  refine c_iinc hC 3 [some (.ref h0), some (.int 3)] dX6_init_105 rfl (by decide) rfl (Nat.le_of_ble_eq_true rfl) rfl ?_
  refine c_goto hC 86 dX6_init_108 (by decide) ?_
  refine c_iload_n hC dX6_init_86 rfl rfl ?_
  refine c_bipush hC 6 dX6_init_87 (by decide) ?_
  refine c_icmp_geN hC 111 dX6_init_89 (by decide) (by decide) ?_
  refine c_aload_n hC dX6_init_92 rfl rfl ?_
  refine c_getF hC kF_X6_11 rfl rfl dX6_init_93 ?_
  refine c_iload_n hC dX6_init_96 rfl rfl ?_
  refine c_mk hC m_X5_init rfl inX5 tyX5_ok kK_X6_9 kI_X5 (Or.inr ⟨_, kM_X6_56⟩) dfX5 (Nat.le_of_ble_eq_true rfl) (Nat.le_of_ble_eq_true rfl) (Nat.le_of_ble_eq_true rfl) (Nat.le_of_ble_eq_true rfl) (Nat.le_of_ble_eq_true rfl) dX6_init_97 dX6_init_100 dX6_init_101 (fun b11 => ?_)
  refine c_eq (ws' := ((h0, .inr (6, [.ref q0, .ref (b1 0), .ref q2, .ref (b3 0), .ref q4, .ref (b5 0), .ref (b6 0), .ref (b7 0)])) :: (q0, .inl (cA C 2, 6, .inr (.inr (.inr (.inr (va_up (va_up (va_up (fun _ => none) 0 (some (b8 0))) 1 (some (b9 0))) 2 (some (b10 0)))))))) :: ((((((((((bW (cA C) b1 zU (oEff 0) ++ [(q2, .inl (cA C 0, 18, .inl (fun _ => 0)))]) ++ bW (cA C) b3 zU (oPrg 0)) ++ [(q4, .inl (cA C 3, 2, .inr (.inr (.inr (.inr (fun _ => none))))))]) ++ bW (cA C) b5 zU (oLay 0)) ++ bW (cA C) b6 zU (oLay 0)) ++ bW (cA C) b7 zU (oMac 0)) ++ bW (cA C) b8 zR (oRtn 0)) ++ bW (cA C) b9 zR (oRtn 0)) ++ bW (cA C) b10 zR (oRtn 0)) ++ bW (cA C) b11 zR (oRtn 0)))) rfl ?_
  refine c_aast hC (t := 2) (j := 3) (r := (RX5, TX5, 12)) 1 54 ((h0, .inr (6, [.ref q0, .ref (b1 0), .ref q2, .ref (b3 0), .ref q4, .ref (b5 0), .ref (b6 0), .ref (b7 0)])) :: (q0, .inl (cA C 2, 6, .inr (.inr (.inr (.inr (va_up (va_up (va_up (va_up (fun _ => none) 0 (some (b8 0))) 1 (some (b9 0))) 2 (some (b10 0))) 3 (some (b11 0)))))))) :: ((((((((((bW (cA C) b1 zU (oEff 0) ++ [(q2, .inl (cA C 0, 18, .inl (fun _ => 0)))]) ++ bW (cA C) b3 zU (oPrg 0)) ++ [(q4, .inl (cA C 3, 2, .inr (.inr (.inr (.inr (fun _ => none))))))]) ++ bW (cA C) b5 zU (oLay 0)) ++ bW (cA C) b6 zU (oLay 0)) ++ bW (cA C) b7 zU (oMac 0)) ++ bW (cA C) b8 zR (oRtn 0)) ++ bW (cA C) b9 zR (oRtn 0)) ++ bW (cA C) b10 zR (oRtn 0)) ++ bW (cA C) b11 zR (oRtn 0))) rfl (fun _ => rfl) rfl rfl (by decide) (by decide) dX6_init_104 rfl ?_
  refine c_iinc hC 4 [some (.ref h0), some (.int 4)] dX6_init_105 rfl (by decide) rfl (Nat.le_of_ble_eq_true rfl) rfl ?_
  refine c_goto hC 86 dX6_init_108 (by decide) ?_
  refine c_iload_n hC dX6_init_86 rfl rfl ?_
  refine c_bipush hC 6 dX6_init_87 (by decide) ?_
  refine c_icmp_geN hC 111 dX6_init_89 (by decide) (by decide) ?_
  refine c_aload_n hC dX6_init_92 rfl rfl ?_
  refine c_getF hC kF_X6_11 rfl rfl dX6_init_93 ?_
  refine c_iload_n hC dX6_init_96 rfl rfl ?_
  refine c_mk hC m_X5_init rfl inX5 tyX5_ok kK_X6_9 kI_X5 (Or.inr ⟨_, kM_X6_56⟩) dfX5 (Nat.le_of_ble_eq_true rfl) (Nat.le_of_ble_eq_true rfl) (Nat.le_of_ble_eq_true rfl) (Nat.le_of_ble_eq_true rfl) (Nat.le_of_ble_eq_true rfl) dX6_init_97 dX6_init_100 dX6_init_101 (fun b12 => ?_)
  refine c_eq (ws' := ((h0, .inr (6, [.ref q0, .ref (b1 0), .ref q2, .ref (b3 0), .ref q4, .ref (b5 0), .ref (b6 0), .ref (b7 0)])) :: (q0, .inl (cA C 2, 6, .inr (.inr (.inr (.inr (va_up (va_up (va_up (va_up (fun _ => none) 0 (some (b8 0))) 1 (some (b9 0))) 2 (some (b10 0))) 3 (some (b11 0)))))))) :: (((((((((((bW (cA C) b1 zU (oEff 0) ++ [(q2, .inl (cA C 0, 18, .inl (fun _ => 0)))]) ++ bW (cA C) b3 zU (oPrg 0)) ++ [(q4, .inl (cA C 3, 2, .inr (.inr (.inr (.inr (fun _ => none))))))]) ++ bW (cA C) b5 zU (oLay 0)) ++ bW (cA C) b6 zU (oLay 0)) ++ bW (cA C) b7 zU (oMac 0)) ++ bW (cA C) b8 zR (oRtn 0)) ++ bW (cA C) b9 zR (oRtn 0)) ++ bW (cA C) b10 zR (oRtn 0)) ++ bW (cA C) b11 zR (oRtn 0)) ++ bW (cA C) b12 zR (oRtn 0)))) rfl ?_
  refine c_aast hC (t := 2) (j := 4) (r := (RX5, TX5, 12)) 1 62 ((h0, .inr (6, [.ref q0, .ref (b1 0), .ref q2, .ref (b3 0), .ref q4, .ref (b5 0), .ref (b6 0), .ref (b7 0)])) :: (q0, .inl (cA C 2, 6, .inr (.inr (.inr (.inr (va_up (va_up (va_up (va_up (va_up (fun _ => none) 0 (some (b8 0))) 1 (some (b9 0))) 2 (some (b10 0))) 3 (some (b11 0))) 4 (some (b12 0)))))))) :: (((((((((((bW (cA C) b1 zU (oEff 0) ++ [(q2, .inl (cA C 0, 18, .inl (fun _ => 0)))]) ++ bW (cA C) b3 zU (oPrg 0)) ++ [(q4, .inl (cA C 3, 2, .inr (.inr (.inr (.inr (fun _ => none))))))]) ++ bW (cA C) b5 zU (oLay 0)) ++ bW (cA C) b6 zU (oLay 0)) ++ bW (cA C) b7 zU (oMac 0)) ++ bW (cA C) b8 zR (oRtn 0)) ++ bW (cA C) b9 zR (oRtn 0)) ++ bW (cA C) b10 zR (oRtn 0)) ++ bW (cA C) b11 zR (oRtn 0)) ++ bW (cA C) b12 zR (oRtn 0))) rfl (fun _ => rfl) rfl rfl (by decide) (by decide) dX6_init_104 rfl ?_
  refine c_iinc hC 5 [some (.ref h0), some (.int 5)] dX6_init_105 rfl (by decide) rfl (Nat.le_of_ble_eq_true rfl) rfl ?_
  refine c_goto hC 86 dX6_init_108 (by decide) ?_
  refine c_iload_n hC dX6_init_86 rfl rfl ?_
  refine c_bipush hC 6 dX6_init_87 (by decide) ?_
  refine c_icmp_geN hC 111 dX6_init_89 (by decide) (by decide) ?_
  refine c_aload_n hC dX6_init_92 rfl rfl ?_
  refine c_getF hC kF_X6_11 rfl rfl dX6_init_93 ?_
  refine c_iload_n hC dX6_init_96 rfl rfl ?_
  refine c_mk hC m_X5_init rfl inX5 tyX5_ok kK_X6_9 kI_X5 (Or.inr ⟨_, kM_X6_56⟩) dfX5 (Nat.le_of_ble_eq_true rfl) (Nat.le_of_ble_eq_true rfl) (Nat.le_of_ble_eq_true rfl) (Nat.le_of_ble_eq_true rfl) (Nat.le_of_ble_eq_true rfl) dX6_init_97 dX6_init_100 dX6_init_101 (fun b13 => ?_)
  refine c_eq (ws' := ((h0, .inr (6, [.ref q0, .ref (b1 0), .ref q2, .ref (b3 0), .ref q4, .ref (b5 0), .ref (b6 0), .ref (b7 0)])) :: (q0, .inl (cA C 2, 6, .inr (.inr (.inr (.inr (va_up (va_up (va_up (va_up (va_up (fun _ => none) 0 (some (b8 0))) 1 (some (b9 0))) 2 (some (b10 0))) 3 (some (b11 0))) 4 (some (b12 0)))))))) :: ((((((((((((bW (cA C) b1 zU (oEff 0) ++ [(q2, .inl (cA C 0, 18, .inl (fun _ => 0)))]) ++ bW (cA C) b3 zU (oPrg 0)) ++ [(q4, .inl (cA C 3, 2, .inr (.inr (.inr (.inr (fun _ => none))))))]) ++ bW (cA C) b5 zU (oLay 0)) ++ bW (cA C) b6 zU (oLay 0)) ++ bW (cA C) b7 zU (oMac 0)) ++ bW (cA C) b8 zR (oRtn 0)) ++ bW (cA C) b9 zR (oRtn 0)) ++ bW (cA C) b10 zR (oRtn 0)) ++ bW (cA C) b11 zR (oRtn 0)) ++ bW (cA C) b12 zR (oRtn 0)) ++ bW (cA C) b13 zR (oRtn 0)))) rfl ?_
  refine c_aast hC (t := 2) (j := 5) (r := (RX5, TX5, 12)) 1 70 ((h0, .inr (6, [.ref q0, .ref (b1 0), .ref q2, .ref (b3 0), .ref q4, .ref (b5 0), .ref (b6 0), .ref (b7 0)])) :: (q0, .inl (cA C 2, 6, .inr (.inr (.inr (.inr (va_up (va_up (va_up (va_up (va_up (va_up (fun _ => none) 0 (some (b8 0))) 1 (some (b9 0))) 2 (some (b10 0))) 3 (some (b11 0))) 4 (some (b12 0))) 5 (some (b13 0)))))))) :: ((((((((((((bW (cA C) b1 zU (oEff 0) ++ [(q2, .inl (cA C 0, 18, .inl (fun _ => 0)))]) ++ bW (cA C) b3 zU (oPrg 0)) ++ [(q4, .inl (cA C 3, 2, .inr (.inr (.inr (.inr (fun _ => none))))))]) ++ bW (cA C) b5 zU (oLay 0)) ++ bW (cA C) b6 zU (oLay 0)) ++ bW (cA C) b7 zU (oMac 0)) ++ bW (cA C) b8 zR (oRtn 0)) ++ bW (cA C) b9 zR (oRtn 0)) ++ bW (cA C) b10 zR (oRtn 0)) ++ bW (cA C) b11 zR (oRtn 0)) ++ bW (cA C) b12 zR (oRtn 0)) ++ bW (cA C) b13 zR (oRtn 0))) rfl (fun _ => rfl) rfl rfl (by decide) (by decide) dX6_init_104 rfl ?_
  refine c_iinc hC 6 [some (.ref h0), some (.int 6)] dX6_init_105 rfl (by decide) rfl (Nat.le_of_ble_eq_true rfl) rfl ?_
  refine c_goto hC 86 dX6_init_108 (by decide) ?_
  refine c_iload_n hC dX6_init_86 rfl rfl ?_
  refine c_bipush hC 6 dX6_init_87 (by decide) ?_
  refine c_icmp_geY hC 111 dX6_init_89 (by decide) (by decide) ?_
  refine c_iconst hC 0 dX6_init_111 (by decide) ?_
  refine c_istore_n hC [some (.ref h0), some (.int 0)] dX6_init_112 rfl rfl (Nat.le_of_ble_eq_true rfl) (Nat.le_of_ble_eq_true rfl) rfl ?_
  refine c_iload_n hC dX6_init_113 rfl rfl ?_
  refine c_iconst hC 2 dX6_init_114 (by decide) ?_
  refine c_icmp_geN hC 137 dX6_init_115 (by decide) (by decide) ?_
  refine c_aload_n hC dX6_init_118 rfl rfl ?_
  refine c_getF hC kF_X6_35 rfl rfl dX6_init_119 ?_
  refine c_iload_n hC dX6_init_122 rfl rfl ?_
  refine c_mk hC m_X1_init rfl inX1 tyX1_ok kK_X6_33 kI_X1 (Or.inr ⟨_, kM_X6_57⟩) dfX1 (Nat.le_of_ble_eq_true rfl) (Nat.le_of_ble_eq_true rfl) (Nat.le_of_ble_eq_true rfl) (Nat.le_of_ble_eq_true rfl) (Nat.le_of_ble_eq_true rfl) dX6_init_123 dX6_init_126 dX6_init_127 (fun b14 => ?_)
  refine c_eq (ws' := ((h0, .inr (6, [.ref q0, .ref (b1 0), .ref q2, .ref (b3 0), .ref q4, .ref (b5 0), .ref (b6 0), .ref (b7 0)])) :: (q0, .inl (cA C 2, 6, .inr (.inr (.inr (.inr (va_up (va_up (va_up (va_up (va_up (va_up (fun _ => none) 0 (some (b8 0))) 1 (some (b9 0))) 2 (some (b10 0))) 3 (some (b11 0))) 4 (some (b12 0))) 5 (some (b13 0)))))))) :: (((((((((((((bW (cA C) b1 zU (oEff 0) ++ [(q2, .inl (cA C 0, 18, .inl (fun _ => 0)))]) ++ bW (cA C) b3 zU (oPrg 0)) ++ [(q4, .inl (cA C 3, 2, .inr (.inr (.inr (.inr (fun _ => none))))))]) ++ bW (cA C) b5 zU (oLay 0)) ++ bW (cA C) b6 zU (oLay 0)) ++ bW (cA C) b7 zU (oMac 0)) ++ bW (cA C) b8 zR (oRtn 0)) ++ bW (cA C) b9 zR (oRtn 0)) ++ bW (cA C) b10 zR (oRtn 0)) ++ bW (cA C) b11 zR (oRtn 0)) ++ bW (cA C) b12 zR (oRtn 0)) ++ bW (cA C) b13 zR (oRtn 0)) ++ bW (cA C) b14 zU (oImg 0)))) rfl ?_
  refine c_aast hC (t := 3) (j := 0) (r := (RX1, TX1, 3)) 12 78 ((h0, .inr (6, [.ref q0, .ref (b1 0), .ref q2, .ref (b3 0), .ref q4, .ref (b5 0), .ref (b6 0), .ref (b7 0)])) :: (q0, .inl (cA C 2, 6, .inr (.inr (.inr (.inr (va_up (va_up (va_up (va_up (va_up (va_up (fun _ => none) 0 (some (b8 0))) 1 (some (b9 0))) 2 (some (b10 0))) 3 (some (b11 0))) 4 (some (b12 0))) 5 (some (b13 0)))))))) :: (((((((((((((bW (cA C) b1 zU (oEff 0) ++ [(q2, .inl (cA C 0, 18, .inl (fun _ => 0)))]) ++ bW (cA C) b3 zU (oPrg 0)) ++ [(q4, .inl (cA C 3, 2, .inr (.inr (.inr (.inr (va_up (fun _ => none) 0 (some (b14 0))))))))]) ++ bW (cA C) b5 zU (oLay 0)) ++ bW (cA C) b6 zU (oLay 0)) ++ bW (cA C) b7 zU (oMac 0)) ++ bW (cA C) b8 zR (oRtn 0)) ++ bW (cA C) b9 zR (oRtn 0)) ++ bW (cA C) b10 zR (oRtn 0)) ++ bW (cA C) b11 zR (oRtn 0)) ++ bW (cA C) b12 zR (oRtn 0)) ++ bW (cA C) b13 zR (oRtn 0)) ++ bW (cA C) b14 zU (oImg 0))) rfl (fun _ => rfl) rfl rfl (by decide) (by decide) dX6_init_130 rfl ?_
  refine c_iinc hC 1 [some (.ref h0), some (.int 1)] dX6_init_131 rfl (by decide) rfl (Nat.le_of_ble_eq_true rfl) rfl ?_
  refine c_goto hC 113 dX6_init_134 (by decide) ?_
  refine c_iload_n hC dX6_init_113 rfl rfl ?_
  refine c_iconst hC 2 dX6_init_114 (by decide) ?_
  refine c_icmp_geN hC 137 dX6_init_115 (by decide) (by decide) ?_
  refine c_aload_n hC dX6_init_118 rfl rfl ?_
  refine c_getF hC kF_X6_35 rfl rfl dX6_init_119 ?_
  refine c_iload_n hC dX6_init_122 rfl rfl ?_
  refine c_mk hC m_X1_init rfl inX1 tyX1_ok kK_X6_33 kI_X1 (Or.inr ⟨_, kM_X6_57⟩) dfX1 (Nat.le_of_ble_eq_true rfl) (Nat.le_of_ble_eq_true rfl) (Nat.le_of_ble_eq_true rfl) (Nat.le_of_ble_eq_true rfl) (Nat.le_of_ble_eq_true rfl) dX6_init_123 dX6_init_126 dX6_init_127 (fun b15 => ?_)
  refine c_eq (ws' := ((h0, .inr (6, [.ref q0, .ref (b1 0), .ref q2, .ref (b3 0), .ref q4, .ref (b5 0), .ref (b6 0), .ref (b7 0)])) :: (q0, .inl (cA C 2, 6, .inr (.inr (.inr (.inr (va_up (va_up (va_up (va_up (va_up (va_up (fun _ => none) 0 (some (b8 0))) 1 (some (b9 0))) 2 (some (b10 0))) 3 (some (b11 0))) 4 (some (b12 0))) 5 (some (b13 0)))))))) :: ((((((((((((((bW (cA C) b1 zU (oEff 0) ++ [(q2, .inl (cA C 0, 18, .inl (fun _ => 0)))]) ++ bW (cA C) b3 zU (oPrg 0)) ++ [(q4, .inl (cA C 3, 2, .inr (.inr (.inr (.inr (va_up (fun _ => none) 0 (some (b14 0))))))))]) ++ bW (cA C) b5 zU (oLay 0)) ++ bW (cA C) b6 zU (oLay 0)) ++ bW (cA C) b7 zU (oMac 0)) ++ bW (cA C) b8 zR (oRtn 0)) ++ bW (cA C) b9 zR (oRtn 0)) ++ bW (cA C) b10 zR (oRtn 0)) ++ bW (cA C) b11 zR (oRtn 0)) ++ bW (cA C) b12 zR (oRtn 0)) ++ bW (cA C) b13 zR (oRtn 0)) ++ bW (cA C) b14 zU (oImg 0)) ++ bW (cA C) b15 zU (oImg 0)))) rfl ?_
  refine c_aast hC (t := 3) (j := 1) (r := (RX1, TX1, 3)) 12 83 ((h0, .inr (6, [.ref q0, .ref (b1 0), .ref q2, .ref (b3 0), .ref q4, .ref (b5 0), .ref (b6 0), .ref (b7 0)])) :: (q0, .inl (cA C 2, 6, .inr (.inr (.inr (.inr (va_up (va_up (va_up (va_up (va_up (va_up (fun _ => none) 0 (some (b8 0))) 1 (some (b9 0))) 2 (some (b10 0))) 3 (some (b11 0))) 4 (some (b12 0))) 5 (some (b13 0)))))))) :: ((((((((((((((bW (cA C) b1 zU (oEff 0) ++ [(q2, .inl (cA C 0, 18, .inl (fun _ => 0)))]) ++ bW (cA C) b3 zU (oPrg 0)) ++ [(q4, .inl (cA C 3, 2, .inr (.inr (.inr (.inr (va_up (va_up (fun _ => none) 0 (some (b14 0))) 1 (some (b15 0))))))))]) ++ bW (cA C) b5 zU (oLay 0)) ++ bW (cA C) b6 zU (oLay 0)) ++ bW (cA C) b7 zU (oMac 0)) ++ bW (cA C) b8 zR (oRtn 0)) ++ bW (cA C) b9 zR (oRtn 0)) ++ bW (cA C) b10 zR (oRtn 0)) ++ bW (cA C) b11 zR (oRtn 0)) ++ bW (cA C) b12 zR (oRtn 0)) ++ bW (cA C) b13 zR (oRtn 0)) ++ bW (cA C) b14 zU (oImg 0)) ++ bW (cA C) b15 zU (oImg 0))) rfl (fun _ => rfl) rfl rfl (by decide) (by decide) dX6_init_130 rfl ?_
  refine c_iinc hC 2 [some (.ref h0), some (.int 2)] dX6_init_131 rfl (by decide) rfl (Nat.le_of_ble_eq_true rfl) rfl ?_
  refine c_goto hC 113 dX6_init_134 (by decide) ?_
  refine c_iload_n hC dX6_init_113 rfl rfl ?_
  refine c_iconst hC 2 dX6_init_114 (by decide) ?_
  refine c_icmp_geY hC 137 dX6_init_115 (by decide) (by decide) ?_
  have hwF : ∀ (F G : Nat → Option Nat), F = (fun i => (([30, 38, 46, 54, 62, 70] : List Nat)[i]?).map (nth [h0, q0, (b1 0), (b1 1), (b1 2), (b1 3), (b1 4), (b1 5), q2, (b3 0), (b3 1), (b3 2), q4, (b5 0), (b5 1), (b5 2), (b5 3), (b5 4), (b5 5), (b5 6), (b6 0), (b6 1), (b6 2), (b6 3), (b6 4), (b6 5), (b6 6), (b7 0), (b7 1), (b7 2), (b8 0), (b8 1), (b8 2), (b8 3), (b8 4), (b8 5), (b8 6), (b8 7), (b9 0), (b9 1), (b9 2), (b9 3), (b9 4), (b9 5), (b9 6), (b9 7), (b10 0), (b10 1), (b10 2), (b10 3), (b10 4), (b10 5), (b10 6), (b10 7), (b11 0), (b11 1), (b11 2), (b11 3), (b11 4), (b11 5), (b11 6), (b11 7), (b12 0), (b12 1), (b12 2), (b12 3), (b12 4), (b12 5), (b12 6), (b12 7), (b13 0), (b13 1), (b13 2), (b13 3), (b13 4), (b13 5), (b13 6), (b13 7), (b14 0), (b14 1), (b14 2), (b14 3), (b14 4), (b15 0), (b15 1), (b15 2), (b15 3), (b15 4)])) → G = (fun i => (([78, 83] : List Nat)[i]?).map (nth [h0, q0, (b1 0), (b1 1), (b1 2), (b1 3), (b1 4), (b1 5), q2, (b3 0), (b3 1), (b3 2), q4, (b5 0), (b5 1), (b5 2), (b5 3), (b5 4), (b5 5), (b5 6), (b6 0), (b6 1), (b6 2), (b6 3), (b6 4), (b6 5), (b6 6), (b7 0), (b7 1), (b7 2), (b8 0), (b8 1), (b8 2), (b8 3), (b8 4), (b8 5), (b8 6), (b8 7), (b9 0), (b9 1), (b9 2), (b9 3), (b9 4), (b9 5), (b9 6), (b9 7), (b10 0), (b10 1), (b10 2), (b10 3), (b10 4), (b10 5), (b10 6), (b10 7), (b11 0), (b11 1), (b11 2), (b11 3), (b11 4), (b11 5), (b11 6), (b11 7), (b12 0), (b12 1), (b12 2), (b12 3), (b12 4), (b12 5), (b12 6), (b12 7), (b13 0), (b13 1), (b13 2), (b13 3), (b13 4), (b13 5), (b13 6), (b13 7), (b14 0), (b14 1), (b14 2), (b14 3), (b14 4), (b15 0), (b15 1), (b15 2), (b15 3), (b15 4)])) → ((h0, .inr (6, [.ref q0, .ref (b1 0), .ref q2, .ref (b3 0), .ref q4, .ref (b5 0), .ref (b6 0), .ref (b7 0)])) :: (q0, .inl (cA C 2, 6, .inr (.inr (.inr (.inr F))))) :: ((((((((((((((bW (cA C) b1 zU (oEff 0) ++ [(q2, .inl (cA C 0, 18, .inl (fun _ => 0)))]) ++ bW (cA C) b3 zU (oPrg 0)) ++ [(q4, .inl (cA C 3, 2, .inr (.inr (.inr (.inr G)))))]) ++ bW (cA C) b5 zU (oLay 0)) ++ bW (cA C) b6 zU (oLay 0)) ++ bW (cA C) b7 zU (oMac 0)) ++ bW (cA C) b8 zR (oRtn 0)) ++ bW (cA C) b9 zR (oRtn 0)) ++ bW (cA C) b10 zR (oRtn 0)) ++ bW (cA C) b11 zR (oRtn 0)) ++ bW (cA C) b12 zR (oRtn 0)) ++ bW (cA C) b13 zR (oRtn 0)) ++ bW (cA C) b14 zU (oImg 0)) ++ bW (cA C) b15 zU (oImg 0))) = bW (cA C) (nth [h0, q0, (b1 0), (b1 1), (b1 2), (b1 3), (b1 4), (b1 5), q2, (b3 0), (b3 1), (b3 2), q4, (b5 0), (b5 1), (b5 2), (b5 3), (b5 4), (b5 5), (b5 6), (b6 0), (b6 1), (b6 2), (b6 3), (b6 4), (b6 5), (b6 6), (b7 0), (b7 1), (b7 2), (b8 0), (b8 1), (b8 2), (b8 3), (b8 4), (b8 5), (b8 6), (b8 7), (b9 0), (b9 1), (b9 2), (b9 3), (b9 4), (b9 5), (b9 6), (b9 7), (b10 0), (b10 1), (b10 2), (b10 3), (b10 4), (b10 5), (b10 6), (b10 7), (b11 0), (b11 1), (b11 2), (b11 3), (b11 4), (b11 5), (b11 6), (b11 7), (b12 0), (b12 1), (b12 2), (b12 3), (b12 4), (b12 5), (b12 6), (b12 7), (b13 0), (b13 1), (b13 2), (b13 3), (b13 4), (b13 5), (b13 6), (b13 7), (b14 0), (b14 1), (b14 2), (b14 3), (b14 4), (b15 0), (b15 1), (b15 2), (b15 3), (b15 4)]) u6 mShX := by
    intro F G hF hG
    subst hF
    subst hG
    simp only [← bWx_eq]
    rfl
  exact c_ret hC hE (nth [h0, q0, (b1 0), (b1 1), (b1 2), (b1 3), (b1 4), (b1 5), q2, (b3 0), (b3 1), (b3 2), q4, (b5 0), (b5 1), (b5 2), (b5 3), (b5 4), (b5 5), (b5 6), (b6 0), (b6 1), (b6 2), (b6 3), (b6 4), (b6 5), (b6 6), (b7 0), (b7 1), (b7 2), (b8 0), (b8 1), (b8 2), (b8 3), (b8 4), (b8 5), (b8 6), (b8 7), (b9 0), (b9 1), (b9 2), (b9 3), (b9 4), (b9 5), (b9 6), (b9 7), (b10 0), (b10 1), (b10 2), (b10 3), (b10 4), (b10 5), (b10 6), (b10 7), (b11 0), (b11 1), (b11 2), (b11 3), (b11 4), (b11 5), (b11 6), (b11 7), (b12 0), (b12 1), (b12 2), (b12 3), (b12 4), (b12 5), (b12 6), (b12 7), (b13 0), (b13 1), (b13 2), (b13 3), (b13 4), (b13 5), (b13 6), (b13 7), (b14 0), (b14 1), (b14 2), (b14 3), (b14 4), (b15 0), (b15 1), (b15 2), (b15 3), (b15 4)]) rfl (hwF _ _ (row6 (nth [h0, q0, (b1 0), (b1 1), (b1 2), (b1 3), (b1 4), (b1 5), q2, (b3 0), (b3 1), (b3 2), q4, (b5 0), (b5 1), (b5 2), (b5 3), (b5 4), (b5 5), (b5 6), (b6 0), (b6 1), (b6 2), (b6 3), (b6 4), (b6 5), (b6 6), (b7 0), (b7 1), (b7 2), (b8 0), (b8 1), (b8 2), (b8 3), (b8 4), (b8 5), (b8 6), (b8 7), (b9 0), (b9 1), (b9 2), (b9 3), (b9 4), (b9 5), (b9 6), (b9 7), (b10 0), (b10 1), (b10 2), (b10 3), (b10 4), (b10 5), (b10 6), (b10 7), (b11 0), (b11 1), (b11 2), (b11 3), (b11 4), (b11 5), (b11 6), (b11 7), (b12 0), (b12 1), (b12 2), (b12 3), (b12 4), (b12 5), (b12 6), (b12 7), (b13 0), (b13 1), (b13 2), (b13 3), (b13 4), (b13 5), (b13 6), (b13 7), (b14 0), (b14 1), (b14 2), (b14 3), (b14 4), (b15 0), (b15 1), (b15 2), (b15 3), (b15 4)])) (row2 (nth [h0, q0, (b1 0), (b1 1), (b1 2), (b1 3), (b1 4), (b1 5), q2, (b3 0), (b3 1), (b3 2), q4, (b5 0), (b5 1), (b5 2), (b5 3), (b5 4), (b5 5), (b5 6), (b6 0), (b6 1), (b6 2), (b6 3), (b6 4), (b6 5), (b6 6), (b7 0), (b7 1), (b7 2), (b8 0), (b8 1), (b8 2), (b8 3), (b8 4), (b8 5), (b8 6), (b8 7), (b9 0), (b9 1), (b9 2), (b9 3), (b9 4), (b9 5), (b9 6), (b9 7), (b10 0), (b10 1), (b10 2), (b10 3), (b10 4), (b10 5), (b10 6), (b10 7), (b11 0), (b11 1), (b11 2), (b11 3), (b11 4), (b11 5), (b11 6), (b11 7), (b12 0), (b12 1), (b12 2), (b12 3), (b12 4), (b12 5), (b12 6), (b12 7), (b13 0), (b13 1), (b13 2), (b13 3), (b13 4), (b13 5), (b13 6), (b13 7), (b14 0), (b14 1), (b14 2), (b14 3), (b14 4), (b15 0), (b15 1), (b15 2), (b15 3), (b15 4)]))) dX6_init_137
