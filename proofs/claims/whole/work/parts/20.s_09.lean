set_option maxHeartbeats 4000000 in
set_option maxRecDepth 100000 in
theorem s_X7_causesOf_89 {C : mCtx} (hC : mOK cX7_causesOf RX7 6 0 0 C) {res : Int32 × MU} (hE : mEndI C .int res.1 res.2) (x1 : Int32) (x2 : Int32) (s1 : Int32) (s0 : Int32) (u : MU) (h : b_X7_causesOf_89 x1 x2 s1 s0 u = some res) : wat C u 89 [some (.ref (cS C 88)), some (.int x1), some (.int x2), none, none, none] [(.int s1), (.int s0)] := by
  unfold b_X7_causesOf_89 at h
  refine z_ior hC dX7_causesOf_89 ?_
  refine y_istore hC [some (.ref (cS C 88)), some (.int x1), some (.int x2), none, none, some (.int (s0 ||| s1))] dX7_causesOf_90 rfl (Nat.le_of_ble_eq_true rfl) (Nat.le_of_ble_eq_true rfl) rfl ?_
  refine z_iload hC dX7_causesOf_92 rfl ?_
  refine z_aload_n hC dX7_causesOf_94 rfl rfl ?_
  refine z_getR hC 97 kF_X7_34 sh_88 rfl dX7_causesOf_95 ?_
  refine z_iload_n hC dX7_causesOf_98 rfl rfl ?_
  obtain ⟨g1, h⟩ := gd_some h
  refine z_iald hC sh_97 g1 dX7_causesOf_99 ?_
  refine z_iconst (v := 1) hC dX7_causesOf_100 (by decide) ?_
  refine z_icmp_ne hC 118 dX7_causesOf_101 (by decide) (fun b2 => ?_) (fun b2 => ?_)
  · rw [if_neg b2] at h
    refine z_iconst (v := 0) hC dX7_causesOf_118 (by decide) ?_
    refine z_ior hC dX7_causesOf_119 ?_
    obtain rfl := Option.some.inj h
    exact z_iret hC hE dX7_causesOf_120
  · rw [if_pos b2] at h
    refine z_aload_n hC dX7_causesOf_104 rfl rfl ?_
    refine z_getR hC 97 kF_X7_34 sh_88 rfl dX7_causesOf_105 ?_
    refine z_iload_n hC dX7_causesOf_108 rfl rfl ?_
    obtain ⟨g3, h⟩ := gd_some h
    refine z_iald hC sh_97 g3 dX7_causesOf_109 ?_
    refine z_iconst (v := 1) hC dX7_causesOf_110 (by decide) ?_
    refine z_icmp_ne hC 118 dX7_causesOf_111 (by decide) (fun b4 => ?_) (fun b4 => ?_)
    · rw [if_neg b4] at h
      refine z_iconst (v := 0) hC dX7_causesOf_118 (by decide) ?_
      refine z_ior hC dX7_causesOf_119 ?_
      obtain rfl := Option.some.inj h
      exact z_iret hC hE dX7_causesOf_120
    · rw [if_pos b4] at h
      refine z_iconst (v := nI 4) hC dX7_causesOf_114 (by decide) ?_
      refine z_goto hC 119 dX7_causesOf_115 (by decide) ?_
      refine z_ior hC dX7_causesOf_119 ?_
      obtain rfl := Option.some.inj h
      exact z_iret hC hE dX7_causesOf_120
set_option maxHeartbeats 4000000 in
set_option maxRecDepth 100000 in
theorem s_X7_causesOf_84 {C : mCtx} (hC : mOK cX7_causesOf RX7 6 0 0 C) {res : Int32 × MU} (hE : mEndI C .int res.1 res.2) (x1 : Int32) (x2 : Int32) (s0 : Int32) (u : MU) (h : b_X7_causesOf_84 x1 x2 s0 u = some res) : wat C u 84 [some (.ref (cS C 88)), some (.int x1), some (.int x2), none, none, none] [(.int s0)] := by
  unfold b_X7_causesOf_84 at h
  refine z_iconst (v := nI 2) hC dX7_causesOf_84 (by decide) ?_
  refine z_goto hC 89 dX7_causesOf_85 (by decide) ?_
  exact s_X7_causesOf_89 hC hE x1 x2 (nI 2) s0 u h
set_option maxHeartbeats 4000000 in
set_option maxRecDepth 100000 in
theorem s_X7_causesOf_57 {C : mCtx} (hC : mOK cX7_causesOf RX7 6 0 0 C) {res : Int32 × MU} (hE : mEndI C .int res.1 res.2) (x1 : Int32) (x2 : Int32) (x3 : Int32) (x4 : Int32) (s0 : Int32) (u : MU) (h : b_X7_causesOf_57 x1 x2 x3 x4 s0 u = some res) : wat C u 57 [some (.ref (cS C 88)), some (.int x1), some (.int x2), some (.int x3), some (.int x4), none] [(.int s0)] := by
  unfold b_X7_causesOf_57 at h
  refine y_istore hC [some (.ref (cS C 88)), some (.int x1), some (.int x2), some (.int x3), some (.int x4), some (.int s0)] dX7_causesOf_57 rfl (Nat.le_of_ble_eq_true rfl) (Nat.le_of_ble_eq_true rfl) rfl ?_
  refine z_iload hC dX7_causesOf_59 rfl ?_
  refine z_aload_n hC dX7_causesOf_61 rfl rfl ?_
  refine z_getR hC 94 kF_X7_25 sh_88 rfl dX7_causesOf_62 ?_
  refine z_iload_n hC dX7_causesOf_65 rfl rfl ?_
  obtain ⟨g1, h⟩ := gd_some h
  refine z_iald hC sh_94 g1 dX7_causesOf_66 ?_
  refine z_iload hC dX7_causesOf_67 rfl ?_
  refine z_iand hC dX7_causesOf_69 ?_
  refine z_if_ne hC 84 dX7_causesOf_70 (by decide) (fun b2 => ?_) (fun b2 => ?_)
  · rw [if_neg b2] at h
    refine z_mask [true, true, true, false, false, false] ?_
    exact s_X7_causesOf_84 hC hE x1 x2 s0 u h
  · rw [if_pos b2] at h
    refine z_aload_n hC dX7_causesOf_73 rfl rfl ?_
    refine z_getR hC 94 kF_X7_25 sh_88 rfl dX7_causesOf_74 ?_
    refine z_iload_n hC dX7_causesOf_77 rfl rfl ?_
    obtain ⟨g3, h⟩ := gd_some h
    refine z_iald hC sh_94 g3 dX7_causesOf_78 ?_
    refine z_iload_n hC dX7_causesOf_79 rfl rfl ?_
    refine z_iand hC dX7_causesOf_80 ?_
    refine z_if_eq hC 88 dX7_causesOf_81 (by decide) (fun b4 => ?_) (fun b4 => ?_)
    · rw [if_pos b4] at h
      refine z_iconst (v := 0) hC dX7_causesOf_88 (by decide) ?_
      refine z_mask [true, true, true, false, false, false] ?_
      exact s_X7_causesOf_89 hC hE x1 x2 0 s0 u h
    · rw [if_neg b4] at h
      refine z_mask [true, true, true, false, false, false] ?_
      exact s_X7_causesOf_84 hC hE x1 x2 s0 u h
set_option maxHeartbeats 4000000 in
set_option maxRecDepth 100000 in
theorem s_X7_causesOf_52 {C : mCtx} (hC : mOK cX7_causesOf RX7 6 0 0 C) {res : Int32 × MU} (hE : mEndI C .int res.1 res.2) (x1 : Int32) (x2 : Int32) (x3 : Int32) (x4 : Int32) (u : MU) (h : b_X7_causesOf_52 x1 x2 x3 x4 u = some res) : wat C u 52 [some (.ref (cS C 88)), some (.int x1), some (.int x2), some (.int x3), some (.int x4), none] [] := by
  unfold b_X7_causesOf_52 at h
  refine z_iconst (v := 1) hC dX7_causesOf_52 (by decide) ?_
  refine z_goto hC 57 dX7_causesOf_53 (by decide) ?_
  exact s_X7_causesOf_57 hC hE x1 x2 x3 x4 1 u h
set_option maxHeartbeats 4000000 in
set_option maxRecDepth 100000 in
theorem s_X7_causesOf_0 {C : mCtx} (hC : mOK cX7_causesOf RX7 6 0 0 C) {res : Int32 × MU} (hE : mEndI C .int res.1 res.2) (x1 : Int32) (x2 : Int32) (u : MU) (h : f_X7_causesOf x1 x2 u = some res) : wat C u 0 [some (.ref (cS C 88)), some (.int x1), some (.int x2), none, none, none] [] := by
  unfold f_X7_causesOf at h
  refine z_aload_n hC dX7_causesOf_0 rfl rfl ?_
  refine z_getR hC 95 kF_X7_28 sh_88 rfl dX7_causesOf_1 ?_
  refine z_iload_n hC dX7_causesOf_4 rfl rfl ?_
  obtain ⟨g1, h⟩ := gd_some h
  refine z_iald hC sh_95 g1 dX7_causesOf_5 ?_
  refine z_aload_n hC dX7_causesOf_6 rfl rfl ?_
  refine z_getR hC 96 kF_X7_31 sh_88 rfl dX7_causesOf_7 ?_
  refine z_iload_n hC dX7_causesOf_10 rfl rfl ?_
  obtain ⟨g2, h⟩ := gd_some h
  refine z_iald hC sh_96 g2 dX7_causesOf_11 ?_
  refine z_ior hC dX7_causesOf_12 ?_
  refine y_istore_n hC [some (.ref (cS C 88)), some (.int x1), some (.int x2), some (.int ((u 95 x1.toNatClampNeg) ||| (u 96 x1.toNatClampNeg))), none, none] dX7_causesOf_13 rfl rfl (Nat.le_of_ble_eq_true rfl) (Nat.le_of_ble_eq_true rfl) rfl ?_
  refine z_aload_n hC dX7_causesOf_14 rfl rfl ?_
  refine z_getR hC 95 kF_X7_28 sh_88 rfl dX7_causesOf_15 ?_
  refine z_iload_n hC dX7_causesOf_18 rfl rfl ?_
  obtain ⟨g3, h⟩ := gd_some h
  refine z_iald hC sh_95 g3 dX7_causesOf_19 ?_
  refine z_aload_n hC dX7_causesOf_20 rfl rfl ?_
  refine z_getR hC 96 kF_X7_31 sh_88 rfl dX7_causesOf_21 ?_
  refine z_iload_n hC dX7_causesOf_24 rfl rfl ?_
  obtain ⟨g4, h⟩ := gd_some h
  refine z_iald hC sh_96 g4 dX7_causesOf_25 ?_
  refine z_ior hC dX7_causesOf_26 ?_
  refine y_istore hC [some (.ref (cS C 88)), some (.int x1), some (.int x2), some (.int ((u 95 x1.toNatClampNeg) ||| (u 96 x1.toNatClampNeg))), some (.int ((u 95 x2.toNatClampNeg) ||| (u 96 x2.toNatClampNeg))), none] dX7_causesOf_27 rfl (Nat.le_of_ble_eq_true rfl) (Nat.le_of_ble_eq_true rfl) rfl ?_
  refine z_aload_n hC dX7_causesOf_29 rfl rfl ?_
  refine z_getR hC 95 kF_X7_28 sh_88 rfl dX7_causesOf_30 ?_
  refine z_iload_n hC dX7_causesOf_33 rfl rfl ?_
  obtain ⟨g5, h⟩ := gd_some h
  refine z_iald hC sh_95 g5 dX7_causesOf_34 ?_
  refine z_iload hC dX7_causesOf_35 rfl ?_
  refine z_iand hC dX7_causesOf_37 ?_
  refine z_if_ne hC 52 dX7_causesOf_38 (by decide) (fun b6 => ?_) (fun b6 => ?_)
  · rw [if_neg b6] at h
    exact s_X7_causesOf_52 hC hE x1 x2 ((u 95 x1.toNatClampNeg) ||| (u 96 x1.toNatClampNeg)) ((u 95 x2.toNatClampNeg) ||| (u 96 x2.toNatClampNeg)) u h
  · rw [if_pos b6] at h
    refine z_aload_n hC dX7_causesOf_41 rfl rfl ?_
    refine z_getR hC 95 kF_X7_28 sh_88 rfl dX7_causesOf_42 ?_
    refine z_iload_n hC dX7_causesOf_45 rfl rfl ?_
    obtain ⟨g7, h⟩ := gd_some h
    refine z_iald hC sh_95 g7 dX7_causesOf_46 ?_
    refine z_iload_n hC dX7_causesOf_47 rfl rfl ?_
    refine z_iand hC dX7_causesOf_48 ?_
    refine z_if_eq hC 56 dX7_causesOf_49 (by decide) (fun b8 => ?_) (fun b8 => ?_)
    · rw [if_pos b8] at h
      refine z_iconst (v := 0) hC dX7_causesOf_56 (by decide) ?_
      exact s_X7_causesOf_57 hC hE x1 x2 ((u 95 x1.toNatClampNeg) ||| (u 96 x1.toNatClampNeg)) ((u 95 x2.toNatClampNeg) ||| (u 96 x2.toNatClampNeg)) 0 u h
    · rw [if_neg b8] at h
      exact s_X7_causesOf_52 hC hE x1 x2 ((u 95 x1.toNatClampNeg) ||| (u 96 x1.toNatClampNeg)) ((u 95 x2.toNatClampNeg) ||| (u 96 x2.toNatClampNeg)) u h
theorem m_X7_causesOf {l : Launch} {dC : Nat → ClassId} {dI : Nat → Nat → Nat} {dA : Nat → ClassId} {as : Nat → Nat} (hD : mDis as) (x1 : Int32) (x2 : Int32) (u : MU) {r : Int32} {v : MU} (h : f_X7_causesOf x1 x2 u = some (r, v)) : mMI l dC dI dA as yX7_causesOf cX7_causesOf 6 .int 0 0 [.ref (as 88), .int x1, .int x2] u r v := mMIof RX7 [some (.ref (as 88)), some (.int x1), some (.int x2), none, none, none] hD (by decide +kernel) rfl (Nat.le_of_ble_eq_true rfl) rfl (fun C e1 e2 e3 e4 e5 hC hE => by subst e5; exact s_X7_causesOf_0 hC (res := (r, v)) hE x1 x2 u h)
set_option maxHeartbeats 4000000 in
set_option maxRecDepth 100000 in
theorem s_X7_causes_0 {C : mCtx} (hC : mOK cX7_causes RX7 5 8 177 C) {res : Int32 × MU} (hE : mEndI C .int res.1 res.2) (x1 : Int32) (x2 : Int32) (x3 : Int32) (x4 : Int32) (u : MU) (h : f_X7_causes x1 x2 x3 x4 u = some res) : wat C u 0 [some (.ref (cS C 88)), some (.int x1), some (.int x2), some (.int x3), some (.int x4)] [] := by
  unfold f_X7_causes at h
  refine z_iload_n hC dX7_causes_0 rfl rfl ?_
  obtain ⟨r1, u1, c1, h⟩ := mB_some h
  refine z_callSI hC kC_X7_isRoutine kM_X7_87 (m_X7_isRoutine hC.dis x1 u c1) rfl (Nat.le_of_ble_eq_true rfl) (Nat.le_of_ble_eq_true rfl) (Nat.le_of_ble_eq_true rfl) rfl dX7_causes_1 ?_
  refine z_if_eq hC 14 dX7_causes_4 (by decide) (fun b2 => ?_) (fun b2 => ?_)
  · rw [if_pos b2] at h
    refine z_iconst (v := (-1)) hC dX7_causes_14 (by decide) ?_
    obtain rfl := Option.some.inj h
    exact z_iret hC hE dX7_causes_15
  · rw [if_neg b2] at h
    refine z_iload_n hC dX7_causes_7 rfl rfl ?_
    obtain ⟨r3, u3, c3, h⟩ := mB_some h
    refine z_callSI hC kC_X7_isRoutine kM_X7_87 (m_X7_isRoutine hC.dis x3 u1 c3) rfl (Nat.le_of_ble_eq_true rfl) (Nat.le_of_ble_eq_true rfl) (Nat.le_of_ble_eq_true rfl) rfl dX7_causes_8 ?_
    refine z_if_ne hC 16 dX7_causes_11 (by decide) (fun b4 => ?_) (fun b4 => ?_)
    · rw [if_neg b4] at h
      refine z_iload_n hC dX7_causes_16 rfl rfl ?_
      obtain ⟨r5, u5, c5, h⟩ := mB_some h
      refine z_callSI hC kC_X7_isGiven kM_X7_189 (m_X7_isGiven hC.dis x2 u3 c5) rfl (Nat.le_of_ble_eq_true rfl) (Nat.le_of_ble_eq_true rfl) (Nat.le_of_ble_eq_true rfl) rfl dX7_causes_17 ?_
      refine z_if_eq hC 31 dX7_causes_20 (by decide) (fun b6 => ?_) (fun b6 => ?_)
      · rw [if_pos b6] at h
        refine z_bipush (v := (-2)) hC dX7_causes_31 (by decide) ?_
        obtain rfl := Option.some.inj h
        exact z_iret hC hE dX7_causes_33
      · rw [if_neg b6] at h
        refine z_iload hC dX7_causes_23 rfl ?_
        obtain ⟨r7, u7, c7, h⟩ := mB_some h
        refine z_callSI hC kC_X7_isGiven kM_X7_189 (m_X7_isGiven hC.dis x4 u5 c7) rfl (Nat.le_of_ble_eq_true rfl) (Nat.le_of_ble_eq_true rfl) (Nat.le_of_ble_eq_true rfl) rfl dX7_causes_25 ?_
        refine z_if_ne hC 34 dX7_causes_28 (by decide) (fun b8 => ?_) (fun b8 => ?_)
        · rw [if_neg b8] at h
          refine z_aload_n hC dX7_causes_34 rfl rfl ?_
          obtain ⟨r9, u9, c9, h⟩ := mB_some h
          refine z_callV hC kC_X7_findEffects kM_X7_194 sh_88 TX7 39 rfl (m_X7_findEffects hC.dis u7 c9) rfl (Nat.le_of_ble_eq_true rfl) (Nat.le_of_ble_eq_true rfl) (Nat.le_of_ble_eq_true rfl) rfl dX7_causes_35 ?_
          refine z_aload_n hC dX7_causes_38 rfl rfl ?_
          refine z_iload_n hC dX7_causes_39 rfl rfl ?_
          obtain ⟨r10, u10, c10, h⟩ := mB_some h
          refine z_callI hC kC_X7_isKnown kM_X7_197 sh_88 TX7 39 rfl (m_X7_isKnown hC.dis x1 u9 c10) rfl (Nat.le_of_ble_eq_true rfl) (Nat.le_of_ble_eq_true rfl) (Nat.le_of_ble_eq_true rfl) rfl dX7_causes_40 ?_
          refine z_if_eq hC 74 dX7_causes_43 (by decide) (fun b11 => ?_) (fun b11 => ?_)
          · rw [if_pos b11] at h
            refine z_bipush (v := (-5)) hC dX7_causes_74 (by decide) ?_
            obtain rfl := Option.some.inj h
            exact z_iret hC hE dX7_causes_76
          · rw [if_neg b11] at h
            refine z_aload_n hC dX7_causes_46 rfl rfl ?_
            refine z_iload_n hC dX7_causes_47 rfl rfl ?_
            obtain ⟨r12, u12, c12, h⟩ := mB_some h
            refine z_callI hC kC_X7_isKnown kM_X7_197 sh_88 TX7 39 rfl (m_X7_isKnown hC.dis x3 u10 c12) rfl (Nat.le_of_ble_eq_true rfl) (Nat.le_of_ble_eq_true rfl) (Nat.le_of_ble_eq_true rfl) rfl dX7_causes_48 ?_
            refine z_if_eq hC 74 dX7_causes_51 (by decide) (fun b13 => ?_) (fun b13 => ?_)
            · rw [if_pos b13] at h
              refine z_bipush (v := (-5)) hC dX7_causes_74 (by decide) ?_
              obtain rfl := Option.some.inj h
              exact z_iret hC hE dX7_causes_76
            · rw [if_neg b13] at h
              refine z_aload_n hC dX7_causes_54 rfl rfl ?_
              refine z_bipush (v := nI 12) hC dX7_causes_55 (by decide) ?_
              refine z_iload_n hC dX7_causes_57 rfl rfl ?_
              refine z_imul hC dX7_causes_58 ?_
              refine z_iload_n hC dX7_causes_59 rfl rfl ?_
              refine z_iadd hC dX7_causes_60 ?_
              refine z_bipush (v := nI 12) hC dX7_causes_61 (by decide) ?_
              refine z_iload_n hC dX7_causes_63 rfl rfl ?_
              refine z_imul hC dX7_causes_64 ?_
              refine z_iload hC dX7_causes_65 rfl ?_
              refine z_iadd hC dX7_causes_67 ?_
              obtain ⟨r14, u14, c14, h⟩ := mB_some h
              refine z_callI hC kC_X7_causesOf kM_X7_200 sh_88 TX7 39 rfl (m_X7_causesOf hC.dis (((nI 12) * x1) + x2) (((nI 12) * x3) + x4) u12 c14) rfl (Nat.le_of_ble_eq_true rfl) (Nat.le_of_ble_eq_true rfl) (Nat.le_of_ble_eq_true rfl) rfl dX7_causes_68 ?_
              refine z_goto hC 76 dX7_causes_71 (by decide) ?_
              obtain rfl := Option.some.inj h
              exact z_iret hC hE dX7_causes_76
        · rw [if_pos b8] at h
          refine z_bipush (v := (-2)) hC dX7_causes_31 (by decide) ?_
          obtain rfl := Option.some.inj h
          exact z_iret hC hE dX7_causes_33
    · rw [if_pos b4] at h
      refine z_iconst (v := (-1)) hC dX7_causes_14 (by decide) ?_
      obtain rfl := Option.some.inj h
      exact z_iret hC hE dX7_causes_15
theorem m_X7_causes {l : Launch} {dC : Nat → ClassId} {dI : Nat → Nat → Nat} {dA : Nat → ClassId} {as : Nat → Nat} (hD : mDis as) (x1 : Int32) (x2 : Int32) (x3 : Int32) (x4 : Int32) (u : MU) {r : Int32} {v : MU} (h : f_X7_causes x1 x2 x3 x4 u = some (r, v)) : mMI l dC dI dA as yX7_causes cX7_causes 5 .int 8 177 [.ref (as 88), .int x1, .int x2, .int x3, .int x4] u r v := mMIof RX7 [some (.ref (as 88)), some (.int x1), some (.int x2), some (.int x3), some (.int x4)] hD (by decide +kernel) rfl (Nat.le_of_ble_eq_true rfl) rfl (fun C e1 e2 e3 e4 e5 hC hE => by subst e5; exact s_X7_causes_0 hC (res := (r, v)) hE x1 x2 x3 x4 u h)
set_option maxHeartbeats 4000000 in
set_option maxRecDepth 100000 in
theorem s_X7_call_0 {C : mCtx} (hC : mOK cX7_call RX7 3 2 45 C) {res : Int32 × MU} (hE : mEndI C .int res.1 res.2) (x1 : Int32) (x2 : Int32) (u : MU) (h : f_X7_call x1 x2 u = some res) : wat C u 0 [some (.ref (cS C 88)), some (.int x1), some (.int x2)] [] := by
  unfold f_X7_call at h
  refine z_iload_n hC dX7_call_0 rfl rfl ?_
  obtain ⟨r1, u1, c1, h⟩ := mB_some h
  refine z_callSI hC kC_X7_isRoutine kM_X7_87 (m_X7_isRoutine hC.dis x1 u c1) rfl (Nat.le_of_ble_eq_true rfl) (Nat.le_of_ble_eq_true rfl) (Nat.le_of_ble_eq_true rfl) rfl dX7_call_1 ?_
  refine z_if_ne hC 9 dX7_call_4 (by decide) (fun b2 => ?_) (fun b2 => ?_)
  · rw [if_neg b2] at h
    refine z_iload_n hC dX7_call_9 rfl rfl ?_
    obtain ⟨r3, u3, c3, h⟩ := mB_some h
    refine z_callSI hC kC_X7_isGiven kM_X7_189 (m_X7_isGiven hC.dis x2 u1 c3) rfl (Nat.le_of_ble_eq_true rfl) (Nat.le_of_ble_eq_true rfl) (Nat.le_of_ble_eq_true rfl) rfl dX7_call_10 ?_
    refine z_if_ne hC 19 dX7_call_13 (by decide) (fun b4 => ?_) (fun b4 => ?_)
    · rw [if_neg b4] at h
      refine z_aload_n hC dX7_call_19 rfl rfl ?_
      refine z_getI hC kF_X7_203 sh_88 rfl dX7_call_20 ?_
      refine z_bipush (v := nI 16) hC dX7_call_23 (by decide) ?_
      refine z_icmp_ne hC 31 dX7_call_25 (by decide) (fun b5 => ?_) (fun b5 => ?_)
      · rw [if_neg b5] at h
        refine z_aload_n hC dX7_call_31 rfl rfl ?_
        refine z_getR hC 92 kF_X7_19 sh_88 rfl dX7_call_32 ?_
        refine z_aload_n hC dX7_call_35 rfl rfl ?_
        refine z_getI hC kF_X7_203 sh_88 rfl dX7_call_36 ?_
        refine z_iload_n hC dX7_call_39 rfl rfl ?_
        obtain ⟨g6, h⟩ := gd_some h
        obtain ⟨u7, e7, h⟩ := mS_some h
        refine y_iast hC sh_92 g6 dX7_call_40 e7 ?_
        refine z_aload_n hC dX7_call_41 rfl rfl ?_
        refine z_getR hC 93 kF_X7_22 sh_88 rfl dX7_call_42 ?_
        refine z_aload_n hC dX7_call_45 rfl rfl ?_
        refine z_getI hC kF_X7_203 sh_88 rfl dX7_call_46 ?_
        refine z_iload_n hC dX7_call_49 rfl rfl ?_
        obtain ⟨g8, h⟩ := gd_some h
        obtain ⟨u9, e9, h⟩ := mS_some h
        refine y_iast hC sh_93 g8 dX7_call_50 e9 ?_
        refine z_aload_n hC dX7_call_51 rfl rfl ?_
        refine z_dup hC dX7_call_52 rfl ?_
        refine z_getI hC kF_X7_203 sh_88 rfl dX7_call_53 ?_
        refine z_iconst (v := 1) hC dX7_call_56 (by decide) ?_
        refine z_iadd hC dX7_call_57 ?_
        obtain ⟨u10, e10, h⟩ := mS_some h
        refine y_putI hC kP_X7_203 sh_88 rfl dX7_call_58 e10 ?_
        refine z_aload_n hC dX7_call_61 rfl rfl ?_
        refine z_getI hC kF_X7_203 sh_88 rfl dX7_call_62 ?_
        obtain rfl := Option.some.inj h
        exact z_iret hC hE dX7_call_65
      · rw [if_pos b5] at h
        refine z_bipush (v := (-4)) hC dX7_call_28 (by decide) ?_
        obtain rfl := Option.some.inj h
        exact z_iret hC hE dX7_call_30
    · rw [if_pos b4] at h
      refine z_bipush (v := (-2)) hC dX7_call_16 (by decide) ?_
      obtain rfl := Option.some.inj h
      exact z_iret hC hE dX7_call_18
  · rw [if_pos b2] at h
    refine z_iconst (v := (-1)) hC dX7_call_7 (by decide) ?_
    obtain rfl := Option.some.inj h
    exact z_iret hC hE dX7_call_8
theorem m_X7_call {l : Launch} {dC : Nat → ClassId} {dI : Nat → Nat → Nat} {dA : Nat → ClassId} {as : Nat → Nat} (hD : mDis as) (x1 : Int32) (x2 : Int32) (u : MU) {r : Int32} {v : MU} (h : f_X7_call x1 x2 u = some (r, v)) : mMI l dC dI dA as yX7_call cX7_call 3 .int 2 45 [.ref (as 88), .int x1, .int x2] u r v := mMIof RX7 [some (.ref (as 88)), some (.int x1), some (.int x2)] hD (by decide +kernel) rfl (Nat.le_of_ble_eq_true rfl) rfl (fun C e1 e2 e3 e4 e5 hC hE => by subst e5; exact s_X7_call_0 hC (res := (r, v)) hE x1 x2 u h)
set_option maxHeartbeats 4000000 in
set_option maxRecDepth 100000 in
theorem s_X7_isCall_0 {C : mCtx} (hC : mOK cX7_isCall RX7 2 1 25 C) {res : Int32 × MU} (hE : mEndI C .boolean res.1 res.2) (x1 : Int32) (u : MU) (h : f_X7_isCall x1 u = some res) : wat C u 0 [some (.ref (cS C 88)), some (.int x1)] [] := by
  unfold f_X7_isCall at h
  refine z_iload_n hC dX7_isCall_0 rfl rfl ?_
  refine z_i2l hC dX7_isCall_1 ?_
  refine z_lconst (v := 0) hC dX7_isCall_2 (by decide) ?_
  refine z_aload_n hC dX7_isCall_3 rfl rfl ?_
  refine z_getI hC kF_X7_203 sh_88 rfl dX7_isCall_4 ?_
  refine z_iconst (v := 1) hC dX7_isCall_7 (by decide) ?_
  refine z_isub hC dX7_isCall_8 ?_
  refine z_i2l hC dX7_isCall_9 ?_
  obtain ⟨r1, u1, c1, h⟩ := mB_some h
  refine z_callSI hC kC_X7_in kM_X7_79 (m_X7_in hC.dis x1.toInt64 0 (((u 88 5) - 1).toInt64) u c1) rfl (Nat.le_of_ble_eq_true rfl) (Nat.le_of_ble_eq_true rfl) (Nat.le_of_ble_eq_true rfl) rfl dX7_isCall_10 ?_
  obtain ⟨g2, h⟩ := gd_some h
  obtain rfl := Option.some.inj h
  exact z_zret hC hE g2 dX7_isCall_13
theorem m_X7_isCall {l : Launch} {dC : Nat → ClassId} {dI : Nat → Nat → Nat} {dA : Nat → ClassId} {as : Nat → Nat} (hD : mDis as) (x1 : Int32) (u : MU) {r : Int32} {v : MU} (h : f_X7_isCall x1 u = some (r, v)) : mMI l dC dI dA as yX7_isCall cX7_isCall 2 .boolean 1 25 [.ref (as 88), .int x1] u r v := mMIof RX7 [some (.ref (as 88)), some (.int x1)] hD (by decide +kernel) rfl (Nat.le_of_ble_eq_true rfl) rfl (fun C e1 e2 e3 e4 e5 hC hE => by subst e5; exact s_X7_isCall_0 hC (res := (r, v)) hE x1 u h)
set_option maxHeartbeats 4000000 in
set_option maxRecDepth 100000 in
theorem s_X7_drop_22 {C : mCtx} (hC : mOK cX7_drop RX7 3 2 46 C) {res : Int32 × MU} (hE : mEndI C .int res.1 res.2) (k22 : Int32 → MU → mR) (hk22 : ∀ (x2 : Int32) (u : MU), k22 x2 u = some res → wat C u 22 [some (.ref (cS C 88)), none, some (.int x2)] []) (x2 : Int32) (u : MU) (h : b_X7_drop_22 k22 x2 u = some res) : wat C u 22 [some (.ref (cS C 88)), none, some (.int x2)] [] := by
  unfold b_X7_drop_22 at h
  refine z_iload_n hC dX7_drop_22 rfl rfl ?_
  refine z_aload_n hC dX7_drop_23 rfl rfl ?_
  refine z_getI hC kF_X7_203 sh_88 rfl dX7_drop_24 ?_
  refine z_icmp_ge hC 64 dX7_drop_27 (by decide) (fun b1 => ?_) (fun b1 => ?_)
  · rw [if_pos b1] at h
    refine z_aload_n hC dX7_drop_64 rfl rfl ?_
    refine z_getI hC kF_X7_203 sh_88 rfl dX7_drop_65 ?_
    obtain rfl := Option.some.inj h
    exact z_iret hC hE dX7_drop_68
  · rw [if_neg b1] at h
    refine z_aload_n hC dX7_drop_30 rfl rfl ?_
    refine z_getR hC 92 kF_X7_19 sh_88 rfl dX7_drop_31 ?_
    refine z_iload_n hC dX7_drop_34 rfl rfl ?_
    refine z_aload_n hC dX7_drop_35 rfl rfl ?_
    refine z_getR hC 92 kF_X7_19 sh_88 rfl dX7_drop_36 ?_
    refine z_iload_n hC dX7_drop_39 rfl rfl ?_
    refine z_iconst (v := 1) hC dX7_drop_40 (by decide) ?_
    refine z_iadd hC dX7_drop_41 ?_
    obtain ⟨g2, h⟩ := gd_some h
    refine z_iald hC sh_92 g2 dX7_drop_42 ?_
    obtain ⟨g3, h⟩ := gd_some h
    obtain ⟨u4, e4, h⟩ := mS_some h
    refine y_iast hC sh_92 g3 dX7_drop_43 e4 ?_
    refine z_aload_n hC dX7_drop_44 rfl rfl ?_
    refine z_getR hC 93 kF_X7_22 sh_88 rfl dX7_drop_45 ?_
    refine z_iload_n hC dX7_drop_48 rfl rfl ?_
    refine z_aload_n hC dX7_drop_49 rfl rfl ?_
    refine z_getR hC 93 kF_X7_22 sh_88 rfl dX7_drop_50 ?_
    refine z_iload_n hC dX7_drop_53 rfl rfl ?_
    refine z_iconst (v := 1) hC dX7_drop_54 (by decide) ?_
    refine z_iadd hC dX7_drop_55 ?_
    obtain ⟨g5, h⟩ := gd_some h
    refine z_iald hC sh_93 g5 dX7_drop_56 ?_
    obtain ⟨g6, h⟩ := gd_some h
    obtain ⟨u7, e7, h⟩ := mS_some h
    refine y_iast hC sh_93 g6 dX7_drop_57 e7 ?_
    refine y_iinc hC (x2 + 1) [some (.ref (cS C 88)), none, some (.int (x2 + 1))] dX7_drop_58 rfl rfl rfl (Nat.le_of_ble_eq_true rfl) rfl ?_
    refine z_goto hC 22 dX7_drop_61 (by decide) ?_
    exact hk22 (x2 + 1) u7 h
set_option maxHeartbeats 4000000 in
set_option maxRecDepth 100000 in
theorem t_X7_drop_22 {C : mCtx} (hC : mOK cX7_drop RX7 3 2 46 C) {res : Int32 × MU} (hE : mEndI C .int res.1 res.2) : ∀ (n : Nat) (x2 : Int32) (u : MU), l_X7_drop_22 n x2 u = some res → wat C u 22 [some (.ref (cS C 88)), none, some (.int x2)] [] := by
  intro n
  induction n with
  | zero => intro x2 u h; exact absurd h (by simp [l_X7_drop_22])
  | succ n ih =>
    intro x2 u h
    exact s_X7_drop_22 hC hE (fun x2 u => l_X7_drop_22 n x2 u) ih x2 u h
set_option maxHeartbeats 4000000 in
set_option maxRecDepth 100000 in
theorem s_X7_drop_0 {C : mCtx} (hC : mOK cX7_drop RX7 3 2 46 C) {res : Int32 × MU} (hE : mEndI C .int res.1 res.2) (x1 : Int32) (u : MU) (h : f_X7_drop x1 u = some res) : wat C u 0 [some (.ref (cS C 88)), some (.int x1), none] [] := by
  unfold f_X7_drop at h
  refine z_aload_n hC dX7_drop_0 rfl rfl ?_
  refine z_iload_n hC dX7_drop_1 rfl rfl ?_
  obtain ⟨r1, u1, c1, h⟩ := mB_some h
  refine z_callI hC kC_X7_isCall kM_X7_206 sh_88 TX7 39 rfl (m_X7_isCall hC.dis x1 u c1) rfl (Nat.le_of_ble_eq_true rfl) (Nat.le_of_ble_eq_true rfl) (Nat.le_of_ble_eq_true rfl) rfl dX7_drop_2 ?_
  refine z_if_ne hC 10 dX7_drop_5 (by decide) (fun b2 => ?_) (fun b2 => ?_)
  · rw [if_neg b2] at h
    refine z_aload_n hC dX7_drop_10 rfl rfl ?_
    refine z_dup hC dX7_drop_11 rfl ?_
    refine z_getI hC kF_X7_203 sh_88 rfl dX7_drop_12 ?_
    refine z_iconst (v := 1) hC dX7_drop_15 (by decide) ?_
    refine z_isub hC dX7_drop_16 ?_
    obtain ⟨u3, e3, h⟩ := mS_some h
    refine y_putI hC kP_X7_203 sh_88 rfl dX7_drop_17 e3 ?_
    refine z_iload_n hC dX7_drop_20 rfl rfl ?_
    refine y_istore_n hC [some (.ref (cS C 88)), some (.int x1), some (.int x1)] dX7_drop_21 rfl rfl (Nat.le_of_ble_eq_true rfl) (Nat.le_of_ble_eq_true rfl) rfl ?_
    refine z_mask [true, false, true] ?_
    exact t_X7_drop_22 hC hE FU x1 u3 h
  · rw [if_pos b2] at h
    refine z_iconst (v := (-1)) hC dX7_drop_8 (by decide) ?_
    obtain rfl := Option.some.inj h
    exact z_iret hC hE dX7_drop_9
theorem m_X7_drop {l : Launch} {dC : Nat → ClassId} {dI : Nat → Nat → Nat} {dA : Nat → ClassId} {as : Nat → Nat} (hD : mDis as) (x1 : Int32) (u : MU) {r : Int32} {v : MU} (h : f_X7_drop x1 u = some (r, v)) : mMI l dC dI dA as yX7_drop cX7_drop 3 .int 2 46 [.ref (as 88), .int x1] u r v := mMIof RX7 [some (.ref (as 88)), some (.int x1), none] hD (by decide +kernel) rfl (Nat.le_of_ble_eq_true rfl) rfl (fun C e1 e2 e3 e4 e5 hC hE => by subst e5; exact s_X7_drop_0 hC (res := (r, v)) hE x1 u h)
set_option maxHeartbeats 4000000 in
set_option maxRecDepth 100000 in
theorem s_X7_effectOf_0 {C : mCtx} (hC : mOK cX7_effectOf RX7 2 0 0 C) {res : Int32 × MU} (hE : mEndI C .int res.1 res.2) (x1 : Int32) (u : MU) (h : f_X7_effectOf x1 u = some res) : wat C u 0 [some (.ref (cS C 88)), some (.int x1)] [] := by
  unfold f_X7_effectOf at h
  refine z_bipush (v := nI 12) hC dX7_effectOf_0 (by decide) ?_
  refine z_aload_n hC dX7_effectOf_2 rfl rfl ?_
  refine z_getR hC 92 kF_X7_19 sh_88 rfl dX7_effectOf_3 ?_
  refine z_iload_n hC dX7_effectOf_6 rfl rfl ?_
  obtain ⟨g1, h⟩ := gd_some h
  refine z_iald hC sh_92 g1 dX7_effectOf_7 ?_
  refine z_imul hC dX7_effectOf_8 ?_
  refine z_aload_n hC dX7_effectOf_9 rfl rfl ?_
  refine z_getR hC 93 kF_X7_22 sh_88 rfl dX7_effectOf_10 ?_
  refine z_iload_n hC dX7_effectOf_13 rfl rfl ?_
  obtain ⟨g2, h⟩ := gd_some h
  refine z_iald hC sh_93 g2 dX7_effectOf_14 ?_
  refine z_iadd hC dX7_effectOf_15 ?_
  obtain rfl := Option.some.inj h
  exact z_iret hC hE dX7_effectOf_16
theorem m_X7_effectOf {l : Launch} {dC : Nat → ClassId} {dI : Nat → Nat → Nat} {dA : Nat → ClassId} {as : Nat → Nat} (hD : mDis as) (x1 : Int32) (u : MU) {r : Int32} {v : MU} (h : f_X7_effectOf x1 u = some (r, v)) : mMI l dC dI dA as yX7_effectOf cX7_effectOf 2 .int 0 0 [.ref (as 88), .int x1] u r v := mMIof RX7 [some (.ref (as 88)), some (.int x1)] hD (by decide +kernel) rfl (Nat.le_of_ble_eq_true rfl) rfl (fun C e1 e2 e3 e4 e5 hC hE => by subst e5; exact s_X7_effectOf_0 hC (res := (r, v)) hE x1 u h)
set_option maxHeartbeats 4000000 in
set_option maxRecDepth 100000 in
theorem s_X7_turn_0 {C : mCtx} (hC : mOK cX7_turn RX7 3 0 0 C) {res : Int32 × MU} (hE : mEndV C res.2) (q0 : Nat) (hq0 : okI q0) (x1 : Int32) (u : MU) (h : f_X7_turn q0 x1 u = some res) : wat C u 0 [some (.ref (cS C q0)), some (.int x1), none] [] := by
  unfold f_X7_turn at h
  refine z_aload_n hC dX7_turn_0 rfl rfl ?_
  refine z_iload_n hC dX7_turn_1 rfl rfl ?_
  obtain ⟨g1, h⟩ := gd_some h
  refine z_iald hC hq0 g1 dX7_turn_2 ?_
  refine y_istore_n hC [some (.ref (cS C q0)), some (.int x1), some (.int (u q0 x1.toNatClampNeg))] dX7_turn_3 rfl rfl (Nat.le_of_ble_eq_true rfl) (Nat.le_of_ble_eq_true rfl) rfl ?_
  refine z_aload_n hC dX7_turn_4 rfl rfl ?_
  refine z_iload_n hC dX7_turn_5 rfl rfl ?_
  refine z_aload_n hC dX7_turn_6 rfl rfl ?_
  refine z_iload_n hC dX7_turn_7 rfl rfl ?_
  refine z_iconst (v := 1) hC dX7_turn_8 (by decide) ?_
  refine z_iadd hC dX7_turn_9 ?_
  obtain ⟨g2, h⟩ := gd_some h
  refine z_iald hC hq0 g2 dX7_turn_10 ?_
  obtain ⟨g3, h⟩ := gd_some h
  obtain ⟨u4, e4, h⟩ := mS_some h
  refine y_iast hC hq0 g3 dX7_turn_11 e4 ?_
  refine z_aload_n hC dX7_turn_12 rfl rfl ?_
  refine z_iload_n hC dX7_turn_13 rfl rfl ?_
  refine z_iconst (v := 1) hC dX7_turn_14 (by decide) ?_
  refine z_iadd hC dX7_turn_15 ?_
  refine z_iload_n hC dX7_turn_16 rfl rfl ?_
  obtain ⟨g5, h⟩ := gd_some h
  obtain ⟨u6, e6, h⟩ := mS_some h
  refine y_iast hC hq0 g5 dX7_turn_17 e6 ?_
  obtain rfl := Option.some.inj h
  exact z_vret hC hE dX7_turn_18
theorem m_X7_turn {l : Launch} {dC : Nat → ClassId} {dI : Nat → Nat → Nat} {dA : Nat → ClassId} {as : Nat → Nat} (hD : mDis as) (q0 : Nat) (hq0 : okI q0) (x1 : Int32) (u : MU) {r : Int32} {v : MU} (h : f_X7_turn q0 x1 u = some (r, v)) : mMV l dC dI dA as yX7_turn cX7_turn 3 0 0 [.ref (as q0), .int x1] u v := mMVof RX7 [some (.ref (as q0)), some (.int x1), none] hD (by decide +kernel) rfl (Nat.le_of_ble_eq_true rfl) rfl (fun C e1 e2 e3 e4 e5 hC hE => by subst e5; exact s_X7_turn_0 hC (res := (r, v)) hE q0 hq0 x1 u h)
set_option maxHeartbeats 4000000 in
set_option maxRecDepth 100000 in
theorem s_X7_swap_0 {C : mCtx} (hC : mOK cX7_swap RX7 2 8 177 C) {res : Int32 × MU} (hE : mEndI C .int res.1 res.2) (x1 : Int32) (u : MU) (h : f_X7_swap x1 u = some res) : wat C u 0 [some (.ref (cS C 88)), some (.int x1)] [] := by
  unfold f_X7_swap at h
  refine z_aload_n hC dX7_swap_0 rfl rfl ?_
  refine z_iload_n hC dX7_swap_1 rfl rfl ?_
  obtain ⟨r1, u1, c1, h⟩ := mB_some h
  refine z_callI hC kC_X7_isCall kM_X7_206 sh_88 TX7 39 rfl (m_X7_isCall hC.dis x1 u c1) rfl (Nat.le_of_ble_eq_true rfl) (Nat.le_of_ble_eq_true rfl) (Nat.le_of_ble_eq_true rfl) rfl dX7_swap_2 ?_
  refine z_if_eq hC 18 dX7_swap_5 (by decide) (fun b2 => ?_) (fun b2 => ?_)
  · rw [if_pos b2] at h
    refine z_iconst (v := (-1)) hC dX7_swap_18 (by decide) ?_
    obtain rfl := Option.some.inj h
    exact z_iret hC hE dX7_swap_19
  · rw [if_neg b2] at h
    refine z_aload_n hC dX7_swap_8 rfl rfl ?_
    refine z_iload_n hC dX7_swap_9 rfl rfl ?_
    refine z_iconst (v := 1) hC dX7_swap_10 (by decide) ?_
    refine z_iadd hC dX7_swap_11 ?_
    obtain ⟨r3, u3, c3, h⟩ := mB_some h
    refine z_callI hC kC_X7_isCall kM_X7_206 sh_88 TX7 39 rfl (m_X7_isCall hC.dis (x1 + 1) u1 c3) rfl (Nat.le_of_ble_eq_true rfl) (Nat.le_of_ble_eq_true rfl) (Nat.le_of_ble_eq_true rfl) rfl dX7_swap_12 ?_
    refine z_if_ne hC 20 dX7_swap_15 (by decide) (fun b4 => ?_) (fun b4 => ?_)
    · rw [if_neg b4] at h
      refine z_aload_n hC dX7_swap_20 rfl rfl ?_
      obtain ⟨r5, u5, c5, h⟩ := mB_some h
      refine z_callV hC kC_X7_findEffects kM_X7_194 sh_88 TX7 39 rfl (m_X7_findEffects hC.dis u3 c5) rfl (Nat.le_of_ble_eq_true rfl) (Nat.le_of_ble_eq_true rfl) (Nat.le_of_ble_eq_true rfl) rfl dX7_swap_21 ?_
      refine z_aload_n hC dX7_swap_24 rfl rfl ?_
      refine z_aload_n hC dX7_swap_25 rfl rfl ?_
      refine z_getR hC 92 kF_X7_19 sh_88 rfl dX7_swap_26 ?_
      refine z_iload_n hC dX7_swap_29 rfl rfl ?_
      obtain ⟨g6, h⟩ := gd_some h
      refine z_iald hC sh_92 g6 dX7_swap_30 ?_
      obtain ⟨r7, u7, c7, h⟩ := mB_some h
      refine z_callI hC kC_X7_isKnown kM_X7_197 sh_88 TX7 39 rfl (m_X7_isKnown hC.dis (u5 92 x1.toNatClampNeg) u5 c7) rfl (Nat.le_of_ble_eq_true rfl) (Nat.le_of_ble_eq_true rfl) (Nat.le_of_ble_eq_true rfl) rfl dX7_swap_31 ?_
      refine z_if_eq hC 52 dX7_swap_34 (by decide) (fun b8 => ?_) (fun b8 => ?_)
      · rw [if_pos b8] at h
        refine z_bipush (v := (-5)) hC dX7_swap_52 (by decide) ?_
        obtain rfl := Option.some.inj h
        exact z_iret hC hE dX7_swap_54
      · rw [if_neg b8] at h
        refine z_aload_n hC dX7_swap_37 rfl rfl ?_
        refine z_aload_n hC dX7_swap_38 rfl rfl ?_
        refine z_getR hC 92 kF_X7_19 sh_88 rfl dX7_swap_39 ?_
        refine z_iload_n hC dX7_swap_42 rfl rfl ?_
        refine z_iconst (v := 1) hC dX7_swap_43 (by decide) ?_
        refine z_iadd hC dX7_swap_44 ?_
        obtain ⟨g9, h⟩ := gd_some h
        refine z_iald hC sh_92 g9 dX7_swap_45 ?_
        obtain ⟨r10, u10, c10, h⟩ := mB_some h
        refine z_callI hC kC_X7_isKnown kM_X7_197 sh_88 TX7 39 rfl (m_X7_isKnown hC.dis (u7 92 (x1 + 1).toNatClampNeg) u7 c10) rfl (Nat.le_of_ble_eq_true rfl) (Nat.le_of_ble_eq_true rfl) (Nat.le_of_ble_eq_true rfl) rfl dX7_swap_46 ?_
        refine z_if_ne hC 55 dX7_swap_49 (by decide) (fun b11 => ?_) (fun b11 => ?_)
        · rw [if_neg b11] at h
          refine z_aload_n hC dX7_swap_55 rfl rfl ?_
          refine z_aload_n hC dX7_swap_56 rfl rfl ?_
          refine z_iload_n hC dX7_swap_57 rfl rfl ?_
          obtain ⟨r12, u12, c12, h⟩ := mB_some h
          refine z_callI hC kC_X7_effectOf kM_X7_209 sh_88 TX7 39 rfl (m_X7_effectOf hC.dis x1 u10 c12) rfl (Nat.le_of_ble_eq_true rfl) (Nat.le_of_ble_eq_true rfl) (Nat.le_of_ble_eq_true rfl) rfl dX7_swap_58 ?_
          refine z_aload_n hC dX7_swap_61 rfl rfl ?_
          refine z_iload_n hC dX7_swap_62 rfl rfl ?_
          refine z_iconst (v := 1) hC dX7_swap_63 (by decide) ?_
          refine z_iadd hC dX7_swap_64 ?_
          obtain ⟨r13, u13, c13, h⟩ := mB_some h
          refine z_callI hC kC_X7_effectOf kM_X7_209 sh_88 TX7 39 rfl (m_X7_effectOf hC.dis (x1 + 1) u12 c13) rfl (Nat.le_of_ble_eq_true rfl) (Nat.le_of_ble_eq_true rfl) (Nat.le_of_ble_eq_true rfl) rfl dX7_swap_65 ?_
          obtain ⟨r14, u14, c14, h⟩ := mB_some h
          refine z_callI hC kC_X7_causesOf kM_X7_200 sh_88 TX7 39 rfl (m_X7_causesOf hC.dis r12 r13 u13 c14) rfl (Nat.le_of_ble_eq_true rfl) (Nat.le_of_ble_eq_true rfl) (Nat.le_of_ble_eq_true rfl) rfl dX7_swap_68 ?_
          refine z_if_eq hC 77 dX7_swap_71 (by decide) (fun b15 => ?_) (fun b15 => ?_)
          · rw [if_pos b15] at h
            refine z_aload_n hC dX7_swap_77 rfl rfl ?_
            refine z_getR hC 92 kF_X7_19 sh_88 rfl dX7_swap_78 ?_
            refine z_iload_n hC dX7_swap_81 rfl rfl ?_
            obtain ⟨r16, u16, c16, h⟩ := mB_some h
            refine z_callSV hC kC_X7_turn kM_X7_212 (m_X7_turn hC.dis 92 sh_92 x1 u14 c16) rfl (Nat.le_of_ble_eq_true rfl) (Nat.le_of_ble_eq_true rfl) (Nat.le_of_ble_eq_true rfl) rfl dX7_swap_82 ?_
            refine z_aload_n hC dX7_swap_85 rfl rfl ?_
            refine z_getR hC 93 kF_X7_22 sh_88 rfl dX7_swap_86 ?_
            refine z_iload_n hC dX7_swap_89 rfl rfl ?_
            obtain ⟨r17, u17, c17, h⟩ := mB_some h
            refine z_callSV hC kC_X7_turn kM_X7_212 (m_X7_turn hC.dis 93 sh_93 x1 u16 c17) rfl (Nat.le_of_ble_eq_true rfl) (Nat.le_of_ble_eq_true rfl) (Nat.le_of_ble_eq_true rfl) rfl dX7_swap_90 ?_
            refine z_iconst (v := 1) hC dX7_swap_93 (by decide) ?_
            obtain rfl := Option.some.inj h
            exact z_iret hC hE dX7_swap_94
          · rw [if_neg b15] at h
            refine z_bipush (v := (-3)) hC dX7_swap_74 (by decide) ?_
            obtain rfl := Option.some.inj h
            exact z_iret hC hE dX7_swap_76
        · rw [if_pos b11] at h
          refine z_bipush (v := (-5)) hC dX7_swap_52 (by decide) ?_
          obtain rfl := Option.some.inj h
          exact z_iret hC hE dX7_swap_54
    · rw [if_pos b4] at h
      refine z_iconst (v := (-1)) hC dX7_swap_18 (by decide) ?_
      obtain rfl := Option.some.inj h
      exact z_iret hC hE dX7_swap_19
theorem m_X7_swap {l : Launch} {dC : Nat → ClassId} {dI : Nat → Nat → Nat} {dA : Nat → ClassId} {as : Nat → Nat} (hD : mDis as) (x1 : Int32) (u : MU) {r : Int32} {v : MU} (h : f_X7_swap x1 u = some (r, v)) : mMI l dC dI dA as yX7_swap cX7_swap 2 .int 8 177 [.ref (as 88), .int x1] u r v := mMIof RX7 [some (.ref (as 88)), some (.int x1)] hD (by decide +kernel) rfl (Nat.le_of_ble_eq_true rfl) rfl (fun C e1 e2 e3 e4 e5 hC hE => by subst e5; exact s_X7_swap_0 hC (res := (r, v)) hE x1 u h)
set_option maxHeartbeats 4000000 in
set_option maxRecDepth 100000 in
theorem s_X7_isAllKnown_34 {C : mCtx} (hC : mOK cX7_isAllKnown RX7 3 7 155 C) {res : Int32 × MU} (hE : mEndI C .boolean res.1 res.2) (k4 : Int32 → Int32 → MU → mR) (hk4 : ∀ (x1 : Int32) (x2 : Int32) (u : MU), k4 x1 x2 u = some res → wat C u 4 [some (.ref (cS C 88)), some (.int x1), some (.int x2)] []) (x2 : Int32) (s0 : Int32) (u : MU) (h : b_X7_isAllKnown_34 k4 x2 s0 u = some res) : wat C u 34 [some (.ref (cS C 88)), none, some (.int x2)] [(.int s0)] := by
  unfold b_X7_isAllKnown_34 at h
  refine y_istore_n hC [some (.ref (cS C 88)), some (.int s0), some (.int x2)] dX7_isAllKnown_34 rfl rfl (Nat.le_of_ble_eq_true rfl) (Nat.le_of_ble_eq_true rfl) rfl ?_
  refine y_iinc hC (x2 + 1) [some (.ref (cS C 88)), some (.int s0), some (.int (x2 + 1))] dX7_isAllKnown_35 rfl rfl rfl (Nat.le_of_ble_eq_true rfl) rfl ?_
  refine z_goto hC 4 dX7_isAllKnown_38 (by decide) ?_
  exact hk4 s0 (x2 + 1) u h
set_option maxHeartbeats 4000000 in
set_option maxRecDepth 100000 in
theorem s_X7_isAllKnown_33 {C : mCtx} (hC : mOK cX7_isAllKnown RX7 3 7 155 C) {res : Int32 × MU} (hE : mEndI C .boolean res.1 res.2) (k4 : Int32 → Int32 → MU → mR) (hk4 : ∀ (x1 : Int32) (x2 : Int32) (u : MU), k4 x1 x2 u = some res → wat C u 4 [some (.ref (cS C 88)), some (.int x1), some (.int x2)] []) (x2 : Int32) (u : MU) (h : b_X7_isAllKnown_33 k4 x2 u = some res) : wat C u 33 [some (.ref (cS C 88)), none, some (.int x2)] [] := by
  unfold b_X7_isAllKnown_33 at h
  refine z_iconst (v := 0) hC dX7_isAllKnown_33 (by decide) ?_
  exact s_X7_isAllKnown_34 hC hE k4 hk4 x2 0 u h
set_option maxHeartbeats 4000000 in
set_option maxRecDepth 100000 in
theorem s_X7_isAllKnown_4 {C : mCtx} (hC : mOK cX7_isAllKnown RX7 3 7 155 C) {res : Int32 × MU} (hE : mEndI C .boolean res.1 res.2) (k4 : Int32 → Int32 → MU → mR) (hk4 : ∀ (x1 : Int32) (x2 : Int32) (u : MU), k4 x1 x2 u = some res → wat C u 4 [some (.ref (cS C 88)), some (.int x1), some (.int x2)] []) (x1 : Int32) (x2 : Int32) (u : MU) (h : b_X7_isAllKnown_4 k4 x1 x2 u = some res) : wat C u 4 [some (.ref (cS C 88)), some (.int x1), some (.int x2)] [] := by
  unfold b_X7_isAllKnown_4 at h
  refine z_iload_n hC dX7_isAllKnown_4 rfl rfl ?_
  refine z_aload_n hC dX7_isAllKnown_5 rfl rfl ?_
  refine z_getI hC kF_X7_203 sh_88 rfl dX7_isAllKnown_6 ?_
  refine z_icmp_ge hC 41 dX7_isAllKnown_9 (by decide) (fun b1 => ?_) (fun b1 => ?_)
  · rw [if_pos b1] at h
    refine z_iload_n hC dX7_isAllKnown_41 rfl rfl ?_
    obtain ⟨g2, h⟩ := gd_some h
    obtain rfl := Option.some.inj h
    exact z_zret hC hE g2 dX7_isAllKnown_42
  · rw [if_neg b1] at h
    refine z_iload_n hC dX7_isAllKnown_12 rfl rfl ?_
    refine z_if_eq hC 33 dX7_isAllKnown_13 (by decide) (fun b3 => ?_) (fun b3 => ?_)
    · rw [if_pos b3] at h
      refine z_mask [true, false, true] ?_
      exact s_X7_isAllKnown_33 hC hE k4 hk4 x2 u h
    · rw [if_neg b3] at h
      refine z_aload_n hC dX7_isAllKnown_16 rfl rfl ?_
      refine z_aload_n hC dX7_isAllKnown_17 rfl rfl ?_
      refine z_getR hC 92 kF_X7_19 sh_88 rfl dX7_isAllKnown_18 ?_
      refine z_iload_n hC dX7_isAllKnown_21 rfl rfl ?_
      obtain ⟨g4, h⟩ := gd_some h
      refine z_iald hC sh_92 g4 dX7_isAllKnown_22 ?_
      obtain ⟨r5, u5, c5, h⟩ := mB_some h
      refine z_callI hC kC_X7_isKnown kM_X7_197 sh_88 TX7 39 rfl (m_X7_isKnown hC.dis (u 92 x2.toNatClampNeg) u c5) rfl (Nat.le_of_ble_eq_true rfl) (Nat.le_of_ble_eq_true rfl) (Nat.le_of_ble_eq_true rfl) rfl dX7_isAllKnown_23 ?_
      refine z_if_eq hC 33 dX7_isAllKnown_26 (by decide) (fun b6 => ?_) (fun b6 => ?_)
      · rw [if_pos b6] at h
        refine z_mask [true, false, true] ?_
        exact s_X7_isAllKnown_33 hC hE k4 hk4 x2 u5 h
      · rw [if_neg b6] at h
        refine z_iconst (v := 1) hC dX7_isAllKnown_29 (by decide) ?_
        refine z_goto hC 34 dX7_isAllKnown_30 (by decide) ?_
        refine z_mask [true, false, true] ?_
        exact s_X7_isAllKnown_34 hC hE k4 hk4 x2 1 u5 h
set_option maxHeartbeats 4000000 in
set_option maxRecDepth 100000 in
theorem t_X7_isAllKnown_4 {C : mCtx} (hC : mOK cX7_isAllKnown RX7 3 7 155 C) {res : Int32 × MU} (hE : mEndI C .boolean res.1 res.2) : ∀ (n : Nat) (x1 : Int32) (x2 : Int32) (u : MU), l_X7_isAllKnown_4 n x1 x2 u = some res → wat C u 4 [some (.ref (cS C 88)), some (.int x1), some (.int x2)] [] := by
  intro n
  induction n with
  | zero => intro x1 x2 u h; exact absurd h (by simp [l_X7_isAllKnown_4])
  | succ n ih =>
    intro x1 x2 u h
    exact s_X7_isAllKnown_4 hC hE (fun x1 x2 u => l_X7_isAllKnown_4 n x1 x2 u) ih x1 x2 u h
set_option maxHeartbeats 4000000 in
set_option maxRecDepth 100000 in
theorem s_X7_isAllKnown_0 {C : mCtx} (hC : mOK cX7_isAllKnown RX7 3 7 155 C) {res : Int32 × MU} (hE : mEndI C .boolean res.1 res.2) (u : MU) (h : f_X7_isAllKnown u = some res) : wat C u 0 [some (.ref (cS C 88)), none, none] [] := by
  unfold f_X7_isAllKnown at h
  refine z_iconst (v := 1) hC dX7_isAllKnown_0 (by decide) ?_
  refine y_istore_n hC [some (.ref (cS C 88)), some (.int 1), none] dX7_isAllKnown_1 rfl rfl (Nat.le_of_ble_eq_true rfl) (Nat.le_of_ble_eq_true rfl) rfl ?_
  refine z_iconst (v := 0) hC dX7_isAllKnown_2 (by decide) ?_
  refine y_istore_n hC [some (.ref (cS C 88)), some (.int 1), some (.int 0)] dX7_isAllKnown_3 rfl rfl (Nat.le_of_ble_eq_true rfl) (Nat.le_of_ble_eq_true rfl) rfl ?_
  exact t_X7_isAllKnown_4 hC hE FU 1 0 u h
theorem m_X7_isAllKnown {l : Launch} {dC : Nat → ClassId} {dI : Nat → Nat → Nat} {dA : Nat → ClassId} {as : Nat → Nat} (hD : mDis as) (u : MU) {r : Int32} {v : MU} (h : f_X7_isAllKnown u = some (r, v)) : mMI l dC dI dA as yX7_isAllKnown cX7_isAllKnown 3 .boolean 7 155 [.ref (as 88)] u r v := mMIof RX7 [some (.ref (as 88)), none, none] hD (by decide +kernel) rfl (Nat.le_of_ble_eq_true rfl) rfl (fun C e1 e2 e3 e4 e5 hC hE => by subst e5; exact s_X7_isAllKnown_0 hC (res := (r, v)) hE u h)
set_option maxHeartbeats 4000000 in
set_option maxRecDepth 100000 in
theorem s_X7_isAhead_0 {C : mCtx} (hC : mOK cX7_isAhead RX7 3 0 0 C) {res : Int32 × MU} (hE : mEndI C .boolean res.1 res.2) (x1 : Int32) (x2 : Int32) (u : MU) (h : f_X7_isAhead x1 x2 u = some res) : wat C u 0 [some (.ref (cS C 88)), some (.int x1), some (.int x2)] [] := by
  unfold f_X7_isAhead at h
  refine z_aload_n hC dX7_isAhead_0 rfl rfl ?_
  refine z_getR hC 100 kF_X7_43 sh_88 rfl dX7_isAhead_1 ?_
  refine z_iload_n hC dX7_isAhead_4 rfl rfl ?_
  obtain ⟨g1, h⟩ := gd_some h
  refine z_iald hC sh_100 g1 dX7_isAhead_5 ?_
  refine z_aload_n hC dX7_isAhead_6 rfl rfl ?_
  refine z_getR hC 100 kF_X7_43 sh_88 rfl dX7_isAhead_7 ?_
  refine z_iload_n hC dX7_isAhead_10 rfl rfl ?_
  obtain ⟨g2, h⟩ := gd_some h
  refine z_iald hC sh_100 g2 dX7_isAhead_11 ?_
  refine z_icmp_eq hC 36 dX7_isAhead_12 (by decide) (fun b3 => ?_) (fun b3 => ?_)
  · rw [if_pos b3] at h
    refine z_aload_n hC dX7_isAhead_36 rfl rfl ?_
    refine z_getR hC 92 kF_X7_19 sh_88 rfl dX7_isAhead_37 ?_
    refine z_iload_n hC dX7_isAhead_40 rfl rfl ?_
    obtain ⟨g4, h⟩ := gd_some h
    refine z_iald hC sh_92 g4 dX7_isAhead_41 ?_
    refine z_aload_n hC dX7_isAhead_42 rfl rfl ?_
    refine z_getR hC 92 kF_X7_19 sh_88 rfl dX7_isAhead_43 ?_
    refine z_iload_n hC dX7_isAhead_46 rfl rfl ?_
    obtain ⟨g5, h⟩ := gd_some h
    refine z_iald hC sh_92 g5 dX7_isAhead_47 ?_
    refine z_icmp_eq hC 72 dX7_isAhead_48 (by decide) (fun b6 => ?_) (fun b6 => ?_)
    · rw [if_pos b6] at h
      refine z_aload_n hC dX7_isAhead_72 rfl rfl ?_
      refine z_getR hC 93 kF_X7_22 sh_88 rfl dX7_isAhead_73 ?_
      refine z_iload_n hC dX7_isAhead_76 rfl rfl ?_
      obtain ⟨g7, h⟩ := gd_some h
      refine z_iald hC sh_93 g7 dX7_isAhead_77 ?_
      refine z_aload_n hC dX7_isAhead_78 rfl rfl ?_
      refine z_getR hC 93 kF_X7_22 sh_88 rfl dX7_isAhead_79 ?_
      refine z_iload_n hC dX7_isAhead_82 rfl rfl ?_
      obtain ⟨g8, h⟩ := gd_some h
      refine z_iald hC sh_93 g8 dX7_isAhead_83 ?_
      refine z_icmp_eq hC 110 dX7_isAhead_84 (by decide) (fun b9 => ?_) (fun b9 => ?_)
      · rw [if_pos b9] at h
        refine z_iload_n hC dX7_isAhead_110 rfl rfl ?_
        refine z_iload_n hC dX7_isAhead_111 rfl rfl ?_
        refine z_icmp_ge hC 119 dX7_isAhead_112 (by decide) (fun b10 => ?_) (fun b10 => ?_)
        · rw [if_pos b10] at h
          refine z_iconst (v := 0) hC dX7_isAhead_119 (by decide) ?_
          obtain rfl := Option.some.inj h
          exact z_zret hC hE rfl dX7_isAhead_120
        · rw [if_neg b10] at h
          refine z_iconst (v := 1) hC dX7_isAhead_115 (by decide) ?_
          refine z_goto hC 120 dX7_isAhead_116 (by decide) ?_
          obtain rfl := Option.some.inj h
          exact z_zret hC hE rfl dX7_isAhead_120
      · rw [if_neg b9] at h
        refine z_aload_n hC dX7_isAhead_87 rfl rfl ?_
        refine z_getR hC 93 kF_X7_22 sh_88 rfl dX7_isAhead_88 ?_
        refine z_iload_n hC dX7_isAhead_91 rfl rfl ?_
        obtain ⟨g11, h⟩ := gd_some h
        refine z_iald hC sh_93 g11 dX7_isAhead_92 ?_
        refine z_aload_n hC dX7_isAhead_93 rfl rfl ?_
        refine z_getR hC 93 kF_X7_22 sh_88 rfl dX7_isAhead_94 ?_
        refine z_iload_n hC dX7_isAhead_97 rfl rfl ?_
        obtain ⟨g12, h⟩ := gd_some h
        refine z_iald hC sh_93 g12 dX7_isAhead_98 ?_
        refine z_icmp_ge hC 106 dX7_isAhead_99 (by decide) (fun b13 => ?_) (fun b13 => ?_)
        · rw [if_pos b13] at h
          refine z_iconst (v := 0) hC dX7_isAhead_106 (by decide) ?_
          refine z_goto hC 120 dX7_isAhead_107 (by decide) ?_
          obtain rfl := Option.some.inj h
          exact z_zret hC hE rfl dX7_isAhead_120
        · rw [if_neg b13] at h
          refine z_iconst (v := 1) hC dX7_isAhead_102 (by decide) ?_
          refine z_goto hC 120 dX7_isAhead_103 (by decide) ?_
          obtain rfl := Option.some.inj h
          exact z_zret hC hE rfl dX7_isAhead_120
    · rw [if_neg b6] at h
      refine z_aload_n hC dX7_isAhead_51 rfl rfl ?_
      refine z_getR hC 92 kF_X7_19 sh_88 rfl dX7_isAhead_52 ?_
      refine z_iload_n hC dX7_isAhead_55 rfl rfl ?_
      obtain ⟨g14, h⟩ := gd_some h
      refine z_iald hC sh_92 g14 dX7_isAhead_56 ?_
      refine z_aload_n hC dX7_isAhead_57 rfl rfl ?_
      refine z_getR hC 92 kF_X7_19 sh_88 rfl dX7_isAhead_58 ?_
      refine z_iload_n hC dX7_isAhead_61 rfl rfl ?_
      obtain ⟨g15, h⟩ := gd_some h
      refine z_iald hC sh_92 g15 dX7_isAhead_62 ?_
      refine z_icmp_ge hC 70 dX7_isAhead_63 (by decide) (fun b16 => ?_) (fun b16 => ?_)
      · rw [if_pos b16] at h
        refine z_iconst (v := 0) hC dX7_isAhead_70 (by decide) ?_
        obtain rfl := Option.some.inj h
        exact z_zret hC hE rfl dX7_isAhead_71
      · rw [if_neg b16] at h
        refine z_iconst (v := 1) hC dX7_isAhead_66 (by decide) ?_
        refine z_goto hC 71 dX7_isAhead_67 (by decide) ?_
        obtain rfl := Option.some.inj h
        exact z_zret hC hE rfl dX7_isAhead_71
  · rw [if_neg b3] at h
    refine z_aload_n hC dX7_isAhead_15 rfl rfl ?_
    refine z_getR hC 100 kF_X7_43 sh_88 rfl dX7_isAhead_16 ?_
    refine z_iload_n hC dX7_isAhead_19 rfl rfl ?_
    obtain ⟨g17, h⟩ := gd_some h
    refine z_iald hC sh_100 g17 dX7_isAhead_20 ?_
    refine z_aload_n hC dX7_isAhead_21 rfl rfl ?_
    refine z_getR hC 100 kF_X7_43 sh_88 rfl dX7_isAhead_22 ?_
    refine z_iload_n hC dX7_isAhead_25 rfl rfl ?_
    obtain ⟨g18, h⟩ := gd_some h
    refine z_iald hC sh_100 g18 dX7_isAhead_26 ?_
    refine z_icmp_ge hC 34 dX7_isAhead_27 (by decide) (fun b19 => ?_) (fun b19 => ?_)
    · rw [if_pos b19] at h
      refine z_iconst (v := 0) hC dX7_isAhead_34 (by decide) ?_
      obtain rfl := Option.some.inj h
      exact z_zret hC hE rfl dX7_isAhead_35
    · rw [if_neg b19] at h
      refine z_iconst (v := 1) hC dX7_isAhead_30 (by decide) ?_
      refine z_goto hC 35 dX7_isAhead_31 (by decide) ?_
      obtain rfl := Option.some.inj h
      exact z_zret hC hE rfl dX7_isAhead_35
theorem m_X7_isAhead {l : Launch} {dC : Nat → ClassId} {dI : Nat → Nat → Nat} {dA : Nat → ClassId} {as : Nat → Nat} (hD : mDis as) (x1 : Int32) (x2 : Int32) (u : MU) {r : Int32} {v : MU} (h : f_X7_isAhead x1 x2 u = some (r, v)) : mMI l dC dI dA as yX7_isAhead cX7_isAhead 3 .boolean 0 0 [.ref (as 88), .int x1, .int x2] u r v := mMIof RX7 [some (.ref (as 88)), some (.int x1), some (.int x2)] hD (by decide +kernel) rfl (Nat.le_of_ble_eq_true rfl) rfl (fun C e1 e2 e3 e4 e5 hC hE => by subst e5; exact s_X7_isAhead_0 hC (res := (r, v)) hE x1 x2 u h)
