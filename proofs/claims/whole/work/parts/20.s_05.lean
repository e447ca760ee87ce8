set_option maxHeartbeats 4000000 in
set_option maxRecDepth 100000 in
theorem s_X6_effect_0 {C : mCtx} (hC : mOK cX6_effect RX6 4 4 96 C) {res : Int32 × MU} (hE : mEndI C .int res.1 res.2) (x1 : Int32) (x2 : Int32) (x3 : Int32) (u : MU) (h : f_X6_effect x1 x2 x3 u = some res) : wat C u 0 [some (.ref (cS C 0)), some (.int x1), some (.int x2), some (.int x3)] [] := by
  unfold f_X6_effect at h
  refine z_iload_n hC dX6_effect_0 rfl rfl ?_
  refine z_bipush (v := nI 6) hC dX6_effect_1 (by decide) ?_
  obtain ⟨r1, u1, c1, h⟩ := mB_some h
  refine z_callSI hC kC_X6_within kM_X6_58 (m_X6_within hC.dis x1 (nI 6) u c1) rfl (Nat.le_of_ble_eq_true rfl) (Nat.le_of_ble_eq_true rfl) (Nat.le_of_ble_eq_true rfl) rfl dX6_effect_3 ?_
  refine z_if_ne hC 11 dX6_effect_6 (by decide) (fun b2 => ?_) (fun b2 => ?_)
  · rw [if_neg b2] at h
    refine z_iload_n hC dX6_effect_11 rfl rfl ?_
    refine z_bipush (v := nI 12) hC dX6_effect_12 (by decide) ?_
    obtain ⟨r3, u3, c3, h⟩ := mB_some h
    refine z_callSI hC kC_X6_within kM_X6_58 (m_X6_within hC.dis x2 (nI 12) u1 c3) rfl (Nat.le_of_ble_eq_true rfl) (Nat.le_of_ble_eq_true rfl) (Nat.le_of_ble_eq_true rfl) rfl dX6_effect_14 ?_
    refine z_if_eq hC 28 dX6_effect_17 (by decide) (fun b4 => ?_) (fun b4 => ?_)
    · rw [if_pos b4] at h
      refine z_bipush (v := (-2)) hC dX6_effect_28 (by decide) ?_
      obtain rfl := Option.some.inj h
      exact z_iret hC hE dX6_effect_30
    · rw [if_neg b4] at h
      refine z_iload_n hC dX6_effect_20 rfl rfl ?_
      refine z_iconst (v := nI 4) hC dX6_effect_21 (by decide) ?_
      obtain ⟨r5, u5, c5, h⟩ := mB_some h
      refine z_callSI hC kC_X6_within kM_X6_58 (m_X6_within hC.dis x3 (nI 4) u3 c5) rfl (Nat.le_of_ble_eq_true rfl) (Nat.le_of_ble_eq_true rfl) (Nat.le_of_ble_eq_true rfl) rfl dX6_effect_22 ?_
      refine z_if_ne hC 31 dX6_effect_25 (by decide) (fun b6 => ?_) (fun b6 => ?_)
      · rw [if_neg b6] at h
        refine z_aload_n hC dX6_effect_31 rfl rfl ?_
        refine z_getR hC 2 kF_X6_18 sh_0 rfl dX6_effect_32 ?_
        refine z_aload_n hC dX6_effect_35 rfl rfl ?_
        refine z_getR hC 1 kF_X6_11 sh_0 rfl dX6_effect_36 ?_
        obtain ⟨r7, u7, c7, h⟩ := mB_some h
        refine z_callV hC kC_X0_find kM_X6_79 sh_2 TX0 6 rfl (m_X0_find hC.dis u5 c7) rfl (Nat.le_of_ble_eq_true rfl) (Nat.le_of_ble_eq_true rfl) (Nat.le_of_ble_eq_true rfl) rfl dX6_effect_39 ?_
        refine z_aload_n hC dX6_effect_42 rfl rfl ?_
        refine z_getR hC 2 kF_X6_18 sh_0 rfl dX6_effect_43 ?_
        refine z_getR hC 7 kF_X6_83 sh_2 rfl dX6_effect_46 ?_
        refine z_iload_n hC dX6_effect_49 rfl rfl ?_
        obtain ⟨g8, h⟩ := gd_some h
        refine z_zald hC sh_7 g8 dX6_effect_50 ?_
        refine z_if_eq hC 67 dX6_effect_51 (by decide) (fun b9 => ?_) (fun b9 => ?_)
        · rw [if_pos b9] at h
          refine z_bipush (v := (-5)) hC dX6_effect_67 (by decide) ?_
          obtain rfl := Option.some.inj h
          exact z_iret hC hE dX6_effect_69
        · rw [if_neg b9] at h
          refine z_aload_n hC dX6_effect_54 rfl rfl ?_
          refine z_getR hC 2 kF_X6_18 sh_0 rfl dX6_effect_55 ?_
          refine z_iload_n hC dX6_effect_58 rfl rfl ?_
          refine z_iload_n hC dX6_effect_59 rfl rfl ?_
          refine z_iload_n hC dX6_effect_60 rfl rfl ?_
          obtain ⟨r10, u10, c10, h⟩ := mB_some h
          refine z_callI hC kC_X0_part kM_X6_87 sh_2 TX0 6 rfl (m_X0_part hC.dis x1 x2 x3 u7 c10) rfl (Nat.le_of_ble_eq_true rfl) (Nat.le_of_ble_eq_true rfl) (Nat.le_of_ble_eq_true rfl) rfl dX6_effect_61 ?_
          refine z_goto hC 69 dX6_effect_64 (by decide) ?_
          obtain rfl := Option.some.inj h
          exact z_iret hC hE dX6_effect_69
      · rw [if_pos b6] at h
        refine z_bipush (v := (-2)) hC dX6_effect_28 (by decide) ?_
        obtain rfl := Option.some.inj h
        exact z_iret hC hE dX6_effect_30
  · rw [if_pos b2] at h
    refine z_iconst (v := (-1)) hC dX6_effect_9 (by decide) ?_
    obtain rfl := Option.some.inj h
    exact z_iret hC hE dX6_effect_10
theorem m_X6_effect {l : Launch} {dC : Nat → ClassId} {dI : Nat → Nat → Nat} {dA : Nat → ClassId} {as : Nat → Nat} (hD : mDis as) (x1 : Int32) (x2 : Int32) (x3 : Int32) (u : MU) {r : Int32} {v : MU} (h : f_X6_effect x1 x2 x3 u = some (r, v)) : mMI l dC dI dA as yX6_effect cX6_effect 4 .int 4 96 [.ref (as 0), .int x1, .int x2, .int x3] u r v := mMIof RX6 [some (.ref (as 0)), some (.int x1), some (.int x2), some (.int x3)] hD (by decide +kernel) rfl (Nat.le_of_ble_eq_true rfl) rfl (fun C e1 e2 e3 e4 e5 hC hE => by subst e5; exact s_X6_effect_0 hC (res := (r, v)) hE x1 x2 x3 u h)
set_option maxHeartbeats 4000000 in
set_option maxRecDepth 100000 in
theorem s_X6_causes_0 {C : mCtx} (hC : mOK cX6_causes RX6 5 4 96 C) {res : Int32 × MU} (hE : mEndI C .int res.1 res.2) (x1 : Int32) (x2 : Int32) (x3 : Int32) (x4 : Int32) (u : MU) (h : f_X6_causes x1 x2 x3 x4 u = some res) : wat C u 0 [some (.ref (cS C 0)), some (.int x1), some (.int x2), some (.int x3), some (.int x4)] [] := by
  unfold f_X6_causes at h
  refine z_iload_n hC dX6_causes_0 rfl rfl ?_
  refine z_bipush (v := nI 6) hC dX6_causes_1 (by decide) ?_
  obtain ⟨r1, u1, c1, h⟩ := mB_some h
  refine z_callSI hC kC_X6_within kM_X6_58 (m_X6_within hC.dis x1 (nI 6) u c1) rfl (Nat.le_of_ble_eq_true rfl) (Nat.le_of_ble_eq_true rfl) (Nat.le_of_ble_eq_true rfl) rfl dX6_causes_3 ?_
  refine z_if_eq hC 18 dX6_causes_6 (by decide) (fun b2 => ?_) (fun b2 => ?_)
  · rw [if_pos b2] at h
    refine z_iconst (v := (-1)) hC dX6_causes_18 (by decide) ?_
    obtain rfl := Option.some.inj h
    exact z_iret hC hE dX6_causes_19
  · rw [if_neg b2] at h
    refine z_iload_n hC dX6_causes_9 rfl rfl ?_
    refine z_bipush (v := nI 6) hC dX6_causes_10 (by decide) ?_
    obtain ⟨r3, u3, c3, h⟩ := mB_some h
    refine z_callSI hC kC_X6_within kM_X6_58 (m_X6_within hC.dis x3 (nI 6) u1 c3) rfl (Nat.le_of_ble_eq_true rfl) (Nat.le_of_ble_eq_true rfl) (Nat.le_of_ble_eq_true rfl) rfl dX6_causes_12 ?_
    refine z_if_ne hC 20 dX6_causes_15 (by decide) (fun b4 => ?_) (fun b4 => ?_)
    · rw [if_neg b4] at h
      refine z_iload_n hC dX6_causes_20 rfl rfl ?_
      refine z_bipush (v := nI 12) hC dX6_causes_21 (by decide) ?_
      obtain ⟨r5, u5, c5, h⟩ := mB_some h
      refine z_callSI hC kC_X6_within kM_X6_58 (m_X6_within hC.dis x2 (nI 12) u3 c5) rfl (Nat.le_of_ble_eq_true rfl) (Nat.le_of_ble_eq_true rfl) (Nat.le_of_ble_eq_true rfl) rfl dX6_causes_23 ?_
      refine z_if_eq hC 39 dX6_causes_26 (by decide) (fun b6 => ?_) (fun b6 => ?_)
      · rw [if_pos b6] at h
        refine z_bipush (v := (-2)) hC dX6_causes_39 (by decide) ?_
        obtain rfl := Option.some.inj h
        exact z_iret hC hE dX6_causes_41
      · rw [if_neg b6] at h
        refine z_iload hC dX6_causes_29 rfl ?_
        refine z_bipush (v := nI 12) hC dX6_causes_31 (by decide) ?_
        obtain ⟨r7, u7, c7, h⟩ := mB_some h
        refine z_callSI hC kC_X6_within kM_X6_58 (m_X6_within hC.dis x4 (nI 12) u5 c7) rfl (Nat.le_of_ble_eq_true rfl) (Nat.le_of_ble_eq_true rfl) (Nat.le_of_ble_eq_true rfl) rfl dX6_causes_33 ?_
        refine z_if_ne hC 42 dX6_causes_36 (by decide) (fun b8 => ?_) (fun b8 => ?_)
        · rw [if_neg b8] at h
          refine z_aload_n hC dX6_causes_42 rfl rfl ?_
          refine z_getR hC 2 kF_X6_18 sh_0 rfl dX6_causes_43 ?_
          refine z_aload_n hC dX6_causes_46 rfl rfl ?_
          refine z_getR hC 1 kF_X6_11 sh_0 rfl dX6_causes_47 ?_
          obtain ⟨r9, u9, c9, h⟩ := mB_some h
          refine z_callV hC kC_X0_find kM_X6_79 sh_2 TX0 6 rfl (m_X0_find hC.dis u7 c9) rfl (Nat.le_of_ble_eq_true rfl) (Nat.le_of_ble_eq_true rfl) (Nat.le_of_ble_eq_true rfl) rfl dX6_causes_50 ?_
          refine z_aload_n hC dX6_causes_53 rfl rfl ?_
          refine z_getR hC 2 kF_X6_18 sh_0 rfl dX6_causes_54 ?_
          refine z_getR hC 7 kF_X6_83 sh_2 rfl dX6_causes_57 ?_
          refine z_iload_n hC dX6_causes_60 rfl rfl ?_
          obtain ⟨g10, h⟩ := gd_some h
          refine z_zald hC sh_7 g10 dX6_causes_61 ?_
          refine z_if_eq hC 77 dX6_causes_62 (by decide) (fun b11 => ?_) (fun b11 => ?_)
          · rw [if_pos b11] at h
            refine z_bipush (v := (-5)) hC dX6_causes_77 (by decide) ?_
            obtain rfl := Option.some.inj h
            exact z_iret hC hE dX6_causes_79
          · rw [if_neg b11] at h
            refine z_aload_n hC dX6_causes_65 rfl rfl ?_
            refine z_getR hC 2 kF_X6_18 sh_0 rfl dX6_causes_66 ?_
            refine z_getR hC 7 kF_X6_83 sh_2 rfl dX6_causes_69 ?_
            refine z_iload_n hC dX6_causes_72 rfl rfl ?_
            obtain ⟨g12, h⟩ := gd_some h
            refine z_zald hC sh_7 g12 dX6_causes_73 ?_
            refine z_if_ne hC 80 dX6_causes_74 (by decide) (fun b13 => ?_) (fun b13 => ?_)
            · rw [if_neg b13] at h
              refine z_aload_n hC dX6_causes_80 rfl rfl ?_
              refine z_getR hC 2 kF_X6_18 sh_0 rfl dX6_causes_81 ?_
              refine z_iload_n hC dX6_causes_84 rfl rfl ?_
              refine z_iload_n hC dX6_causes_85 rfl rfl ?_
              refine z_iload_n hC dX6_causes_86 rfl rfl ?_
              refine z_iload hC dX6_causes_87 rfl ?_
              obtain ⟨r14, u14, c14, h⟩ := mB_some h
              refine z_callI hC kC_X0_between kM_X6_91 sh_2 TX0 6 rfl (m_X0_between hC.dis x1 x2 x3 x4 u9 c14) rfl (Nat.le_of_ble_eq_true rfl) (Nat.le_of_ble_eq_true rfl) (Nat.le_of_ble_eq_true rfl) rfl dX6_causes_89 ?_
              obtain rfl := Option.some.inj h
              exact z_iret hC hE dX6_causes_92
            · rw [if_pos b13] at h
              refine z_bipush (v := (-5)) hC dX6_causes_77 (by decide) ?_
              obtain rfl := Option.some.inj h
              exact z_iret hC hE dX6_causes_79
        · rw [if_pos b8] at h
          refine z_bipush (v := (-2)) hC dX6_causes_39 (by decide) ?_
          obtain rfl := Option.some.inj h
          exact z_iret hC hE dX6_causes_41
    · rw [if_pos b4] at h
      refine z_iconst (v := (-1)) hC dX6_causes_18 (by decide) ?_
      obtain rfl := Option.some.inj h
      exact z_iret hC hE dX6_causes_19
theorem m_X6_causes {l : Launch} {dC : Nat → ClassId} {dI : Nat → Nat → Nat} {dA : Nat → ClassId} {as : Nat → Nat} (hD : mDis as) (x1 : Int32) (x2 : Int32) (x3 : Int32) (x4 : Int32) (u : MU) {r : Int32} {v : MU} (h : f_X6_causes x1 x2 x3 x4 u = some (r, v)) : mMI l dC dI dA as yX6_causes cX6_causes 5 .int 4 96 [.ref (as 0), .int x1, .int x2, .int x3, .int x4] u r v := mMIof RX6 [some (.ref (as 0)), some (.int x1), some (.int x2), some (.int x3), some (.int x4)] hD (by decide +kernel) rfl (Nat.le_of_ble_eq_true rfl) rfl (fun C e1 e2 e3 e4 e5 hC hE => by subst e5; exact s_X6_causes_0 hC (res := (r, v)) hE x1 x2 x3 x4 u h)
set_option maxHeartbeats 4000000 in
set_option maxRecDepth 100000 in
theorem s_X6_call_0 {C : mCtx} (hC : mOK cX6_call RX6 3 1 22 C) {res : Int32 × MU} (hE : mEndI C .int res.1 res.2) (x1 : Int32) (x2 : Int32) (u : MU) (h : f_X6_call x1 x2 u = some res) : wat C u 0 [some (.ref (cS C 0)), some (.int x1), some (.int x2)] [] := by
  unfold f_X6_call at h
  refine z_iload_n hC dX6_call_0 rfl rfl ?_
  refine z_bipush (v := nI 6) hC dX6_call_1 (by decide) ?_
  obtain ⟨r1, u1, c1, h⟩ := mB_some h
  refine z_callSI hC kC_X6_within kM_X6_58 (m_X6_within hC.dis x1 (nI 6) u c1) rfl (Nat.le_of_ble_eq_true rfl) (Nat.le_of_ble_eq_true rfl) (Nat.le_of_ble_eq_true rfl) rfl dX6_call_3 ?_
  refine z_if_ne hC 11 dX6_call_6 (by decide) (fun b2 => ?_) (fun b2 => ?_)
  · rw [if_neg b2] at h
    refine z_iload_n hC dX6_call_11 rfl rfl ?_
    refine z_bipush (v := nI 12) hC dX6_call_12 (by decide) ?_
    obtain ⟨r3, u3, c3, h⟩ := mB_some h
    refine z_callSI hC kC_X6_within kM_X6_58 (m_X6_within hC.dis x2 (nI 12) u1 c3) rfl (Nat.le_of_ble_eq_true rfl) (Nat.le_of_ble_eq_true rfl) (Nat.le_of_ble_eq_true rfl) rfl dX6_call_14 ?_
    refine z_if_ne hC 23 dX6_call_17 (by decide) (fun b4 => ?_) (fun b4 => ?_)
    · rw [if_neg b4] at h
      refine z_aload_n hC dX6_call_23 rfl rfl ?_
      refine z_getR hC 9 kF_X6_29 sh_0 rfl dX6_call_24 ?_
      refine z_getI hC kF_X6_95 ok4_9.1 rfl dX6_call_27 ?_
      refine z_bipush (v := nI 16) hC dX6_call_30 (by decide) ?_
      refine z_icmp_lt hC 38 dX6_call_32 (by decide) (fun b5 => ?_) (fun b5 => ?_)
      · rw [if_pos b5] at h
        refine z_aload_n hC dX6_call_38 rfl rfl ?_
        refine z_getR hC 9 kF_X6_29 sh_0 rfl dX6_call_39 ?_
        refine z_iload_n hC dX6_call_42 rfl rfl ?_
        refine z_iload_n hC dX6_call_43 rfl rfl ?_
        obtain ⟨r6, u6, c6, h⟩ := mB_some h
        refine z_callV hC kC_X4_append kM_X6_98 ok4_9.1 TX4 3 rfl (m_X4_append hC.dis 9 ok4_9 x1 x2 u3 c6) rfl (Nat.le_of_ble_eq_true rfl) (Nat.le_of_ble_eq_true rfl) (Nat.le_of_ble_eq_true rfl) rfl dX6_call_44 ?_
        refine z_aload_n hC dX6_call_47 rfl rfl ?_
        refine z_getR hC 9 kF_X6_29 sh_0 rfl dX6_call_48 ?_
        refine z_getI hC kF_X6_95 ok4_9.1 rfl dX6_call_51 ?_
        obtain rfl := Option.some.inj h
        exact z_iret hC hE dX6_call_54
      · rw [if_neg b5] at h
        refine z_bipush (v := (-4)) hC dX6_call_35 (by decide) ?_
        obtain rfl := Option.some.inj h
        exact z_iret hC hE dX6_call_37
    · rw [if_pos b4] at h
      refine z_bipush (v := (-2)) hC dX6_call_20 (by decide) ?_
      obtain rfl := Option.some.inj h
      exact z_iret hC hE dX6_call_22
  · rw [if_pos b2] at h
    refine z_iconst (v := (-1)) hC dX6_call_9 (by decide) ?_
    obtain rfl := Option.some.inj h
    exact z_iret hC hE dX6_call_10
theorem m_X6_call {l : Launch} {dC : Nat → ClassId} {dI : Nat → Nat → Nat} {dA : Nat → ClassId} {as : Nat → Nat} (hD : mDis as) (x1 : Int32) (x2 : Int32) (u : MU) {r : Int32} {v : MU} (h : f_X6_call x1 x2 u = some (r, v)) : mMI l dC dI dA as yX6_call cX6_call 3 .int 1 22 [.ref (as 0), .int x1, .int x2] u r v := mMIof RX6 [some (.ref (as 0)), some (.int x1), some (.int x2)] hD (by decide +kernel) rfl (Nat.le_of_ble_eq_true rfl) rfl (fun C e1 e2 e3 e4 e5 hC hE => by subst e5; exact s_X6_call_0 hC (res := (r, v)) hE x1 x2 u h)
set_option maxHeartbeats 4000000 in
set_option maxRecDepth 100000 in
theorem s_X6_drop_0 {C : mCtx} (hC : mOK cX6_drop RX6 2 1 22 C) {res : Int32 × MU} (hE : mEndI C .int res.1 res.2) (x1 : Int32) (u : MU) (h : f_X6_drop x1 u = some res) : wat C u 0 [some (.ref (cS C 0)), some (.int x1)] [] := by
  unfold f_X6_drop at h
  refine z_iload_n hC dX6_drop_0 rfl rfl ?_
  refine z_aload_n hC dX6_drop_1 rfl rfl ?_
  refine z_getR hC 9 kF_X6_29 sh_0 rfl dX6_drop_2 ?_
  refine z_getI hC kF_X6_95 ok4_9.1 rfl dX6_drop_5 ?_
  obtain ⟨r1, u1, c1, h⟩ := mB_some h
  refine z_callSI hC kC_X6_within kM_X6_58 (m_X6_within hC.dis x1 (u 9 2) u c1) rfl (Nat.le_of_ble_eq_true rfl) (Nat.le_of_ble_eq_true rfl) (Nat.le_of_ble_eq_true rfl) rfl dX6_drop_8 ?_
  refine z_if_ne hC 16 dX6_drop_11 (by decide) (fun b2 => ?_) (fun b2 => ?_)
  · rw [if_neg b2] at h
    refine z_aload_n hC dX6_drop_16 rfl rfl ?_
    refine z_getR hC 9 kF_X6_29 sh_0 rfl dX6_drop_17 ?_
    refine z_iload_n hC dX6_drop_20 rfl rfl ?_
    obtain ⟨r3, u3, c3, h⟩ := mB_some h
    refine z_callV hC kC_X4_remove kM_X6_101 ok4_9.1 TX4 3 rfl (m_X4_remove hC.dis 9 ok4_9 x1 u1 c3) rfl (Nat.le_of_ble_eq_true rfl) (Nat.le_of_ble_eq_true rfl) (Nat.le_of_ble_eq_true rfl) rfl dX6_drop_21 ?_
    refine z_aload_n hC dX6_drop_24 rfl rfl ?_
    refine z_getR hC 9 kF_X6_29 sh_0 rfl dX6_drop_25 ?_
    refine z_getI hC kF_X6_95 ok4_9.1 rfl dX6_drop_28 ?_
    obtain rfl := Option.some.inj h
    exact z_iret hC hE dX6_drop_31
  · rw [if_pos b2] at h
    refine z_iconst (v := (-1)) hC dX6_drop_14 (by decide) ?_
    obtain rfl := Option.some.inj h
    exact z_iret hC hE dX6_drop_15
theorem m_X6_drop {l : Launch} {dC : Nat → ClassId} {dI : Nat → Nat → Nat} {dA : Nat → ClassId} {as : Nat → Nat} (hD : mDis as) (x1 : Int32) (u : MU) {r : Int32} {v : MU} (h : f_X6_drop x1 u = some (r, v)) : mMI l dC dI dA as yX6_drop cX6_drop 2 .int 1 22 [.ref (as 0), .int x1] u r v := mMIof RX6 [some (.ref (as 0)), some (.int x1)] hD (by decide +kernel) rfl (Nat.le_of_ble_eq_true rfl) rfl (fun C e1 e2 e3 e4 e5 hC hE => by subst e5; exact s_X6_drop_0 hC (res := (r, v)) hE x1 u h)
set_option maxHeartbeats 4000000 in
set_option maxRecDepth 100000 in
theorem s_X6_swap_0 {C : mCtx} (hC : mOK cX6_swap RX6 2 4 96 C) {res : Int32 × MU} (hE : mEndI C .int res.1 res.2) (x1 : Int32) (u : MU) (h : f_X6_swap x1 u = some res) : wat C u 0 [some (.ref (cS C 0)), some (.int x1)] [] := by
  unfold f_X6_swap at h
  refine z_iload_n hC dX6_swap_0 rfl rfl ?_
  refine z_aload_n hC dX6_swap_1 rfl rfl ?_
  refine z_getR hC 9 kF_X6_29 sh_0 rfl dX6_swap_2 ?_
  refine z_getI hC kF_X6_95 ok4_9.1 rfl dX6_swap_5 ?_
  refine z_iconst (v := 1) hC dX6_swap_8 (by decide) ?_
  refine z_isub hC dX6_swap_9 ?_
  obtain ⟨r1, u1, c1, h⟩ := mB_some h
  refine z_callSI hC kC_X6_within kM_X6_58 (m_X6_within hC.dis x1 ((u 9 2) - 1) u c1) rfl (Nat.le_of_ble_eq_true rfl) (Nat.le_of_ble_eq_true rfl) (Nat.le_of_ble_eq_true rfl) rfl dX6_swap_10 ?_
  refine z_if_ne hC 18 dX6_swap_13 (by decide) (fun b2 => ?_) (fun b2 => ?_)
  · rw [if_neg b2] at h
    refine z_aload_n hC dX6_swap_18 rfl rfl ?_
    refine z_getR hC 2 kF_X6_18 sh_0 rfl dX6_swap_19 ?_
    refine z_aload_n hC dX6_swap_22 rfl rfl ?_
    refine z_getR hC 1 kF_X6_11 sh_0 rfl dX6_swap_23 ?_
    obtain ⟨r3, u3, c3, h⟩ := mB_some h
    refine z_callV hC kC_X0_find kM_X6_79 sh_2 TX0 6 rfl (m_X0_find hC.dis u1 c3) rfl (Nat.le_of_ble_eq_true rfl) (Nat.le_of_ble_eq_true rfl) (Nat.le_of_ble_eq_true rfl) rfl dX6_swap_26 ?_
    refine z_aload_n hC dX6_swap_29 rfl rfl ?_
    refine z_getR hC 2 kF_X6_18 sh_0 rfl dX6_swap_30 ?_
    refine z_getR hC 7 kF_X6_83 sh_2 rfl dX6_swap_33 ?_
    refine z_aload_n hC dX6_swap_36 rfl rfl ?_
    refine z_getR hC 9 kF_X6_29 sh_0 rfl dX6_swap_37 ?_
    refine z_getR hC 10 kF_X6_104 ok4_9.1 rfl dX6_swap_40 ?_
    refine z_iload_n hC dX6_swap_43 rfl rfl ?_
    obtain ⟨g4, h⟩ := gd_some h
    refine z_iald hC ok4_9.2.1 g4 dX6_swap_44 ?_
    obtain ⟨g5, h⟩ := gd_some h
    refine z_zald hC sh_7 g5 dX6_swap_45 ?_
    refine z_if_eq hC 71 dX6_swap_46 (by decide) (fun b6 => ?_) (fun b6 => ?_)
    · rw [if_pos b6] at h
      refine z_bipush (v := (-5)) hC dX6_swap_71 (by decide) ?_
      obtain rfl := Option.some.inj h
      exact z_iret hC hE dX6_swap_73
    · rw [if_neg b6] at h
      refine z_aload_n hC dX6_swap_49 rfl rfl ?_
      refine z_getR hC 2 kF_X6_18 sh_0 rfl dX6_swap_50 ?_
      refine z_getR hC 7 kF_X6_83 sh_2 rfl dX6_swap_53 ?_
      refine z_aload_n hC dX6_swap_56 rfl rfl ?_
      refine z_getR hC 9 kF_X6_29 sh_0 rfl dX6_swap_57 ?_
      refine z_getR hC 10 kF_X6_104 ok4_9.1 rfl dX6_swap_60 ?_
      refine z_iload_n hC dX6_swap_63 rfl rfl ?_
      refine z_iconst (v := 1) hC dX6_swap_64 (by decide) ?_
      refine z_iadd hC dX6_swap_65 ?_
      obtain ⟨g7, h⟩ := gd_some h
      refine z_iald hC ok4_9.2.1 g7 dX6_swap_66 ?_
      obtain ⟨g8, h⟩ := gd_some h
      refine z_zald hC sh_7 g8 dX6_swap_67 ?_
      refine z_if_ne hC 74 dX6_swap_68 (by decide) (fun b9 => ?_) (fun b9 => ?_)
      · rw [if_neg b9] at h
        refine z_aload_n hC dX6_swap_74 rfl rfl ?_
        refine z_getR hC 2 kF_X6_18 sh_0 rfl dX6_swap_75 ?_
        refine z_aload_n hC dX6_swap_78 rfl rfl ?_
        refine z_getR hC 9 kF_X6_29 sh_0 rfl dX6_swap_79 ?_
        refine z_iload_n hC dX6_swap_82 rfl rfl ?_
        refine z_iload_n hC dX6_swap_83 rfl rfl ?_
        refine z_iconst (v := 1) hC dX6_swap_84 (by decide) ?_
        refine z_iadd hC dX6_swap_85 ?_
        obtain ⟨r10, u10, c10, h⟩ := mB_some h
        refine z_callI hC kC_X0_free kM_X6_107 sh_2 TX0 6 rfl (m_X0_free hC.dis 9 ok4_9 x1 (x1 + 1) u3 c10) rfl (Nat.le_of_ble_eq_true rfl) (Nat.le_of_ble_eq_true rfl) (Nat.le_of_ble_eq_true rfl) rfl dX6_swap_86 ?_
        refine z_if_ne hC 95 dX6_swap_89 (by decide) (fun b11 => ?_) (fun b11 => ?_)
        · rw [if_neg b11] at h
          refine z_aload_n hC dX6_swap_95 rfl rfl ?_
          refine z_getR hC 9 kF_X6_29 sh_0 rfl dX6_swap_96 ?_
          refine z_iload_n hC dX6_swap_99 rfl rfl ?_
          obtain ⟨r12, u12, c12, h⟩ := mB_some h
          refine z_callV hC kC_X4_exchangeWithNext kM_X6_111 ok4_9.1 TX4 3 rfl (m_X4_exchangeWithNext hC.dis 9 ok4_9 x1 u10 c12) rfl (Nat.le_of_ble_eq_true rfl) (Nat.le_of_ble_eq_true rfl) (Nat.le_of_ble_eq_true rfl) rfl dX6_swap_100 ?_
          refine z_iconst (v := 1) hC dX6_swap_103 (by decide) ?_
          obtain rfl := Option.some.inj h
          exact z_iret hC hE dX6_swap_104
        · rw [if_pos b11] at h
          refine z_bipush (v := (-3)) hC dX6_swap_92 (by decide) ?_
          obtain rfl := Option.some.inj h
          exact z_iret hC hE dX6_swap_94
      · rw [if_pos b9] at h
        refine z_bipush (v := (-5)) hC dX6_swap_71 (by decide) ?_
        obtain rfl := Option.some.inj h
        exact z_iret hC hE dX6_swap_73
  · rw [if_pos b2] at h
    refine z_iconst (v := (-1)) hC dX6_swap_16 (by decide) ?_
    obtain rfl := Option.some.inj h
    exact z_iret hC hE dX6_swap_17
theorem m_X6_swap {l : Launch} {dC : Nat → ClassId} {dI : Nat → Nat → Nat} {dA : Nat → ClassId} {as : Nat → Nat} (hD : mDis as) (x1 : Int32) (u : MU) {r : Int32} {v : MU} (h : f_X6_swap x1 u = some (r, v)) : mMI l dC dI dA as yX6_swap cX6_swap 2 .int 4 96 [.ref (as 0), .int x1] u r v := mMIof RX6 [some (.ref (as 0)), some (.int x1)] hD (by decide +kernel) rfl (Nat.le_of_ble_eq_true rfl) rfl (fun C e1 e2 e3 e4 e5 hC hE => by subst e5; exact s_X6_swap_0 hC (res := (r, v)) hE x1 u h)
set_option maxHeartbeats 4000000 in
set_option maxRecDepth 100000 in
theorem s_X6_layProgram_0 {C : mCtx} (hC : mOK cX6_layProgram RX6 1 4 109 C) {res : Int32 × MU} (hE : mEndI C .boolean res.1 res.2) (u : MU) (h : f_X6_layProgram u = some res) : wat C u 0 [some (.ref (cS C 0))] [] := by
  unfold f_X6_layProgram at h
  refine z_aload_n hC dX6_layProgram_0 rfl rfl ?_
  refine z_getR hC 2 kF_X6_18 sh_0 rfl dX6_layProgram_1 ?_
  refine z_aload_n hC dX6_layProgram_4 rfl rfl ?_
  refine z_getR hC 1 kF_X6_11 sh_0 rfl dX6_layProgram_5 ?_
  obtain ⟨r1, u1, c1, h⟩ := mB_some h
  refine z_callV hC kC_X0_find kM_X6_79 sh_2 TX0 6 rfl (m_X0_find hC.dis u c1) rfl (Nat.le_of_ble_eq_true rfl) (Nat.le_of_ble_eq_true rfl) (Nat.le_of_ble_eq_true rfl) rfl dX6_layProgram_8 ?_
  refine z_aload_n hC dX6_layProgram_11 rfl rfl ?_
  refine z_getR hC 2 kF_X6_18 sh_0 rfl dX6_layProgram_12 ?_
  refine z_aload_n hC dX6_layProgram_15 rfl rfl ?_
  refine z_getR hC 9 kF_X6_29 sh_0 rfl dX6_layProgram_16 ?_
  obtain ⟨r2, u2, c2, h⟩ := mB_some h
  refine z_callI hC kC_X0_knowsAll kM_X6_198 sh_2 TX0 6 rfl (m_X0_knowsAll hC.dis 9 ok4_9 u1 c2) rfl (Nat.le_of_ble_eq_true rfl) (Nat.le_of_ble_eq_true rfl) (Nat.le_of_ble_eq_true rfl) rfl dX6_layProgram_19 ?_
  refine z_if_ne hC 27 dX6_layProgram_22 (by decide) (fun b3 => ?_) (fun b3 => ?_)
  · rw [if_neg b3] at h
    refine z_aload_n hC dX6_layProgram_27 rfl rfl ?_
    refine z_getR hC 13 kF_X6_42 sh_0 rfl dX6_layProgram_28 ?_
    refine z_aload_n hC dX6_layProgram_31 rfl rfl ?_
    refine z_getR hC 9 kF_X6_29 sh_0 rfl dX6_layProgram_32 ?_
    refine z_aload_n hC dX6_layProgram_35 rfl rfl ?_
    refine z_getR hC 2 kF_X6_18 sh_0 rfl dX6_layProgram_36 ?_
    obtain ⟨r4, u4, c4, h⟩ := mB_some h
    refine z_callV hC kC_X2_lay kM_X6_202 ok2_13.1 TX2 6 rfl (m_X2_lay hC.dis 13 ok2_13 9 ok4_9 u2 c4) rfl (Nat.le_of_ble_eq_true rfl) (Nat.le_of_ble_eq_true rfl) (Nat.le_of_ble_eq_true rfl) rfl dX6_layProgram_39 ?_
    refine z_iconst (v := 1) hC dX6_layProgram_42 (by decide) ?_
    obtain rfl := Option.some.inj h
    exact z_zret hC hE rfl dX6_layProgram_43
  · rw [if_pos b3] at h
    refine z_iconst (v := 0) hC dX6_layProgram_25 (by decide) ?_
    obtain rfl := Option.some.inj h
    exact z_zret hC hE rfl dX6_layProgram_26
theorem m_X6_layProgram {l : Launch} {dC : Nat → ClassId} {dI : Nat → Nat → Nat} {dA : Nat → ClassId} {as : Nat → Nat} (hD : mDis as) (u : MU) {r : Int32} {v : MU} (h : f_X6_layProgram u = some (r, v)) : mMI l dC dI dA as yX6_layProgram cX6_layProgram 1 .boolean 4 109 [.ref (as 0)] u r v := mMIof RX6 [some (.ref (as 0))] hD (by decide +kernel) rfl (Nat.le_of_ble_eq_true rfl) rfl (fun C e1 e2 e3 e4 e5 hC hE => by subst e5; exact s_X6_layProgram_0 hC (res := (r, v)) hE u h)
set_option maxHeartbeats 4000000 in
set_option maxRecDepth 100000 in
theorem s_X6_told_0 {C : mCtx} (hC : mOK cX6_told RX6 3 5 129 C) {res : Int32 × MU} (hE : mEndI C .int res.1 res.2) (x1 : Int32) (x2 : Int32) (u : MU) (h : f_X6_told x1 x2 u = some res) : wat C u 0 [some (.ref (cS C 0)), some (.int x1), some (.int x2)] [] := by
  unfold f_X6_told at h
  refine z_iload_n hC dX6_told_0 rfl rfl ?_
  refine z_aload_n hC dX6_told_1 rfl rfl ?_
  refine z_getR hC 9 kF_X6_29 sh_0 rfl dX6_told_2 ?_
  refine z_getI hC kF_X6_95 ok4_9.1 rfl dX6_told_5 ?_
  obtain ⟨r1, u1, c1, h⟩ := mB_some h
  refine z_callSI hC kC_X6_within kM_X6_58 (m_X6_within hC.dis x1 (u 9 2) u c1) rfl (Nat.le_of_ble_eq_true rfl) (Nat.le_of_ble_eq_true rfl) (Nat.le_of_ble_eq_true rfl) rfl dX6_told_8 ?_
  refine z_if_ne hC 16 dX6_told_11 (by decide) (fun b2 => ?_) (fun b2 => ?_)
  · rw [if_neg b2] at h
    refine z_iload_n hC dX6_told_16 rfl rfl ?_
    refine z_iconst (v := nI 4) hC dX6_told_17 (by decide) ?_
    obtain ⟨r3, u3, c3, h⟩ := mB_some h
    refine z_callSI hC kC_X6_within kM_X6_58 (m_X6_within hC.dis x2 (nI 4) u1 c3) rfl (Nat.le_of_ble_eq_true rfl) (Nat.le_of_ble_eq_true rfl) (Nat.le_of_ble_eq_true rfl) rfl dX6_told_18 ?_
    refine z_if_ne hC 27 dX6_told_21 (by decide) (fun b4 => ?_) (fun b4 => ?_)
    · rw [if_neg b4] at h
      refine z_iload_n hC dX6_told_27 rfl rfl ?_
      refine z_if_ne hC 41 dX6_told_28 (by decide) (fun b5 => ?_) (fun b5 => ?_)
      · rw [if_neg b5] at h
        refine z_iload_n hC dX6_told_41 rfl rfl ?_
        refine z_iconst (v := 1) hC dX6_told_42 (by decide) ?_
        refine z_icmp_ne hC 56 dX6_told_43 (by decide) (fun b6 => ?_) (fun b6 => ?_)
        · rw [if_neg b6] at h
          refine z_aload_n hC dX6_told_56 rfl rfl ?_
          obtain ⟨r7, u7, c7, h⟩ := mB_some h
          refine z_callI hC kC_X6_layProgram kM_X6_117 sh_0 TX6 8 rfl (m_X6_layProgram hC.dis u3 c7) rfl (Nat.le_of_ble_eq_true rfl) (Nat.le_of_ble_eq_true rfl) (Nat.le_of_ble_eq_true rfl) rfl dX6_told_57 ?_
          refine z_if_ne hC 66 dX6_told_60 (by decide) (fun b8 => ?_) (fun b8 => ?_)
          · rw [if_neg b8] at h
            refine z_iload_n hC dX6_told_66 rfl rfl ?_
            refine z_iconst (v := nI 2) hC dX6_told_67 (by decide) ?_
            refine z_icmp_ne hC 83 dX6_told_68 (by decide) (fun b9 => ?_) (fun b9 => ?_)
            · rw [if_neg b9] at h
              refine z_aload_n hC dX6_told_83 rfl rfl ?_
              refine z_getR hC 13 kF_X6_42 sh_0 rfl dX6_told_84 ?_
              refine z_getR hC 18 kF_X6_124 ok2_13.1 rfl dX6_told_87 ?_
              refine z_iload_n hC dX6_told_90 rfl rfl ?_
              obtain ⟨g10, h⟩ := gd_some h
              refine z_iald hC ok2_13.2.2.2.1 g10 dX6_told_91 ?_
              obtain rfl := Option.some.inj h
              exact z_iret hC hE dX6_told_92
            · rw [if_pos b9] at h
              refine z_aload_n hC dX6_told_71 rfl rfl ?_
              refine z_getR hC 13 kF_X6_42 sh_0 rfl dX6_told_72 ?_
              refine z_getR hC 17 kF_X6_121 ok2_13.1 rfl dX6_told_75 ?_
              refine z_iload_n hC dX6_told_78 rfl rfl ?_
              obtain ⟨g11, h⟩ := gd_some h
              refine z_iald hC ok2_13.2.2.1 g11 dX6_told_79 ?_
              refine z_goto hC 92 dX6_told_80 (by decide) ?_
              obtain rfl := Option.some.inj h
              exact z_iret hC hE dX6_told_92
          · rw [if_pos b8] at h
            refine z_bipush (v := (-5)) hC dX6_told_63 (by decide) ?_
            obtain rfl := Option.some.inj h
            exact z_iret hC hE dX6_told_65
        · rw [if_pos b6] at h
          refine z_aload_n hC dX6_told_46 rfl rfl ?_
          refine z_getR hC 9 kF_X6_29 sh_0 rfl dX6_told_47 ?_
          refine z_getR hC 11 kF_X6_114 ok4_9.1 rfl dX6_told_50 ?_
          refine z_iload_n hC dX6_told_53 rfl rfl ?_
          obtain ⟨g12, h⟩ := gd_some h
          refine z_iald hC ok4_9.2.2 g12 dX6_told_54 ?_
          obtain rfl := Option.some.inj h
          exact z_iret hC hE dX6_told_55
      · rw [if_pos b5] at h
        refine z_aload_n hC dX6_told_31 rfl rfl ?_
        refine z_getR hC 9 kF_X6_29 sh_0 rfl dX6_told_32 ?_
        refine z_getR hC 10 kF_X6_104 ok4_9.1 rfl dX6_told_35 ?_
        refine z_iload_n hC dX6_told_38 rfl rfl ?_
        obtain ⟨g13, h⟩ := gd_some h
        refine z_iald hC ok4_9.2.1 g13 dX6_told_39 ?_
        obtain rfl := Option.some.inj h
        exact z_iret hC hE dX6_told_40
    · rw [if_pos b4] at h
      refine z_bipush (v := (-2)) hC dX6_told_24 (by decide) ?_
      obtain rfl := Option.some.inj h
      exact z_iret hC hE dX6_told_26
  · rw [if_pos b2] at h
    refine z_iconst (v := (-1)) hC dX6_told_14 (by decide) ?_
    obtain rfl := Option.some.inj h
    exact z_iret hC hE dX6_told_15
theorem m_X6_told {l : Launch} {dC : Nat → ClassId} {dI : Nat → Nat → Nat} {dA : Nat → ClassId} {as : Nat → Nat} (hD : mDis as) (x1 : Int32) (x2 : Int32) (u : MU) {r : Int32} {v : MU} (h : f_X6_told x1 x2 u = some (r, v)) : mMI l dC dI dA as yX6_told cX6_told 3 .int 5 129 [.ref (as 0), .int x1, .int x2] u r v := mMIof RX6 [some (.ref (as 0)), some (.int x1), some (.int x2)] hD (by decide +kernel) rfl (Nat.le_of_ble_eq_true rfl) rfl (fun C e1 e2 e3 e4 e5 hC hE => by subst e5; exact s_X6_told_0 hC (res := (r, v)) hE x1 x2 u h)
set_option maxHeartbeats 4000000 in
set_option maxRecDepth 100000 in
theorem s_X6_nearestSingle_76 {C : mCtx} (hC : mOK cX6_nearestSingle RX6 6 0 0 C) {res : Int32 × MU} (hE : mEndI C .int res.1 res.2) (x2 : Int32) (x4 : Int32) (u : MU) (h : b_X6_nearestSingle_76 x2 x4 u = some res) : wat C u 76 [none, none, some (.int x2), none, some (.int x4), none] [] := by
  unfold b_X6_nearestSingle_76 at h
  refine z_bipush (v := nI 126) hC dX6_nearestSingle_76 (by decide) ?_
  refine z_iload_n hC dX6_nearestSingle_78 rfl rfl ?_
  refine z_iadd hC dX6_nearestSingle_79 ?_
  refine z_bipush (v := nI 23) hC dX6_nearestSingle_80 (by decide) ?_
  refine z_ishl hC dX6_nearestSingle_82 ?_
  refine z_iload hC dX6_nearestSingle_83 rfl ?_
  refine z_iadd hC dX6_nearestSingle_85 ?_
  obtain rfl := Option.some.inj h
  exact z_iret hC hE dX6_nearestSingle_86
set_option maxHeartbeats 4000000 in
set_option maxRecDepth 100000 in
theorem s_X6_nearestSingle_73 {C : mCtx} (hC : mOK cX6_nearestSingle RX6 6 0 0 C) {res : Int32 × MU} (hE : mEndI C .int res.1 res.2) (x2 : Int32) (x4 : Int32) (u : MU) (h : b_X6_nearestSingle_73 x2 x4 u = some res) : wat C u 73 [none, none, some (.int x2), none, some (.int x4), none] [] := by
  unfold b_X6_nearestSingle_73 at h
  refine y_iinc hC (x4 + 1) [none, none, some (.int x2), none, some (.int (x4 + 1)), none] dX6_nearestSingle_73 rfl rfl rfl (Nat.le_of_ble_eq_true rfl) rfl ?_
  exact s_X6_nearestSingle_76 hC hE x2 (x4 + 1) u h
set_option maxHeartbeats 4000000 in
set_option maxRecDepth 100000 in
theorem s_X6_nearestSingle_34 {C : mCtx} (hC : mOK cX6_nearestSingle RX6 6 0 0 C) {res : Int32 × MU} (hE : mEndI C .int res.1 res.2) (x0 : Int32) (x1 : Int32) (x2 : Int32) (u : MU) (h : b_X6_nearestSingle_34 x0 x1 x2 u = some res) : wat C u 34 [some (.int x0), some (.int x1), some (.int x2), none, none, none] [] := by
  unfold b_X6_nearestSingle_34 at h
  refine z_iload_n hC dX6_nearestSingle_34 rfl rfl ?_
  refine z_bipush (v := nI 23) hC dX6_nearestSingle_35 (by decide) ?_
  refine z_iload_n hC dX6_nearestSingle_37 rfl rfl ?_
  refine z_isub hC dX6_nearestSingle_38 ?_
  refine z_ishl hC dX6_nearestSingle_39 ?_
  refine y_istore_n hC [some (.int x0), some (.int x1), some (.int x2), some (.int (x0 <<< (((nI 23) - x2) &&& 31))), none, none] dX6_nearestSingle_40 rfl rfl (Nat.le_of_ble_eq_true rfl) (Nat.le_of_ble_eq_true rfl) rfl ?_
  refine z_iload_n hC dX6_nearestSingle_41 rfl rfl ?_
  refine z_iload_n hC dX6_nearestSingle_42 rfl rfl ?_
  obtain ⟨g1, h⟩ := gd_some h
  refine z_idiv hC dX6_nearestSingle_43 (mNz_ne g1) ?_
  refine y_istore hC [some (.int x0), some (.int x1), some (.int x2), some (.int (x0 <<< (((nI 23) - x2) &&& 31))), some (.int ((x0 <<< (((nI 23) - x2) &&& 31)) / x1)), none] dX6_nearestSingle_44 rfl (Nat.le_of_ble_eq_true rfl) (Nat.le_of_ble_eq_true rfl) rfl ?_
  refine z_iconst (v := nI 2) hC dX6_nearestSingle_46 (by decide) ?_
  refine z_iload_n hC dX6_nearestSingle_47 rfl rfl ?_
  refine z_iload_n hC dX6_nearestSingle_48 rfl rfl ?_
  obtain ⟨g2, h⟩ := gd_some h
  refine y_irem hC dX6_nearestSingle_49 (mNz_ne g2) ?_
  refine z_imul hC dX6_nearestSingle_50 ?_
  refine y_istore hC [some (.int x0), some (.int x1), some (.int x2), some (.int (x0 <<< (((nI 23) - x2) &&& 31))), some (.int ((x0 <<< (((nI 23) - x2) &&& 31)) / x1)), some (.int ((nI 2) * (irm (x0 <<< (((nI 23) - x2) &&& 31)) x1)))] dX6_nearestSingle_51 rfl (Nat.le_of_ble_eq_true rfl) (Nat.le_of_ble_eq_true rfl) rfl ?_
  refine z_iload hC dX6_nearestSingle_53 rfl ?_
  refine z_iload_n hC dX6_nearestSingle_55 rfl rfl ?_
  refine z_icmp_gt hC 73 dX6_nearestSingle_56 (by decide) (fun b3 => ?_) (fun b3 => ?_)
  · rw [if_pos b3] at h
    refine z_mask [false, false, true, false, true, false] ?_
    exact s_X6_nearestSingle_73 hC hE x2 ((x0 <<< (((nI 23) - x2) &&& 31)) / x1) u h
  · rw [if_neg b3] at h
    refine z_iload hC dX6_nearestSingle_59 rfl ?_
    refine z_iload_n hC dX6_nearestSingle_61 rfl rfl ?_
    refine z_icmp_ne hC 76 dX6_nearestSingle_62 (by decide) (fun b4 => ?_) (fun b4 => ?_)
    · rw [if_neg b4] at h
      refine z_mask [false, false, true, false, true, false] ?_
      exact s_X6_nearestSingle_76 hC hE x2 ((x0 <<< (((nI 23) - x2) &&& 31)) / x1) u h
    · rw [if_pos b4] at h
      refine z_iload hC dX6_nearestSingle_65 rfl ?_
      refine z_iconst (v := 1) hC dX6_nearestSingle_67 (by decide) ?_
      refine z_iand hC dX6_nearestSingle_68 ?_
      refine z_iconst (v := 1) hC dX6_nearestSingle_69 (by decide) ?_
      refine z_icmp_ne hC 76 dX6_nearestSingle_70 (by decide) (fun b5 => ?_) (fun b5 => ?_)
      · rw [if_neg b5] at h
        refine z_mask [false, false, true, false, true, false] ?_
        exact s_X6_nearestSingle_76 hC hE x2 ((x0 <<< (((nI 23) - x2) &&& 31)) / x1) u h
      · rw [if_pos b5] at h
        refine z_mask [false, false, true, false, true, false] ?_
        exact s_X6_nearestSingle_73 hC hE x2 ((x0 <<< (((nI 23) - x2) &&& 31)) / x1) u h
set_option maxHeartbeats 4000000 in
set_option maxRecDepth 100000 in
theorem s_X6_nearestSingle_14 {C : mCtx} (hC : mOK cX6_nearestSingle RX6 6 0 0 C) {res : Int32 × MU} (hE : mEndI C .int res.1 res.2) (x0 : Int32) (x1 : Int32) (k14 : Int32 → MU → mR) (hk14 : ∀ (x2 : Int32) (u : MU), k14 x2 u = some res → wat C u 14 [some (.int x0), some (.int x1), some (.int x2), none, none, none] []) (x2 : Int32) (u : MU) (h : b_X6_nearestSingle_14 k14 x0 x1 x2 u = some res) : wat C u 14 [some (.int x0), some (.int x1), some (.int x2), none, none, none] [] := by
  unfold b_X6_nearestSingle_14 at h
  refine z_iload_n hC dX6_nearestSingle_14 rfl rfl ?_
  refine z_iconst (v := nI 4) hC dX6_nearestSingle_15 (by decide) ?_
  refine z_icmp_ge hC 34 dX6_nearestSingle_16 (by decide) (fun b1 => ?_) (fun b1 => ?_)
  · rw [if_pos b1] at h
    exact s_X6_nearestSingle_34 hC hE x0 x1 x2 u h
  · rw [if_neg b1] at h
    refine z_iload_n hC dX6_nearestSingle_19 rfl rfl ?_
    refine z_iload_n hC dX6_nearestSingle_20 rfl rfl ?_
    refine z_iload_n hC dX6_nearestSingle_21 rfl rfl ?_
    refine z_iconst (v := 1) hC dX6_nearestSingle_22 (by decide) ?_
    refine z_iadd hC dX6_nearestSingle_23 ?_
    refine z_ishl hC dX6_nearestSingle_24 ?_
    refine z_icmp_lt hC 34 dX6_nearestSingle_25 (by decide) (fun b2 => ?_) (fun b2 => ?_)
    · rw [if_pos b2] at h
      exact s_X6_nearestSingle_34 hC hE x0 x1 x2 u h
    · rw [if_neg b2] at h
      refine y_iinc hC (x2 + 1) [some (.int x0), some (.int x1), some (.int (x2 + 1)), none, none, none] dX6_nearestSingle_28 rfl rfl rfl (Nat.le_of_ble_eq_true rfl) rfl ?_
      refine z_goto hC 14 dX6_nearestSingle_31 (by decide) ?_
      exact hk14 (x2 + 1) u h
set_option maxHeartbeats 4000000 in
set_option maxRecDepth 100000 in
theorem t_X6_nearestSingle_14 {C : mCtx} (hC : mOK cX6_nearestSingle RX6 6 0 0 C) {res : Int32 × MU} (hE : mEndI C .int res.1 res.2) (x0 : Int32) (x1 : Int32) : ∀ (n : Nat) (x2 : Int32) (u : MU), l_X6_nearestSingle_14 x0 x1 n x2 u = some res → wat C u 14 [some (.int x0), some (.int x1), some (.int x2), none, none, none] [] := by
  intro n
  induction n with
  | zero => intro x2 u h; exact absurd h (by simp [l_X6_nearestSingle_14])
  | succ n ih =>
    intro x2 u h
    exact s_X6_nearestSingle_14 hC hE x0 x1 (fun x2 u => l_X6_nearestSingle_14 x0 x1 n x2 u) ih x2 u h
set_option maxHeartbeats 4000000 in
set_option maxRecDepth 100000 in
theorem s_X6_nearestSingle_0 {C : mCtx} (hC : mOK cX6_nearestSingle RX6 6 0 0 C) {res : Int32 × MU} (hE : mEndI C .int res.1 res.2) (x0 : Int32) (x1 : Int32) (u : MU) (h : f_X6_nearestSingle x0 x1 u = some res) : wat C u 0 [some (.int x0), some (.int x1), none, none, none, none] [] := by
  unfold f_X6_nearestSingle at h
  refine z_iload_n hC dX6_nearestSingle_0 rfl rfl ?_
  refine z_iconst (v := 1) hC dX6_nearestSingle_1 (by decide) ?_
  refine z_icmp_lt hC 10 dX6_nearestSingle_2 (by decide) (fun b1 => ?_) (fun b1 => ?_)
  · rw [if_pos b1] at h
    refine z_iconst (v := 0) hC dX6_nearestSingle_10 (by decide) ?_
    obtain rfl := Option.some.inj h
    exact z_iret hC hE dX6_nearestSingle_11
  · rw [if_neg b1] at h
    refine z_iload_n hC dX6_nearestSingle_5 rfl rfl ?_
    refine z_iload_n hC dX6_nearestSingle_6 rfl rfl ?_
    refine z_icmp_ge hC 12 dX6_nearestSingle_7 (by decide) (fun b2 => ?_) (fun b2 => ?_)
    · rw [if_pos b2] at h
      refine z_iconst (v := 0) hC dX6_nearestSingle_12 (by decide) ?_
      refine y_istore_n hC [some (.int x0), some (.int x1), some (.int 0), none, none, none] dX6_nearestSingle_13 rfl rfl (Nat.le_of_ble_eq_true rfl) (Nat.le_of_ble_eq_true rfl) rfl ?_
      exact t_X6_nearestSingle_14 hC hE x0 x1 FU 0 u h
    · rw [if_neg b2] at h
      refine z_iconst (v := 0) hC dX6_nearestSingle_10 (by decide) ?_
      obtain rfl := Option.some.inj h
      exact z_iret hC hE dX6_nearestSingle_11
theorem m_X6_nearestSingle {l : Launch} {dC : Nat → ClassId} {dI : Nat → Nat → Nat} {dA : Nat → ClassId} {as : Nat → Nat} (hD : mDis as) (x0 : Int32) (x1 : Int32) (u : MU) {r : Int32} {v : MU} (h : f_X6_nearestSingle x0 x1 u = some (r, v)) : mMI l dC dI dA as yX6_nearestSingle cX6_nearestSingle 6 .int 0 0 [.int x0, .int x1] u r v := mMIof RX6 [some (.int x0), some (.int x1), none, none, none, none] hD (by decide +kernel) rfl (Nat.le_of_ble_eq_true rfl) rfl (fun C e1 e2 e3 e4 e5 hC hE => by subst e5; exact s_X6_nearestSingle_0 hC (res := (r, v)) hE x0 x1 u h)
set_option maxHeartbeats 4000000 in
set_option maxRecDepth 100000 in
theorem s_X6_compareWithImage_0 {C : mCtx} (hC : mOK cX6_compareWithImage RX6 2 4 109 C) {res : Int32 × MU} (hE : mEndI C .int res.1 res.2) (q1 : Nat) (hq1 : okX4 q1) (u : MU) (h : f_X6_compareWithImage q1 u = some res) : wat C u 0 [some (.ref (cS C 0)), some (.ref (cS C q1))] [] := by
  unfold f_X6_compareWithImage at h
  refine z_aload_n hC dX6_compareWithImage_0 rfl rfl ?_
  refine z_getR hC 2 kF_X6_18 sh_0 rfl dX6_compareWithImage_1 ?_
  refine z_aload_n hC dX6_compareWithImage_4 rfl rfl ?_
  obtain ⟨r1, u1, c1, h⟩ := mB_some h
  refine z_callI hC kC_X0_knowsAll kM_X6_198 sh_2 TX0 6 rfl (m_X0_knowsAll hC.dis q1 hq1 u c1) rfl (Nat.le_of_ble_eq_true rfl) (Nat.le_of_ble_eq_true rfl) (Nat.le_of_ble_eq_true rfl) rfl dX6_compareWithImage_5 ?_
  refine z_if_ne hC 14 dX6_compareWithImage_8 (by decide) (fun b2 => ?_) (fun b2 => ?_)
  · rw [if_neg b2] at h
    refine z_aload_n hC dX6_compareWithImage_14 rfl rfl ?_
    refine z_getR hC 20 kF_X6_46 sh_0 rfl dX6_compareWithImage_15 ?_
    refine z_aload_n hC dX6_compareWithImage_18 rfl rfl ?_
    refine z_aload_n hC dX6_compareWithImage_19 rfl rfl ?_
    refine z_getR hC 2 kF_X6_18 sh_0 rfl dX6_compareWithImage_20 ?_
    obtain ⟨r3, u3, c3, h⟩ := mB_some h
    refine z_callV hC kC_X2_lay kM_X6_202 ok2_20.1 TX2 6 rfl (m_X2_lay hC.dis 20 ok2_20 q1 hq1 u1 c3) rfl (Nat.le_of_ble_eq_true rfl) (Nat.le_of_ble_eq_true rfl) (Nat.le_of_ble_eq_true rfl) rfl dX6_compareWithImage_23 ?_
    refine z_aload_n hC dX6_compareWithImage_26 rfl rfl ?_
    refine z_getR hC 13 kF_X6_42 sh_0 rfl dX6_compareWithImage_27 ?_
    refine z_aload_n hC dX6_compareWithImage_30 rfl rfl ?_
    refine z_getR hC 20 kF_X6_46 sh_0 rfl dX6_compareWithImage_31 ?_
    obtain ⟨r4, u4, c4, h⟩ := mB_some h
    refine z_callI hC kC_X2_sameNormalForm kM_X6_215 ok2_13.1 TX2 6 rfl (m_X2_sameNormalForm hC.dis 13 ok2_13 20 ok2_20 u3 c4) rfl (Nat.le_of_ble_eq_true rfl) (Nat.le_of_ble_eq_true rfl) (Nat.le_of_ble_eq_true rfl) rfl dX6_compareWithImage_34 ?_
    refine z_if_eq hC 44 dX6_compareWithImage_37 (by decide) (fun b5 => ?_) (fun b5 => ?_)
    · rw [if_pos b5] at h
      refine z_iconst (v := 0) hC dX6_compareWithImage_44 (by decide) ?_
      obtain rfl := Option.some.inj h
      exact z_iret hC hE dX6_compareWithImage_45
    · rw [if_neg b5] at h
      refine z_iconst (v := 1) hC dX6_compareWithImage_40 (by decide) ?_
      refine z_goto hC 45 dX6_compareWithImage_41 (by decide) ?_
      obtain rfl := Option.some.inj h
      exact z_iret hC hE dX6_compareWithImage_45
  · rw [if_pos b2] at h
    refine z_bipush (v := (-5)) hC dX6_compareWithImage_11 (by decide) ?_
    obtain rfl := Option.some.inj h
    exact z_iret hC hE dX6_compareWithImage_13
theorem m_X6_compareWithImage {l : Launch} {dC : Nat → ClassId} {dI : Nat → Nat → Nat} {dA : Nat → ClassId} {as : Nat → Nat} (hD : mDis as) (q1 : Nat) (hq1 : okX4 q1) (u : MU) {r : Int32} {v : MU} (h : f_X6_compareWithImage q1 u = some (r, v)) : mMI l dC dI dA as yX6_compareWithImage cX6_compareWithImage 2 .int 4 109 [.ref (as 0), .ref (as q1)] u r v := mMIof RX6 [some (.ref (as 0)), some (.ref (as q1))] hD (by decide +kernel) rfl (Nat.le_of_ble_eq_true rfl) rfl (fun C e1 e2 e3 e4 e5 hC hE => by subst e5; exact s_X6_compareWithImage_0 hC (res := (r, v)) hE q1 hq1 u h)
set_option maxHeartbeats 4000000 in
set_option maxRecDepth 100000 in
theorem s_X6_stages_34 {C : mCtx} (hC : mOK cX6_stages RX6 2 5 130 C) {res : Int32 × MU} (hE : mEndI C .int res.1 res.2) (x1 : Int32) (u : MU) (h : b_X6_stages_34 x1 u = some res) : wat C u 34 [some (.ref (cS C 0)), some (.int x1)] [] := by
  unfold b_X6_stages_34 at h
  refine z_aload_n hC dX6_stages_34 rfl rfl ?_
  obtain ⟨r1, u1, c1, h⟩ := mB_some h
  refine z_callI hC kC_X6_layProgram kM_X6_117 sh_0 TX6 8 rfl (m_X6_layProgram hC.dis u c1) rfl (Nat.le_of_ble_eq_true rfl) (Nat.le_of_ble_eq_true rfl) (Nat.le_of_ble_eq_true rfl) rfl dX6_stages_35 ?_
  refine z_if_ne hC 44 dX6_stages_38 (by decide) (fun b2 => ?_) (fun b2 => ?_)
  · rw [if_neg b2] at h
    refine z_iload_n hC dX6_stages_44 rfl rfl ?_
    by_cases b3 : x1 = 0
    · rw [if_pos b3] at h
      refine z_tin hC 84 dX6_stages_45 (0) b3 (by decide) (by decide) rfl (by decide) ?_
      refine z_aload_n hC dX6_stages_84 rfl rfl ?_
      refine z_getR hC 13 kF_X6_42 sh_0 rfl dX6_stages_85 ?_
      refine z_getI hC kF_X6_131 ok2_13.1 rfl dX6_stages_88 ?_
      obtain rfl := Option.some.inj h
      exact z_iret hC hE dX6_stages_91
    · rw [if_neg b3] at h
      by_cases b4 : x1 = 1
      · rw [if_pos b4] at h
        refine z_tin hC 92 dX6_stages_45 (1) b4 (by decide) (by decide) rfl (by decide) ?_
        refine z_aload_n hC dX6_stages_92 rfl rfl ?_
        refine z_getR hC 13 kF_X6_42 sh_0 rfl dX6_stages_93 ?_
        obtain ⟨r5, u5, c5, h⟩ := mB_some h
        refine z_callI hC kC_X2_mostOfOneStage kM_X6_134 ok2_13.1 TX2 6 rfl (m_X2_mostOfOneStage hC.dis 13 ok2_13 u1 c5) rfl (Nat.le_of_ble_eq_true rfl) (Nat.le_of_ble_eq_true rfl) (Nat.le_of_ble_eq_true rfl) rfl dX6_stages_96 ?_
        obtain rfl := Option.some.inj h
        exact z_iret hC hE dX6_stages_99
      · rw [if_neg b4] at h
        by_cases b6 : x1 = nI 2
        · rw [if_pos b6] at h
          refine z_tin hC 100 dX6_stages_45 (nI 2) b6 (by decide) (by decide) rfl (by decide) ?_
          refine z_aload_n hC dX6_stages_100 rfl rfl ?_
          refine z_getR hC 13 kF_X6_42 sh_0 rfl dX6_stages_101 ?_
          obtain ⟨r7, u7, c7, h⟩ := mB_some h
          refine z_callI hC kC_X2_firstFullestStage kM_X6_138 ok2_13.1 TX2 6 rfl (m_X2_firstFullestStage hC.dis 13 ok2_13 u1 c7) rfl (Nat.le_of_ble_eq_true rfl) (Nat.le_of_ble_eq_true rfl) (Nat.le_of_ble_eq_true rfl) rfl dX6_stages_104 ?_
          obtain rfl := Option.some.inj h
          exact z_iret hC hE dX6_stages_107
        · rw [if_neg b6] at h
          by_cases b8 : x1 = nI 3
          · rw [if_pos b8] at h
            refine z_tin hC 108 dX6_stages_45 (nI 3) b8 (by decide) (by decide) rfl (by decide) ?_
            refine z_aload_n hC dX6_stages_108 rfl rfl ?_
            refine z_getR hC 9 kF_X6_29 sh_0 rfl dX6_stages_109 ?_
            refine z_getI hC kF_X6_95 ok4_9.1 rfl dX6_stages_112 ?_
            refine z_aload_n hC dX6_stages_115 rfl rfl ?_
            refine z_getR hC 13 kF_X6_42 sh_0 rfl dX6_stages_116 ?_
            refine z_getI hC kF_X6_131 ok2_13.1 rfl dX6_stages_119 ?_
            obtain ⟨r9, u9, c9, h⟩ := mB_some h
            refine z_callSI hC kC_X6_nearestSingle kM_X6_141 (m_X6_nearestSingle hC.dis (u1 9 2) (u1 13 4) u1 c9) rfl (Nat.le_of_ble_eq_true rfl) (Nat.le_of_ble_eq_true rfl) (Nat.le_of_ble_eq_true rfl) rfl dX6_stages_122 ?_
            obtain rfl := Option.some.inj h
            exact z_iret hC hE dX6_stages_125
          · rw [if_neg b8] at h
            by_cases b10 : x1 = nI 4
            · rw [if_pos b10] at h
              refine z_tin hC 126 dX6_stages_45 (nI 4) b10 (by decide) (by decide) rfl (by decide) ?_
              refine z_aload_n hC dX6_stages_126 rfl rfl ?_
              refine z_getR hC 13 kF_X6_42 sh_0 rfl dX6_stages_127 ?_
              refine z_getI hC kF_X6_145 ok2_13.1 rfl dX6_stages_130 ?_
              obtain rfl := Option.some.inj h
              exact z_iret hC hE dX6_stages_133
            · rw [if_neg b10] at h
              by_cases b11 : x1 = nI 5
              · rw [if_pos b11] at h
                refine z_tin hC 134 dX6_stages_45 (nI 5) b11 (by decide) (by decide) rfl (by decide) ?_
                refine z_aload_n hC dX6_stages_134 rfl rfl ?_
                refine z_getR hC 13 kF_X6_42 sh_0 rfl dX6_stages_135 ?_
                obtain ⟨r12, u12, c12, h⟩ := mB_some h
                refine z_callI hC kC_X2_isNormal kM_X6_148 ok2_13.1 TX2 6 rfl (m_X2_isNormal hC.dis 13 ok2_13 u1 c12) rfl (Nat.le_of_ble_eq_true rfl) (Nat.le_of_ble_eq_true rfl) (Nat.le_of_ble_eq_true rfl) rfl dX6_stages_138 ?_
                refine z_if_eq hC 148 dX6_stages_141 (by decide) (fun b13 => ?_) (fun b13 => ?_)
                · rw [if_pos b13] at h
                  refine z_iconst (v := 0) hC dX6_stages_148 (by decide) ?_
                  obtain rfl := Option.some.inj h
                  exact z_iret hC hE dX6_stages_149
                · rw [if_neg b13] at h
                  refine z_iconst (v := 1) hC dX6_stages_144 (by decide) ?_
                  refine z_goto hC 149 dX6_stages_145 (by decide) ?_
                  obtain rfl := Option.some.inj h
                  exact z_iret hC hE dX6_stages_149
              · rw [if_neg b11] at h
                refine z_tout hC 150 dX6_stages_45 (tab_out (a := 5) (by intro k hk; match k, hk with | 0, _ => exact b3 | 1, _ => exact b4 | 2, _ => exact b6 | 3, _ => exact b8 | 4, _ => exact b10 | 5, _ => exact b11 | k + 6, hk => omega) (by decide)) (by decide) ?_
                refine z_aload_n hC dX6_stages_150 rfl rfl ?_
                refine z_aload_n hC dX6_stages_151 rfl rfl ?_
                refine z_getR hC 12 kF_X6_35 sh_0 rfl dX6_stages_152 ?_
                refine z_iconst (v := 0) hC dX6_stages_155 (by decide) ?_
                obtain ⟨g14, h⟩ := gd_some h
                refine z_aald hC (img 0) sh_12 (fun _ => rfl) g14 (img_at g14) dX6_stages_156 ?_
                refine z_getR hC (img 0 + 2) kF_X6_151 (img_ok g14).1 rfl dX6_stages_157 ?_
                obtain ⟨r15, u15, c15, h⟩ := mB_some h
                refine z_callI hC kC_X6_compareWithImage kM_X6_152 sh_0 TX6 8 rfl (m_X6_compareWithImage hC.dis (img 0 + 2) ((img_ok g14).2.2) u1 c15) rfl (Nat.le_of_ble_eq_true rfl) (Nat.le_of_ble_eq_true rfl) (Nat.le_of_ble_eq_true rfl) rfl dX6_stages_160 ?_
                obtain rfl := Option.some.inj h
                exact z_iret hC hE dX6_stages_163
  · rw [if_pos b2] at h
    refine z_bipush (v := (-5)) hC dX6_stages_41 (by decide) ?_
    obtain rfl := Option.some.inj h
    exact z_iret hC hE dX6_stages_43
set_option maxHeartbeats 4000000 in
set_option maxRecDepth 100000 in
theorem s_X6_stages_0 {C : mCtx} (hC : mOK cX6_stages RX6 2 5 130 C) {res : Int32 × MU} (hE : mEndI C .int res.1 res.2) (x1 : Int32) (u : MU) (h : f_X6_stages x1 u = some res) : wat C u 0 [some (.ref (cS C 0)), some (.int x1)] [] := by
  unfold f_X6_stages at h
  refine z_iload_n hC dX6_stages_0 rfl rfl ?_
  refine z_if_lt hC 10 dX6_stages_1 (by decide) (fun b1 => ?_) (fun b1 => ?_)
  · rw [if_pos b1] at h
    refine z_bipush (v := (-2)) hC dX6_stages_10 (by decide) ?_
    obtain rfl := Option.some.inj h
    exact z_iret hC hE dX6_stages_12
  · rw [if_neg b1] at h
    refine z_iload_n hC dX6_stages_4 rfl rfl ?_
    refine z_bipush (v := nI 6) hC dX6_stages_5 (by decide) ?_
    refine z_icmp_le hC 13 dX6_stages_7 (by decide) (fun b2 => ?_) (fun b2 => ?_)
    · rw [if_pos b2] at h
      refine z_iload_n hC dX6_stages_13 rfl rfl ?_
      refine z_bipush (v := nI 6) hC dX6_stages_14 (by decide) ?_
      refine z_icmp_ne hC 34 dX6_stages_16 (by decide) (fun b3 => ?_) (fun b3 => ?_)
      · rw [if_neg b3] at h
        exact s_X6_stages_34 hC hE x1 u h
      · rw [if_pos b3] at h
        refine z_aload_n hC dX6_stages_19 rfl rfl ?_
        refine z_getR hC 12 kF_X6_35 sh_0 rfl dX6_stages_20 ?_
        refine z_iconst (v := 0) hC dX6_stages_23 (by decide) ?_
        obtain ⟨g4, h⟩ := gd_some h
        refine z_aald hC (img 0) sh_12 (fun _ => rfl) g4 (img_at g4) dX6_stages_24 ?_
        refine z_getI hC kF_X6_127 (img_ok g4).1 rfl dX6_stages_25 ?_
        refine z_if_ne hC 34 dX6_stages_28 (by decide) (fun b5 => ?_) (fun b5 => ?_)
        · rw [if_neg b5] at h
          exact s_X6_stages_34 hC hE x1 u h
        · rw [if_pos b5] at h
          refine z_bipush (v := (-3)) hC dX6_stages_31 (by decide) ?_
          obtain rfl := Option.some.inj h
          exact z_iret hC hE dX6_stages_33
    · rw [if_neg b2] at h
      refine z_bipush (v := (-2)) hC dX6_stages_10 (by decide) ?_
      obtain rfl := Option.some.inj h
      exact z_iret hC hE dX6_stages_12
theorem m_X6_stages {l : Launch} {dC : Nat → ClassId} {dI : Nat → Nat → Nat} {dA : Nat → ClassId} {as : Nat → Nat} (hD : mDis as) (x1 : Int32) (u : MU) {r : Int32} {v : MU} (h : f_X6_stages x1 u = some (r, v)) : mMI l dC dI dA as yX6_stages cX6_stages 2 .int 5 130 [.ref (as 0), .int x1] u r v := mMIof RX6 [some (.ref (as 0)), some (.int x1)] hD (by decide +kernel) rfl (Nat.le_of_ble_eq_true rfl) rfl (fun C e1 e2 e3 e4 e5 hC hE => by subst e5; exact s_X6_stages_0 hC (res := (r, v)) hE x1 u h)
