set_option maxHeartbeats 4000000 in
set_option maxRecDepth 100000 in
theorem s_X6_perform_0 {C : mCtx} (hC : mOK cX6_perform RX6 2 26 714 C) {res : Int32 × MU} (hE : mEndI C .boolean res.1 res.2) (x1 : Int32) (u : MU) (h : f_X6_perform x1 u = some res) : wat C u 0 [some (.ref (cS C 0)), some (.int x1)] [] := by
  unfold f_X6_perform at h
  refine z_aload_n hC dX6_perform_0 rfl rfl ?_
  obtain ⟨r1, u1, c1, h⟩ := mB_some h
  refine z_callI hC kC_X6_layProgram kM_X6_117 sh_0 TX6 8 rfl (m_X6_layProgram hC.dis u c1) rfl (Nat.le_of_ble_eq_true rfl) (Nat.le_of_ble_eq_true rfl) (Nat.le_of_ble_eq_true rfl) rfl dX6_perform_1 ?_
  refine z_if_ne hC 9 dX6_perform_4 (by decide) (fun b2 => ?_) (fun b2 => ?_)
  · rw [if_neg b2] at h
    refine z_aload_n hC dX6_perform_9 rfl rfl ?_
    refine z_getR hC 13 kF_X6_42 sh_0 rfl dX6_perform_10 ?_
    refine z_iload_n hC dX6_perform_13 rfl rfl ?_
    obtain ⟨r3, u3, c3, h⟩ := mB_some h
    refine z_callV hC kC_X2_arrange kM_X6_206 ok2_13.1 TX2 6 rfl (m_X2_arrange hC.dis 13 ok2_13 x1 u1 c3) rfl (Nat.le_of_ble_eq_true rfl) (Nat.le_of_ble_eq_true rfl) (Nat.le_of_ble_eq_true rfl) rfl dX6_perform_14 ?_
    refine z_aload_n hC dX6_perform_17 rfl rfl ?_
    refine z_getR hC 27 kF_X6_52 sh_0 rfl dX6_perform_18 ?_
    refine z_aload_n hC dX6_perform_21 rfl rfl ?_
    refine z_getR hC 1 kF_X6_11 sh_0 rfl dX6_perform_22 ?_
    refine z_aload_n hC dX6_perform_25 rfl rfl ?_
    refine z_getR hC 9 kF_X6_29 sh_0 rfl dX6_perform_26 ?_
    refine z_aload_n hC dX6_perform_29 rfl rfl ?_
    refine z_getR hC 13 kF_X6_42 sh_0 rfl dX6_perform_30 ?_
    refine z_getR hC 19 kF_X6_209 ok2_13.1 rfl dX6_perform_33 ?_
    refine z_aload_n hC dX6_perform_36 rfl rfl ?_
    refine z_getR hC 8 kF_X6_22 sh_0 rfl dX6_perform_37 ?_
    obtain ⟨r4, u4, c4, h⟩ := mB_some h
    refine z_callI hC kC_X3_perform kM_X6_212 sh_27 TX3 5 rfl (m_X3_perform hC.dis 9 ok4_9 19 ok2_13.2.2.2.2 8 sh_8 u3 c4) rfl (Nat.le_of_ble_eq_true rfl) (Nat.le_of_ble_eq_true rfl) (Nat.le_of_ble_eq_true rfl) rfl dX6_perform_40 ?_
    obtain ⟨g5, h⟩ := gd_some h
    obtain rfl := Option.some.inj h
    exact z_zret hC hE g5 dX6_perform_43
  · rw [if_pos b2] at h
    refine z_iconst (v := 0) hC dX6_perform_7 (by decide) ?_
    obtain rfl := Option.some.inj h
    exact z_zret hC hE rfl dX6_perform_8
theorem m_X6_perform {l : Launch} {dC : Nat → ClassId} {dI : Nat → Nat → Nat} {dA : Nat → ClassId} {as : Nat → Nat} (hD : mDis as) (x1 : Int32) (u : MU) {r : Int32} {v : MU} (h : f_X6_perform x1 u = some (r, v)) : mMI l dC dI dA as yX6_perform cX6_perform 2 .boolean 26 714 [.ref (as 0), .int x1] u r v := mMIof RX6 [some (.ref (as 0)), some (.int x1)] hD (by decide +kernel) rfl (Nat.le_of_ble_eq_true rfl) rfl (fun C e1 e2 e3 e4 e5 hC hE => by subst e5; exact s_X6_perform_0 hC (res := (r, v)) hE x1 u h)
set_option maxHeartbeats 4000000 in
set_option maxRecDepth 100000 in
theorem s_X6_run_0 {C : mCtx} (hC : mOK cX6_run RX6 3 27 735 C) {res : Int32 × MU} (hE : mEndI C .int res.1 res.2) (x1 : Int32) (x2 : Int32) (u : MU) (h : f_X6_run x1 x2 u = some res) : wat C u 0 [some (.ref (cS C 0)), some (.int x1), some (.int x2)] [] := by
  unfold f_X6_run at h
  refine z_iload_n hC dX6_run_0 rfl rfl ?_
  refine z_if_lt hC 19 dX6_run_1 (by decide) (fun b1 => ?_) (fun b1 => ?_)
  · rw [if_pos b1] at h
    refine z_bipush (v := (-2)) hC dX6_run_19 (by decide) ?_
    obtain rfl := Option.some.inj h
    exact z_iret hC hE dX6_run_21
  · rw [if_neg b1] at h
    refine z_iload_n hC dX6_run_4 rfl rfl ?_
    refine z_iconst (v := nI 2) hC dX6_run_5 (by decide) ?_
    refine z_icmp_gt hC 19 dX6_run_6 (by decide) (fun b2 => ?_) (fun b2 => ?_)
    · rw [if_pos b2] at h
      refine z_bipush (v := (-2)) hC dX6_run_19 (by decide) ?_
      obtain rfl := Option.some.inj h
      exact z_iret hC hE dX6_run_21
    · rw [if_neg b2] at h
      refine z_iload_n hC dX6_run_9 rfl rfl ?_
      refine z_if_lt hC 19 dX6_run_10 (by decide) (fun b3 => ?_) (fun b3 => ?_)
      · rw [if_pos b3] at h
        refine z_bipush (v := (-2)) hC dX6_run_19 (by decide) ?_
        obtain rfl := Option.some.inj h
        exact z_iret hC hE dX6_run_21
      · rw [if_neg b3] at h
        refine z_iload_n hC dX6_run_13 rfl rfl ?_
        refine z_bipush (v := nI 19) hC dX6_run_14 (by decide) ?_
        refine z_icmp_le hC 22 dX6_run_16 (by decide) (fun b4 => ?_) (fun b4 => ?_)
        · rw [if_pos b4] at h
          refine z_aload_n hC dX6_run_22 rfl rfl ?_
          refine z_iload_n hC dX6_run_23 rfl rfl ?_
          obtain ⟨r5, u5, c5, h⟩ := mB_some h
          refine z_callI hC kC_X6_perform kM_X6_156 sh_0 TX6 8 rfl (m_X6_perform hC.dis x1 u c5) rfl (Nat.le_of_ble_eq_true rfl) (Nat.le_of_ble_eq_true rfl) (Nat.le_of_ble_eq_true rfl) rfl dX6_run_24 ?_
          refine z_if_ne hC 33 dX6_run_27 (by decide) (fun b6 => ?_) (fun b6 => ?_)
          · rw [if_neg b6] at h
            refine z_iload_n hC dX6_run_33 rfl rfl ?_
            refine z_bipush (v := nI 18) hC dX6_run_34 (by decide) ?_
            refine z_icmp_ne hC 47 dX6_run_36 (by decide) (fun b7 => ?_) (fun b7 => ?_)
            · rw [if_neg b7] at h
              refine z_iload_n hC dX6_run_47 rfl rfl ?_
              refine z_bipush (v := nI 19) hC dX6_run_48 (by decide) ?_
              refine z_icmp_ne hC 63 dX6_run_50 (by decide) (fun b8 => ?_) (fun b8 => ?_)
              · rw [if_neg b8] at h
                refine z_aload_n hC dX6_run_63 rfl rfl ?_
                refine z_getR hC 27 kF_X6_52 sh_0 rfl dX6_run_64 ?_
                refine z_getR hC 28 kF_X6_166 sh_27 rfl dX6_run_67 ?_
                refine z_iload_n hC dX6_run_70 rfl rfl ?_
                obtain ⟨g9, h⟩ := gd_some h
                refine z_iald hC sh_28 g9 dX6_run_71 ?_
                obtain rfl := Option.some.inj h
                exact z_iret hC hE dX6_run_72
              · rw [if_pos b8] at h
                refine z_aload_n hC dX6_run_53 rfl rfl ?_
                refine z_getR hC 27 kF_X6_52 sh_0 rfl dX6_run_54 ?_
                refine z_getI hC kF_X6_163 sh_27 rfl dX6_run_57 ?_
                refine z_goto hC 72 dX6_run_60 (by decide) ?_
                obtain rfl := Option.some.inj h
                exact z_iret hC hE dX6_run_72
            · rw [if_pos b7] at h
              refine z_aload_n hC dX6_run_39 rfl rfl ?_
              refine z_getR hC 27 kF_X6_52 sh_0 rfl dX6_run_40 ?_
              refine z_getI hC kF_X6_160 sh_27 rfl dX6_run_43 ?_
              obtain rfl := Option.some.inj h
              exact z_iret hC hE dX6_run_46
          · rw [if_pos b6] at h
            refine z_bipush (v := (-3)) hC dX6_run_30 (by decide) ?_
            obtain rfl := Option.some.inj h
            exact z_iret hC hE dX6_run_32
        · rw [if_neg b4] at h
          refine z_bipush (v := (-2)) hC dX6_run_19 (by decide) ?_
          obtain rfl := Option.some.inj h
          exact z_iret hC hE dX6_run_21
theorem m_X6_run {l : Launch} {dC : Nat → ClassId} {dI : Nat → Nat → Nat} {dA : Nat → ClassId} {as : Nat → Nat} (hD : mDis as) (x1 : Int32) (x2 : Int32) (u : MU) {r : Int32} {v : MU} (h : f_X6_run x1 x2 u = some (r, v)) : mMI l dC dI dA as yX6_run cX6_run 3 .int 27 735 [.ref (as 0), .int x1, .int x2] u r v := mMIof RX6 [some (.ref (as 0)), some (.int x1), some (.int x2)] hD (by decide +kernel) rfl (Nat.le_of_ble_eq_true rfl) rfl (fun C e1 e2 e3 e4 e5 hC hE => by subst e5; exact s_X6_run_0 hC (res := (r, v)) hE x1 x2 u h)
set_option maxHeartbeats 4000000 in
set_option maxRecDepth 100000 in
theorem s_X6_thrower_0 {C : mCtx} (hC : mOK cX6_thrower RX6 3 27 735 C) {res : Int32 × MU} (hE : mEndI C .int res.1 res.2) (x1 : Int32) (x2 : Int32) (u : MU) (h : f_X6_thrower x1 x2 u = some res) : wat C u 0 [some (.ref (cS C 0)), some (.int x1), some (.int x2)] [] := by
  unfold f_X6_thrower at h
  refine z_iload_n hC dX6_thrower_0 rfl rfl ?_
  refine z_if_lt hC 9 dX6_thrower_1 (by decide) (fun b1 => ?_) (fun b1 => ?_)
  · rw [if_pos b1] at h
    refine z_bipush (v := (-2)) hC dX6_thrower_9 (by decide) ?_
    obtain rfl := Option.some.inj h
    exact z_iret hC hE dX6_thrower_11
  · rw [if_neg b1] at h
    refine z_iload_n hC dX6_thrower_4 rfl rfl ?_
    refine z_iconst (v := nI 2) hC dX6_thrower_5 (by decide) ?_
    refine z_icmp_le hC 12 dX6_thrower_6 (by decide) (fun b2 => ?_) (fun b2 => ?_)
    · rw [if_pos b2] at h
      refine z_aload_n hC dX6_thrower_12 rfl rfl ?_
      refine z_iload_n hC dX6_thrower_13 rfl rfl ?_
      obtain ⟨r3, u3, c3, h⟩ := mB_some h
      refine z_callI hC kC_X6_perform kM_X6_156 sh_0 TX6 8 rfl (m_X6_perform hC.dis x1 u c3) rfl (Nat.le_of_ble_eq_true rfl) (Nat.le_of_ble_eq_true rfl) (Nat.le_of_ble_eq_true rfl) rfl dX6_thrower_14 ?_
      refine z_if_ne hC 23 dX6_thrower_17 (by decide) (fun b4 => ?_) (fun b4 => ?_)
      · rw [if_neg b4] at h
        refine z_iload_n hC dX6_thrower_23 rfl rfl ?_
        refine z_aload_n hC dX6_thrower_24 rfl rfl ?_
        refine z_getR hC 27 kF_X6_52 sh_0 rfl dX6_thrower_25 ?_
        refine z_getI hC kF_X6_160 sh_27 rfl dX6_thrower_28 ?_
        obtain ⟨r5, u5, c5, h⟩ := mB_some h
        refine z_callSI hC kC_X6_within kM_X6_58 (m_X6_within hC.dis x2 (u3 27 2) u3 c5) rfl (Nat.le_of_ble_eq_true rfl) (Nat.le_of_ble_eq_true rfl) (Nat.le_of_ble_eq_true rfl) rfl dX6_thrower_31 ?_
        refine z_if_eq hC 49 dX6_thrower_34 (by decide) (fun b6 => ?_) (fun b6 => ?_)
        · rw [if_pos b6] at h
          refine z_bipush (v := (-6)) hC dX6_thrower_49 (by decide) ?_
          obtain rfl := Option.some.inj h
          exact z_iret hC hE dX6_thrower_51
        · rw [if_neg b6] at h
          refine z_aload_n hC dX6_thrower_37 rfl rfl ?_
          refine z_getR hC 27 kF_X6_52 sh_0 rfl dX6_thrower_38 ?_
          refine z_getR hC 29 kF_X6_169 sh_27 rfl dX6_thrower_41 ?_
          refine z_iload_n hC dX6_thrower_44 rfl rfl ?_
          obtain ⟨g7, h⟩ := gd_some h
          refine z_iald hC sh_29 g7 dX6_thrower_45 ?_
          refine z_goto hC 51 dX6_thrower_46 (by decide) ?_
          obtain rfl := Option.some.inj h
          exact z_iret hC hE dX6_thrower_51
      · rw [if_pos b4] at h
        refine z_bipush (v := (-3)) hC dX6_thrower_20 (by decide) ?_
        obtain rfl := Option.some.inj h
        exact z_iret hC hE dX6_thrower_22
    · rw [if_neg b2] at h
      refine z_bipush (v := (-2)) hC dX6_thrower_9 (by decide) ?_
      obtain rfl := Option.some.inj h
      exact z_iret hC hE dX6_thrower_11
theorem m_X6_thrower {l : Launch} {dC : Nat → ClassId} {dI : Nat → Nat → Nat} {dA : Nat → ClassId} {as : Nat → Nat} (hD : mDis as) (x1 : Int32) (x2 : Int32) (u : MU) {r : Int32} {v : MU} (h : f_X6_thrower x1 x2 u = some (r, v)) : mMI l dC dI dA as yX6_thrower cX6_thrower 3 .int 27 735 [.ref (as 0), .int x1, .int x2] u r v := mMIof RX6 [some (.ref (as 0)), some (.int x1), some (.int x2)] hD (by decide +kernel) rfl (Nat.le_of_ble_eq_true rfl) rfl (fun C e1 e2 e3 e4 e5 hC hE => by subst e5; exact s_X6_thrower_0 hC (res := (r, v)) hE x1 x2 u h)
set_option maxHeartbeats 4000000 in
set_option maxRecDepth 100000 in
theorem s_X6_commit_0 {C : mCtx} (hC : mOK cX6_commit RX6 1 27 735 C) {res : Int32 × MU} (hE : mEndI C .int res.1 res.2) (u : MU) (h : f_X6_commit u = some res) : wat C u 0 [some (.ref (cS C 0))] [] := by
  unfold f_X6_commit at h
  refine z_aload_n hC dX6_commit_0 rfl rfl ?_
  refine z_iconst (v := 0) hC dX6_commit_1 (by decide) ?_
  obtain ⟨r1, u1, c1, h⟩ := mB_some h
  refine z_callI hC kC_X6_perform kM_X6_156 sh_0 TX6 8 rfl (m_X6_perform hC.dis 0 u c1) rfl (Nat.le_of_ble_eq_true rfl) (Nat.le_of_ble_eq_true rfl) (Nat.le_of_ble_eq_true rfl) rfl dX6_commit_2 ?_
  refine z_if_ne hC 11 dX6_commit_5 (by decide) (fun b2 => ?_) (fun b2 => ?_)
  · rw [if_neg b2] at h
    refine z_aload_n hC dX6_commit_11 rfl rfl ?_
    refine z_getR hC 27 kF_X6_52 sh_0 rfl dX6_commit_12 ?_
    refine z_getR hC 28 kF_X6_166 sh_27 rfl dX6_commit_15 ?_
    refine z_iconst (v := 0) hC dX6_commit_18 (by decide) ?_
    refine z_aload_n hC dX6_commit_19 rfl rfl ?_
    refine z_getR hC 8 kF_X6_22 sh_0 rfl dX6_commit_20 ?_
    refine z_iconst (v := 0) hC dX6_commit_23 (by decide) ?_
    refine z_bipush (v := nI 18) hC dX6_commit_24 (by decide) ?_
    obtain ⟨u3, e3, h⟩ := mS_some h
    refine y_copy hC kA_X6_172 sh_28 sh_8 (by decide) (by decide) (by decide) (by decide +kernel) (by decide +kernel) (Nat.le_of_ble_eq_true rfl) (Nat.le_of_ble_eq_true rfl) dX6_commit_26 e3 ?_
    refine z_aload_n hC dX6_commit_29 rfl rfl ?_
    refine z_getR hC 9 kF_X6_29 sh_0 rfl dX6_commit_30 ?_
    refine z_iconst (v := 0) hC dX6_commit_33 (by decide) ?_
    obtain ⟨u4, e4, h⟩ := mS_some h
    refine y_putI hC kP_X6_95 ok4_9.1 rfl dX6_commit_34 e4 ?_
    refine z_aload_n hC dX6_commit_37 rfl rfl ?_
    refine z_getR hC 27 kF_X6_52 sh_0 rfl dX6_commit_38 ?_
    refine z_getI hC kF_X6_160 sh_27 rfl dX6_commit_41 ?_
    obtain rfl := Option.some.inj h
    exact z_iret hC hE dX6_commit_44
  · rw [if_pos b2] at h
    refine z_bipush (v := (-3)) hC dX6_commit_8 (by decide) ?_
    obtain rfl := Option.some.inj h
    exact z_iret hC hE dX6_commit_10
theorem m_X6_commit {l : Launch} {dC : Nat → ClassId} {dI : Nat → Nat → Nat} {dA : Nat → ClassId} {as : Nat → Nat} (hD : mDis as) (u : MU) {r : Int32} {v : MU} (h : f_X6_commit u = some (r, v)) : mMI l dC dI dA as yX6_commit cX6_commit 1 .int 27 735 [.ref (as 0)] u r v := mMIof RX6 [some (.ref (as 0))] hD (by decide +kernel) rfl (Nat.le_of_ble_eq_true rfl) rfl (fun C e1 e2 e3 e4 e5 hC hE => by subst e5; exact s_X6_commit_0 hC (res := (r, v)) hE u h)
set_option maxHeartbeats 4000000 in
set_option maxRecDepth 100000 in
theorem s_X6_image_0 {C : mCtx} (hC : mOK cX6_image RX6 2 3 107 C) {res : Int32 × MU} (hE : mEndI C .int res.1 res.2) (x1 : Int32) (u : MU) (h : f_X6_image x1 u = some res) : wat C u 0 [some (.ref (cS C 0)), some (.int x1)] [] := by
  unfold f_X6_image at h
  refine z_iload_n hC dX6_image_0 rfl rfl ?_
  refine z_iconst (v := nI 2) hC dX6_image_1 (by decide) ?_
  obtain ⟨r1, u1, c1, h⟩ := mB_some h
  refine z_callSI hC kC_X6_within kM_X6_58 (m_X6_within hC.dis x1 (nI 2) u c1) rfl (Nat.le_of_ble_eq_true rfl) (Nat.le_of_ble_eq_true rfl) (Nat.le_of_ble_eq_true rfl) rfl dX6_image_2 ?_
  refine z_if_ne hC 11 dX6_image_5 (by decide) (fun b2 => ?_) (fun b2 => ?_)
  · rw [if_neg b2] at h
    refine z_aload_n hC dX6_image_11 rfl rfl ?_
    refine z_getR hC 12 kF_X6_35 sh_0 rfl dX6_image_12 ?_
    refine z_iload_n hC dX6_image_15 rfl rfl ?_
    obtain ⟨g3, h⟩ := gd_some h
    refine z_aald hC (img x1) sh_12 (fun _ => rfl) g3 (img_at g3) dX6_image_16 ?_
    refine z_aload_n hC dX6_image_17 rfl rfl ?_
    refine z_getR hC 8 kF_X6_22 sh_0 rfl dX6_image_18 ?_
    refine z_aload_n hC dX6_image_21 rfl rfl ?_
    refine z_getR hC 9 kF_X6_29 sh_0 rfl dX6_image_22 ?_
    obtain ⟨r4, u4, c4, h⟩ := mB_some h
    refine z_callV hC kC_X1_keep kM_X6_178 (img_ok g3).1 TX1 3 rfl (m_X1_keep hC.dis (img x1) ((img_ok g3)) 8 sh_8 9 ok4_9 u1 c4) rfl (Nat.le_of_ble_eq_true rfl) (Nat.le_of_ble_eq_true rfl) (Nat.le_of_ble_eq_true rfl) rfl dX6_image_25 ?_
    refine z_iconst (v := 1) hC dX6_image_28 (by decide) ?_
    obtain rfl := Option.some.inj h
    exact z_iret hC hE dX6_image_29
  · rw [if_pos b2] at h
    refine z_bipush (v := (-2)) hC dX6_image_8 (by decide) ?_
    obtain rfl := Option.some.inj h
    exact z_iret hC hE dX6_image_10
theorem m_X6_image {l : Launch} {dC : Nat → ClassId} {dI : Nat → Nat → Nat} {dA : Nat → ClassId} {as : Nat → Nat} (hD : mDis as) (x1 : Int32) (u : MU) {r : Int32} {v : MU} (h : f_X6_image x1 u = some (r, v)) : mMI l dC dI dA as yX6_image cX6_image 2 .int 3 107 [.ref (as 0), .int x1] u r v := mMIof RX6 [some (.ref (as 0)), some (.int x1)] hD (by decide +kernel) rfl (Nat.le_of_ble_eq_true rfl) rfl (fun C e1 e2 e3 e4 e5 hC hE => by subst e5; exact s_X6_image_0 hC (res := (r, v)) hE x1 u h)
set_option maxHeartbeats 4000000 in
set_option maxRecDepth 100000 in
theorem s_X6_restore_0 {C : mCtx} (hC : mOK cX6_restore RX6 2 2 85 C) {res : Int32 × MU} (hE : mEndI C .int res.1 res.2) (x1 : Int32) (u : MU) (h : f_X6_restore x1 u = some res) : wat C u 0 [some (.ref (cS C 0)), some (.int x1)] [] := by
  unfold f_X6_restore at h
  refine z_iload_n hC dX6_restore_0 rfl rfl ?_
  refine z_iconst (v := nI 2) hC dX6_restore_1 (by decide) ?_
  obtain ⟨r1, u1, c1, h⟩ := mB_some h
  refine z_callSI hC kC_X6_within kM_X6_58 (m_X6_within hC.dis x1 (nI 2) u c1) rfl (Nat.le_of_ble_eq_true rfl) (Nat.le_of_ble_eq_true rfl) (Nat.le_of_ble_eq_true rfl) rfl dX6_restore_2 ?_
  refine z_if_ne hC 11 dX6_restore_5 (by decide) (fun b2 => ?_) (fun b2 => ?_)
  · rw [if_neg b2] at h
    refine z_aload_n hC dX6_restore_11 rfl rfl ?_
    refine z_getR hC 12 kF_X6_35 sh_0 rfl dX6_restore_12 ?_
    refine z_iload_n hC dX6_restore_15 rfl rfl ?_
    obtain ⟨g3, h⟩ := gd_some h
    refine z_aald hC (img x1) sh_12 (fun _ => rfl) g3 (img_at g3) dX6_restore_16 ?_
    refine z_getI hC kF_X6_127 (img_ok g3).1 rfl dX6_restore_17 ?_
    refine z_if_ne hC 26 dX6_restore_20 (by decide) (fun b4 => ?_) (fun b4 => ?_)
    · rw [if_neg b4] at h
      refine z_aload_n hC dX6_restore_26 rfl rfl ?_
      refine z_getR hC 12 kF_X6_35 sh_0 rfl dX6_restore_27 ?_
      refine z_iload_n hC dX6_restore_30 rfl rfl ?_
      obtain ⟨g5, h⟩ := gd_some h
      refine z_aald hC (img x1) sh_12 (fun _ => rfl) g5 (img_at g5) dX6_restore_31 ?_
      refine z_getR hC (img x1 + 1) kF_X6_182 (img_ok g5).1 rfl dX6_restore_32 ?_
      refine z_iconst (v := 0) hC dX6_restore_35 (by decide) ?_
      refine z_aload_n hC dX6_restore_36 rfl rfl ?_
      refine z_getR hC 8 kF_X6_22 sh_0 rfl dX6_restore_37 ?_
      refine z_iconst (v := 0) hC dX6_restore_40 (by decide) ?_
      refine z_bipush (v := nI 18) hC dX6_restore_41 (by decide) ?_
      obtain ⟨u6, e6, h⟩ := mS_some h
      refine y_copy hC kA_X6_172 (img_ok g5).2.1 sh_8 (by decide) (by decide) (by decide) (by decide +kernel) (by decide +kernel) (Nat.le_of_ble_eq_true rfl) (Nat.le_of_ble_eq_true rfl) dX6_restore_43 e6 ?_
      refine z_aload_n hC dX6_restore_46 rfl rfl ?_
      refine z_getR hC 9 kF_X6_29 sh_0 rfl dX6_restore_47 ?_
      refine z_aload_n hC dX6_restore_50 rfl rfl ?_
      refine z_getR hC 12 kF_X6_35 sh_0 rfl dX6_restore_51 ?_
      refine z_iload_n hC dX6_restore_54 rfl rfl ?_
      obtain ⟨g7, h⟩ := gd_some h
      refine z_aald hC (img x1) sh_12 (fun _ => rfl) g7 (img_at g7) dX6_restore_55 ?_
      refine z_getR hC (img x1 + 2) kF_X6_151 (img_ok g7).1 rfl dX6_restore_56 ?_
      obtain ⟨r8, u8, c8, h⟩ := mB_some h
      refine z_callV hC kC_X4_copyFrom kM_X6_183 ok4_9.1 TX4 3 rfl (m_X4_copyFrom hC.dis 9 ok4_9 (img x1 + 2) ((img_ok g7).2.2) u6 c8) rfl (Nat.le_of_ble_eq_true rfl) (Nat.le_of_ble_eq_true rfl) (Nat.le_of_ble_eq_true rfl) rfl dX6_restore_59 ?_
      refine z_iconst (v := 1) hC dX6_restore_62 (by decide) ?_
      obtain rfl := Option.some.inj h
      exact z_iret hC hE dX6_restore_63
    · rw [if_pos b4] at h
      refine z_bipush (v := (-3)) hC dX6_restore_23 (by decide) ?_
      obtain rfl := Option.some.inj h
      exact z_iret hC hE dX6_restore_25
  · rw [if_pos b2] at h
    refine z_bipush (v := (-2)) hC dX6_restore_8 (by decide) ?_
    obtain rfl := Option.some.inj h
    exact z_iret hC hE dX6_restore_10
theorem m_X6_restore {l : Launch} {dC : Nat → ClassId} {dI : Nat → Nat → Nat} {dA : Nat → ClassId} {as : Nat → Nat} (hD : mDis as) (x1 : Int32) (u : MU) {r : Int32} {v : MU} (h : f_X6_restore x1 u = some (r, v)) : mMI l dC dI dA as yX6_restore cX6_restore 2 .int 2 85 [.ref (as 0), .int x1] u r v := mMIof RX6 [some (.ref (as 0)), some (.int x1)] hD (by decide +kernel) rfl (Nat.le_of_ble_eq_true rfl) rfl (fun C e1 e2 e3 e4 e5 hC hE => by subst e5; exact s_X6_restore_0 hC (res := (r, v)) hE x1 u h)
set_option maxHeartbeats 4000000 in
set_option maxRecDepth 100000 in
theorem s_J9_floorMod_7cf53_0 {C : mCtx} (hC : mOK cJ9_floorMod_7cf53 RJ9 3 0 0 C) {res : Int32 × MU} (hE : mEndI C .int res.1 res.2) (x0 : Int32) (x1 : Int32) (u : MU) (h : f_J9_floorMod_7cf53 x0 x1 u = some res) : wat C u 0 [some (.int x0), some (.int x1), none] [] := by
  unfold f_J9_floorMod_7cf53 at h
  refine z_iload_n hC dJ9_floorMod_7cf53_0 rfl rfl ?_
  refine z_iload_n hC dJ9_floorMod_7cf53_1 rfl rfl ?_
  obtain ⟨g1, h⟩ := gd_some h
  refine y_irem hC dJ9_floorMod_7cf53_2 (mNz_ne g1) ?_
  refine y_istore_n hC [some (.int x0), some (.int x1), some (.int (irm x0 x1))] dJ9_floorMod_7cf53_3 rfl rfl (Nat.le_of_ble_eq_true rfl) (Nat.le_of_ble_eq_true rfl) rfl ?_
  refine z_iload_n hC dJ9_floorMod_7cf53_4 rfl rfl ?_
  refine z_iload_n hC dJ9_floorMod_7cf53_5 rfl rfl ?_
  refine z_ixor hC dJ9_floorMod_7cf53_6 ?_
  refine z_if_ge hC 18 dJ9_floorMod_7cf53_7 (by decide) (fun b2 => ?_) (fun b2 => ?_)
  · rw [if_pos b2] at h
    refine z_iload_n hC dJ9_floorMod_7cf53_18 rfl rfl ?_
    obtain rfl := Option.some.inj h
    exact z_iret hC hE dJ9_floorMod_7cf53_19
  · rw [if_neg b2] at h
    refine z_iload_n hC dJ9_floorMod_7cf53_10 rfl rfl ?_
    refine z_if_eq hC 18 dJ9_floorMod_7cf53_11 (by decide) (fun b3 => ?_) (fun b3 => ?_)
    · rw [if_pos b3] at h
      refine z_iload_n hC dJ9_floorMod_7cf53_18 rfl rfl ?_
      obtain rfl := Option.some.inj h
      exact z_iret hC hE dJ9_floorMod_7cf53_19
    · rw [if_neg b3] at h
      refine z_iload_n hC dJ9_floorMod_7cf53_14 rfl rfl ?_
      refine z_iload_n hC dJ9_floorMod_7cf53_15 rfl rfl ?_
      refine z_iadd hC dJ9_floorMod_7cf53_16 ?_
      obtain rfl := Option.some.inj h
      exact z_iret hC hE dJ9_floorMod_7cf53_17
theorem m_J9_floorMod_7cf53 {l : Launch} {dC : Nat → ClassId} {dI : Nat → Nat → Nat} {dA : Nat → ClassId} {as : Nat → Nat} (hD : mDis as) (x0 : Int32) (x1 : Int32) (u : MU) {r : Int32} {v : MU} (h : f_J9_floorMod_7cf53 x0 x1 u = some (r, v)) : mMI l dC dI dA as yJ9_floorMod_7cf53 cJ9_floorMod_7cf53 3 .int 0 0 [.int x0, .int x1] u r v := mMIof RJ9 [some (.int x0), some (.int x1), none] hD (by decide +kernel) rfl (Nat.le_of_ble_eq_true rfl) rfl (fun C e1 e2 e3 e4 e5 hC hE => by subst e5; exact s_J9_floorMod_7cf53_0 hC (res := (r, v)) hE x0 x1 u h)
set_option maxHeartbeats 4000000 in
set_option maxRecDepth 100000 in
theorem s_X6_count_0 {C : mCtx} (hC : mOK cX6_count RX6 4 1 22 C) {res : Int32 × MU} (hE : mEndI C .int res.1 res.2) (x1 : Int32) (u : MU) (h : f_X6_count x1 u = some res) : wat C u 0 [some (.ref (cS C 0)), some (.int x1), none, none] [] := by
  unfold f_X6_count at h
  refine z_iload_n hC dX6_count_0 rfl rfl ?_
  refine z_if_ne hC 12 dX6_count_1 (by decide) (fun b1 => ?_) (fun b1 => ?_)
  · rw [if_neg b1] at h
    refine z_iload_n hC dX6_count_12 rfl rfl ?_
    refine z_bipush (v := nI 10) hC dX6_count_13 (by decide) ?_
    obtain ⟨r2, u2, c2, h⟩ := mB_some h
    refine z_callSI hC kC_J9_floorMod_7cf53 kM_X6_187 (m_J9_floorMod_7cf53 hC.dis x1 (nI 10) u c2) rfl (Nat.le_of_ble_eq_true rfl) (Nat.le_of_ble_eq_true rfl) (Nat.le_of_ble_eq_true rfl) rfl dX6_count_15 ?_
    refine y_istore_n hC [some (.ref (cS C 0)), some (.int x1), some (.int r2), none] dX6_count_18 rfl rfl (Nat.le_of_ble_eq_true rfl) (Nat.le_of_ble_eq_true rfl) rfl ?_
    refine z_iload_n hC dX6_count_19 rfl rfl ?_
    refine z_bipush (v := nI 10) hC dX6_count_20 (by decide) ?_
    refine z_icmp_lt hC 37 dX6_count_22 (by decide) (fun b3 => ?_) (fun b3 => ?_)
    · rw [if_pos b3] at h
      refine z_bipush (v := (-2)) hC dX6_count_37 (by decide) ?_
      obtain rfl := Option.some.inj h
      exact z_iret hC hE dX6_count_39
    · rw [if_neg b3] at h
      refine z_iload_n hC dX6_count_25 rfl rfl ?_
      refine z_bipush (v := nI 40) hC dX6_count_26 (by decide) ?_
      refine z_icmp_ge hC 37 dX6_count_28 (by decide) (fun b4 => ?_) (fun b4 => ?_)
      · rw [if_pos b4] at h
        refine z_bipush (v := (-2)) hC dX6_count_37 (by decide) ?_
        obtain rfl := Option.some.inj h
        exact z_iret hC hE dX6_count_39
      · rw [if_neg b4] at h
        refine z_iload_n hC dX6_count_31 rfl rfl ?_
        refine z_bipush (v := nI 6) hC dX6_count_32 (by decide) ?_
        refine z_icmp_lt hC 40 dX6_count_34 (by decide) (fun b5 => ?_) (fun b5 => ?_)
        · rw [if_pos b5] at h
          refine z_aload_n hC dX6_count_40 rfl rfl ?_
          refine z_getR hC 1 kF_X6_11 sh_0 rfl dX6_count_41 ?_
          refine z_iload_n hC dX6_count_44 rfl rfl ?_
          obtain ⟨g6, h⟩ := gd_some h
          refine z_aald hC (rtn r2) sh_1 (fun _ => rfl) g6 (rtn_at g6) dX6_count_45 ?_
          refine y_astore_n hC [some (.ref (cS C 0)), some (.int x1), some (.int r2), some (.ref (cS C (rtn r2)))] dX6_count_46 rfl rfl (Nat.le_of_ble_eq_true rfl) (Nat.le_of_ble_eq_true rfl) rfl ?_
          refine z_iload_n hC dX6_count_47 rfl rfl ?_
          refine z_bipush (v := nI 20) hC dX6_count_48 (by decide) ?_
          refine z_icmp_ge hC 58 dX6_count_50 (by decide) (fun b7 => ?_) (fun b7 => ?_)
          · rw [if_pos b7] at h
            refine z_aload_n hC dX6_count_58 rfl rfl ?_
            refine z_getI hC kF_X6_76 (rtn_ok g6).1 rfl dX6_count_59 ?_
            refine z_bipush (v := (-6)) hC dX6_count_62 (by decide) ?_
            refine z_icmp_eq hC 70 dX6_count_64 (by decide) (fun b8 => ?_) (fun b8 => ?_)
            · rw [if_pos b8] at h
              refine z_iload_n hC dX6_count_70 rfl rfl ?_
              refine z_bipush (v := nI 30) hC dX6_count_71 (by decide) ?_
              refine z_icmp_ge hC 83 dX6_count_73 (by decide) (fun b9 => ?_) (fun b9 => ?_)
              · rw [if_pos b9] at h
                refine z_aload_n hC dX6_count_83 rfl rfl ?_
                obtain ⟨r10, u10, c10, h⟩ := mB_some h
                refine z_callI hC kC_X5_calleeBits kM_X6_195 (rtn_ok g6).1 TX5 12 rfl (m_X5_calleeBits hC.dis (rtn r2) ((rtn_ok g6)) u2 c10) rfl (Nat.le_of_ble_eq_true rfl) (Nat.le_of_ble_eq_true rfl) (Nat.le_of_ble_eq_true rfl) rfl dX6_count_84 ?_
                obtain rfl := Option.some.inj h
                exact z_iret hC hE dX6_count_87
              · rw [if_neg b9] at h
                refine z_aload_n hC dX6_count_76 rfl rfl ?_
                refine z_getI hC kF_X6_192 (rtn_ok g6).1 rfl dX6_count_77 ?_
                refine z_goto hC 87 dX6_count_80 (by decide) ?_
                obtain rfl := Option.some.inj h
                exact z_iret hC hE dX6_count_87
            · rw [if_neg b8] at h
              refine z_bipush (v := (-6)) hC dX6_count_67 (by decide) ?_
              obtain rfl := Option.some.inj h
              exact z_iret hC hE dX6_count_69
          · rw [if_neg b7] at h
            refine z_aload_n hC dX6_count_53 rfl rfl ?_
            refine z_getI hC kF_X6_62 (rtn_ok g6).1 rfl dX6_count_54 ?_
            obtain rfl := Option.some.inj h
            exact z_iret hC hE dX6_count_57
        · rw [if_neg b5] at h
          refine z_bipush (v := (-2)) hC dX6_count_37 (by decide) ?_
          obtain rfl := Option.some.inj h
          exact z_iret hC hE dX6_count_39
  · rw [if_pos b1] at h
    refine z_aload_n hC dX6_count_4 rfl rfl ?_
    refine z_getR hC 9 kF_X6_29 sh_0 rfl dX6_count_5 ?_
    refine z_getI hC kF_X6_95 ok4_9.1 rfl dX6_count_8 ?_
    obtain rfl := Option.some.inj h
    exact z_iret hC hE dX6_count_11
theorem m_X6_count {l : Launch} {dC : Nat → ClassId} {dI : Nat → Nat → Nat} {dA : Nat → ClassId} {as : Nat → Nat} (hD : mDis as) (x1 : Int32) (u : MU) {r : Int32} {v : MU} (h : f_X6_count x1 u = some (r, v)) : mMI l dC dI dA as yX6_count cX6_count 4 .int 1 22 [.ref (as 0), .int x1] u r v := mMIof RX6 [some (.ref (as 0)), some (.int x1), none, none] hD (by decide +kernel) rfl (Nat.le_of_ble_eq_true rfl) rfl (fun C e1 e2 e3 e4 e5 hC hE => by subst e5; exact s_X6_count_0 hC (res := (r, v)) hE x1 u h)
set_option maxHeartbeats 4000000 in
set_option maxRecDepth 100000 in
theorem s_X7_in_0 {C : mCtx} (hC : mOK cX7_in RX7 6 0 0 C) {res : Int32 × MU} (hE : mEndI C .boolean res.1 res.2) (x0 : Int64) (x2 : Int64) (x4 : Int64) (u : MU) (h : f_X7_in x0 x2 x4 u = some res) : wat C u 0 [some (.long x0), none, some (.long x2), none, some (.long x4), none] [] := by
  unfold f_X7_in at h
  refine z_lload_n hC dX7_in_0 rfl rfl ?_
  refine z_lload_n hC dX7_in_1 rfl rfl ?_
  refine z_lcmp hC dX7_in_2 ?_
  refine z_if_lt hC 17 dX7_in_3 (by decide) (fun b1 => ?_) (fun b1 => ?_)
  · rw [if_pos b1] at h
    refine z_iconst (v := 0) hC dX7_in_17 (by decide) ?_
    obtain rfl := Option.some.inj h
    exact z_zret hC hE rfl dX7_in_18
  · rw [if_neg b1] at h
    refine z_lload_n hC dX7_in_6 rfl rfl ?_
    refine z_lload hC dX7_in_7 rfl ?_
    refine z_lcmp hC dX7_in_9 ?_
    refine z_if_gt hC 17 dX7_in_10 (by decide) (fun b2 => ?_) (fun b2 => ?_)
    · rw [if_pos b2] at h
      refine z_iconst (v := 0) hC dX7_in_17 (by decide) ?_
      obtain rfl := Option.some.inj h
      exact z_zret hC hE rfl dX7_in_18
    · rw [if_neg b2] at h
      refine z_iconst (v := 1) hC dX7_in_13 (by decide) ?_
      refine z_goto hC 18 dX7_in_14 (by decide) ?_
      obtain rfl := Option.some.inj h
      exact z_zret hC hE rfl dX7_in_18
theorem m_X7_in {l : Launch} {dC : Nat → ClassId} {dI : Nat → Nat → Nat} {dA : Nat → ClassId} {as : Nat → Nat} (hD : mDis as) (x0 : Int64) (x2 : Int64) (x4 : Int64) (u : MU) {r : Int32} {v : MU} (h : f_X7_in x0 x2 x4 u = some (r, v)) : mMI l dC dI dA as yX7_in cX7_in 6 .boolean 0 0 [.long x0, .long x2, .long x4] u r v := mMIof RX7 [some (.long x0), none, some (.long x2), none, some (.long x4), none] hD (by decide +kernel) rfl (Nat.le_of_ble_eq_true rfl) rfl (fun C e1 e2 e3 e4 e5 hC hE => by subst e5; exact s_X7_in_0 hC (res := (r, v)) hE x0 x2 x4 u h)
set_option maxHeartbeats 4000000 in
set_option maxRecDepth 100000 in
theorem s_X7_isRoutine_0 {C : mCtx} (hC : mOK cX7_isRoutine RX7 1 1 25 C) {res : Int32 × MU} (hE : mEndI C .boolean res.1 res.2) (x0 : Int32) (u : MU) (h : f_X7_isRoutine x0 u = some res) : wat C u 0 [some (.int x0)] [] := by
  unfold f_X7_isRoutine at h
  refine z_iload_n hC dX7_isRoutine_0 rfl rfl ?_
  refine z_i2l hC dX7_isRoutine_1 ?_
  refine z_lconst (v := 0) hC dX7_isRoutine_2 (by decide) ?_
  refine z_ldc2 hC kN_X7_77 dX7_isRoutine_3 ?_
  obtain ⟨r1, u1, c1, h⟩ := mB_some h
  refine z_callSI hC kC_X7_in kM_X7_79 (m_X7_in hC.dis x0.toInt64 0 5 u c1) rfl (Nat.le_of_ble_eq_true rfl) (Nat.le_of_ble_eq_true rfl) (Nat.le_of_ble_eq_true rfl) rfl dX7_isRoutine_6 ?_
  obtain ⟨g2, h⟩ := gd_some h
  obtain rfl := Option.some.inj h
  exact z_zret hC hE g2 dX7_isRoutine_9
theorem m_X7_isRoutine {l : Launch} {dC : Nat → ClassId} {dI : Nat → Nat → Nat} {dA : Nat → ClassId} {as : Nat → Nat} (hD : mDis as) (x0 : Int32) (u : MU) {r : Int32} {v : MU} (h : f_X7_isRoutine x0 u = some (r, v)) : mMI l dC dI dA as yX7_isRoutine cX7_isRoutine 1 .boolean 1 25 [.int x0] u r v := mMIof RX7 [some (.int x0)] hD (by decide +kernel) rfl (Nat.le_of_ble_eq_true rfl) rfl (fun C e1 e2 e3 e4 e5 hC hE => by subst e5; exact s_X7_isRoutine_0 hC (res := (r, v)) hE x0 u h)
set_option maxHeartbeats 4000000 in
set_option maxRecDepth 100000 in
theorem s_X7_isGiven_0 {C : mCtx} (hC : mOK cX7_isGiven RX7 1 1 25 C) {res : Int32 × MU} (hE : mEndI C .boolean res.1 res.2) (x0 : Int32) (u : MU) (h : f_X7_isGiven x0 u = some res) : wat C u 0 [some (.int x0)] [] := by
  unfold f_X7_isGiven at h
  refine z_iload_n hC dX7_isGiven_0 rfl rfl ?_
  refine z_i2l hC dX7_isGiven_1 ?_
  refine z_lconst (v := 0) hC dX7_isGiven_2 (by decide) ?_
  refine z_ldc2 hC kN_X7_83 dX7_isGiven_3 ?_
  obtain ⟨r1, u1, c1, h⟩ := mB_some h
  refine z_callSI hC kC_X7_in kM_X7_79 (m_X7_in hC.dis x0.toInt64 0 11 u c1) rfl (Nat.le_of_ble_eq_true rfl) (Nat.le_of_ble_eq_true rfl) (Nat.le_of_ble_eq_true rfl) rfl dX7_isGiven_6 ?_
  obtain ⟨g2, h⟩ := gd_some h
  obtain rfl := Option.some.inj h
  exact z_zret hC hE g2 dX7_isGiven_9
theorem m_X7_isGiven {l : Launch} {dC : Nat → ClassId} {dI : Nat → Nat → Nat} {dA : Nat → ClassId} {as : Nat → Nat} (hD : mDis as) (x0 : Int32) (u : MU) {r : Int32} {v : MU} (h : f_X7_isGiven x0 u = some (r, v)) : mMI l dC dI dA as yX7_isGiven cX7_isGiven 1 .boolean 1 25 [.int x0] u r v := mMIof RX7 [some (.int x0)] hD (by decide +kernel) rfl (Nat.le_of_ble_eq_true rfl) rfl (fun C e1 e2 e3 e4 e5 hC hE => by subst e5; exact s_X7_isGiven_0 hC (res := (r, v)) hE x0 u h)
set_option maxHeartbeats 4000000 in
set_option maxRecDepth 100000 in
theorem s_X7_isPlace_0 {C : mCtx} (hC : mOK cX7_isPlace RX7 1 1 25 C) {res : Int32 × MU} (hE : mEndI C .boolean res.1 res.2) (x0 : Int32) (u : MU) (h : f_X7_isPlace x0 u = some res) : wat C u 0 [some (.int x0)] [] := by
  unfold f_X7_isPlace at h
  refine z_iload_n hC dX7_isPlace_0 rfl rfl ?_
  refine z_i2l hC dX7_isPlace_1 ?_
  refine z_lconst (v := 0) hC dX7_isPlace_2 (by decide) ?_
  refine z_ldc2 hC kN_X7_85 dX7_isPlace_3 ?_
  obtain ⟨r1, u1, c1, h⟩ := mB_some h
  refine z_callSI hC kC_X7_in kM_X7_79 (m_X7_in hC.dis x0.toInt64 0 17 u c1) rfl (Nat.le_of_ble_eq_true rfl) (Nat.le_of_ble_eq_true rfl) (Nat.le_of_ble_eq_true rfl) rfl dX7_isPlace_6 ?_
  obtain ⟨g2, h⟩ := gd_some h
  obtain rfl := Option.some.inj h
  exact z_zret hC hE g2 dX7_isPlace_9
theorem m_X7_isPlace {l : Launch} {dC : Nat → ClassId} {dI : Nat → Nat → Nat} {dA : Nat → ClassId} {as : Nat → Nat} (hD : mDis as) (x0 : Int32) (u : MU) {r : Int32} {v : MU} (h : f_X7_isPlace x0 u = some (r, v)) : mMI l dC dI dA as yX7_isPlace cX7_isPlace 1 .boolean 1 25 [.int x0] u r v := mMIof RX7 [some (.int x0)] hD (by decide +kernel) rfl (Nat.le_of_ble_eq_true rfl) rfl (fun C e1 e2 e3 e4 e5 hC hE => by subst e5; exact s_X7_isPlace_0 hC (res := (r, v)) hE x0 u h)
set_option maxHeartbeats 4000000 in
set_option maxRecDepth 100000 in
theorem s_X7_say_0 {C : mCtx} (hC : mOK cX7_say RX7 3 2 45 C) {res : Int32 × MU} (hE : mEndI C .int res.1 res.2) (x1 : Int32) (x2 : Int32) (u : MU) (h : f_X7_say x1 x2 u = some res) : wat C u 0 [some (.ref (cS C 88)), some (.int x1), some (.int x2)] [] := by
  unfold f_X7_say at h
  refine z_iload_n hC dX7_say_0 rfl rfl ?_
  obtain ⟨r1, u1, c1, h⟩ := mB_some h
  refine z_callSI hC kC_X7_isRoutine kM_X7_87 (m_X7_isRoutine hC.dis x1 u c1) rfl (Nat.le_of_ble_eq_true rfl) (Nat.le_of_ble_eq_true rfl) (Nat.le_of_ble_eq_true rfl) rfl dX7_say_1 ?_
  refine z_if_ne hC 9 dX7_say_4 (by decide) (fun b2 => ?_) (fun b2 => ?_)
  · rw [if_neg b2] at h
    refine z_iload_n hC dX7_say_9 rfl rfl ?_
    refine z_i2l hC dX7_say_10 ?_
    refine z_ldc2 hC kN_X7_91 dX7_say_11 ?_
    refine z_ldc2 hC kN_X7_93 dX7_say_14 ?_
    obtain ⟨r3, u3, c3, h⟩ := mB_some h
    refine z_callSI hC kC_X7_in kM_X7_79 (m_X7_in hC.dis x2.toInt64 33 126 u1 c3) rfl (Nat.le_of_ble_eq_true rfl) (Nat.le_of_ble_eq_true rfl) (Nat.le_of_ble_eq_true rfl) rfl dX7_say_17 ?_
    refine z_if_ne hC 26 dX7_say_20 (by decide) (fun b4 => ?_) (fun b4 => ?_)
    · rw [if_neg b4] at h
      refine z_aload_n hC dX7_say_26 rfl rfl ?_
      refine z_getR hC 90 kF_X7_13 sh_88 rfl dX7_say_27 ?_
      refine z_iload_n hC dX7_say_30 rfl rfl ?_
      obtain ⟨g5, h⟩ := gd_some h
      refine z_iald hC sh_90 g5 dX7_say_31 ?_
      refine z_bipush (v := nI 30) hC dX7_say_32 (by decide) ?_
      refine z_icmp_ne hC 40 dX7_say_34 (by decide) (fun b6 => ?_) (fun b6 => ?_)
      · rw [if_neg b6] at h
        refine z_aload_n hC dX7_say_40 rfl rfl ?_
        refine z_getR hC 89 kF_X7_7 sh_88 rfl dX7_say_41 ?_
        refine z_bipush (v := nI 30) hC dX7_say_44 (by decide) ?_
        refine z_iload_n hC dX7_say_46 rfl rfl ?_
        refine z_imul hC dX7_say_47 ?_
        refine z_aload_n hC dX7_say_48 rfl rfl ?_
        refine z_getR hC 90 kF_X7_13 sh_88 rfl dX7_say_49 ?_
        refine z_iload_n hC dX7_say_52 rfl rfl ?_
        obtain ⟨g7, h⟩ := gd_some h
        refine z_iald hC sh_90 g7 dX7_say_53 ?_
        refine z_iadd hC dX7_say_54 ?_
        refine z_iload_n hC dX7_say_55 rfl rfl ?_
        obtain ⟨g8, h⟩ := gd_some h
        obtain ⟨u9, e9, h⟩ := mS_some h
        refine y_iast hC sh_89 g8 dX7_say_56 e9 ?_
        refine z_aload_n hC dX7_say_57 rfl rfl ?_
        refine z_getR hC 90 kF_X7_13 sh_88 rfl dX7_say_58 ?_
        refine z_iload_n hC dX7_say_61 rfl rfl ?_
        refine z_dup2 hC dX7_say_62 rfl rfl ?_
        obtain ⟨g10, h⟩ := gd_some h
        refine z_iald hC sh_90 g10 dX7_say_63 ?_
        refine z_iconst (v := 1) hC dX7_say_64 (by decide) ?_
        refine z_iadd hC dX7_say_65 ?_
        obtain ⟨g11, h⟩ := gd_some h
        obtain ⟨u12, e12, h⟩ := mS_some h
        refine y_iast hC sh_90 g11 dX7_say_66 e12 ?_
        refine z_aload_n hC dX7_say_67 rfl rfl ?_
        refine z_getR hC 90 kF_X7_13 sh_88 rfl dX7_say_68 ?_
        refine z_iload_n hC dX7_say_71 rfl rfl ?_
        obtain ⟨g13, h⟩ := gd_some h
        refine z_iald hC sh_90 g13 dX7_say_72 ?_
        obtain rfl := Option.some.inj h
        exact z_iret hC hE dX7_say_73
      · rw [if_pos b6] at h
        refine z_bipush (v := (-4)) hC dX7_say_37 (by decide) ?_
        obtain rfl := Option.some.inj h
        exact z_iret hC hE dX7_say_39
    · rw [if_pos b4] at h
      refine z_bipush (v := (-2)) hC dX7_say_23 (by decide) ?_
      obtain rfl := Option.some.inj h
      exact z_iret hC hE dX7_say_25
  · rw [if_pos b2] at h
    refine z_iconst (v := (-1)) hC dX7_say_7 (by decide) ?_
    obtain rfl := Option.some.inj h
    exact z_iret hC hE dX7_say_8
theorem m_X7_say {l : Launch} {dC : Nat → ClassId} {dI : Nat → Nat → Nat} {dA : Nat → ClassId} {as : Nat → Nat} (hD : mDis as) (x1 : Int32) (x2 : Int32) (u : MU) {r : Int32} {v : MU} (h : f_X7_say x1 x2 u = some (r, v)) : mMI l dC dI dA as yX7_say cX7_say 3 .int 2 45 [.ref (as 88), .int x1, .int x2] u r v := mMIof RX7 [some (.ref (as 88)), some (.int x1), some (.int x2)] hD (by decide +kernel) rfl (Nat.le_of_ble_eq_true rfl) rfl (fun C e1 e2 e3 e4 e5 hC hE => by subst e5; exact s_X7_say_0 hC (res := (r, v)) hE x1 x2 u h)
set_option maxHeartbeats 4000000 in
set_option maxRecDepth 100000 in
theorem s_X7_wipe_0 {C : mCtx} (hC : mOK cX7_wipe RX7 3 2 45 C) {res : Int32 × MU} (hE : mEndI C .int res.1 res.2) (x1 : Int32) (u : MU) (h : f_X7_wipe x1 u = some res) : wat C u 0 [some (.ref (cS C 88)), some (.int x1), none] [] := by
  unfold f_X7_wipe at h
  refine z_iload_n hC dX7_wipe_0 rfl rfl ?_
  obtain ⟨r1, u1, c1, h⟩ := mB_some h
  refine z_callSI hC kC_X7_isRoutine kM_X7_87 (m_X7_isRoutine hC.dis x1 u c1) rfl (Nat.le_of_ble_eq_true rfl) (Nat.le_of_ble_eq_true rfl) (Nat.le_of_ble_eq_true rfl) rfl dX7_wipe_1 ?_
  refine z_if_ne hC 9 dX7_wipe_4 (by decide) (fun b2 => ?_) (fun b2 => ?_)
  · rw [if_neg b2] at h
    refine z_aload_n hC dX7_wipe_9 rfl rfl ?_
    refine z_getR hC 90 kF_X7_13 sh_88 rfl dX7_wipe_10 ?_
    refine z_iload_n hC dX7_wipe_13 rfl rfl ?_
    obtain ⟨g3, h⟩ := gd_some h
    refine z_iald hC sh_90 g3 dX7_wipe_14 ?_
    refine y_istore_n hC [some (.ref (cS C 88)), some (.int x1), some (.int (u1 90 x1.toNatClampNeg))] dX7_wipe_15 rfl rfl (Nat.le_of_ble_eq_true rfl) (Nat.le_of_ble_eq_true rfl) rfl ?_
    refine z_aload_n hC dX7_wipe_16 rfl rfl ?_
    refine z_getR hC 90 kF_X7_13 sh_88 rfl dX7_wipe_17 ?_
    refine z_iload_n hC dX7_wipe_20 rfl rfl ?_
    refine z_iconst (v := 0) hC dX7_wipe_21 (by decide) ?_
    obtain ⟨g4, h⟩ := gd_some h
    obtain ⟨u5, e5, h⟩ := mS_some h
    refine y_iast hC sh_90 g4 dX7_wipe_22 e5 ?_
    refine z_iload_n hC dX7_wipe_23 rfl rfl ?_
    obtain rfl := Option.some.inj h
    exact z_iret hC hE dX7_wipe_24
  · rw [if_pos b2] at h
    refine z_iconst (v := (-1)) hC dX7_wipe_7 (by decide) ?_
    obtain rfl := Option.some.inj h
    exact z_iret hC hE dX7_wipe_8
theorem m_X7_wipe {l : Launch} {dC : Nat → ClassId} {dI : Nat → Nat → Nat} {dA : Nat → ClassId} {as : Nat → Nat} (hD : mDis as) (x1 : Int32) (u : MU) {r : Int32} {v : MU} (h : f_X7_wipe x1 u = some (r, v)) : mMI l dC dI dA as yX7_wipe cX7_wipe 3 .int 2 45 [.ref (as 88), .int x1] u r v := mMIof RX7 [some (.ref (as 88)), some (.int x1), none] hD (by decide +kernel) rfl (Nat.le_of_ble_eq_true rfl) rfl (fun C e1 e2 e3 e4 e5 hC hE => by subst e5; exact s_X7_wipe_0 hC (res := (r, v)) hE x1 u h)
set_option maxHeartbeats 4000000 in
set_option maxRecDepth 100000 in
theorem s_X7_here_0 {C : mCtx} (hC : mOK cX7_here RX7 1 0 0 C) {res : Int32 × MU} (hE : mEndI C .int res.1 res.2) (u : MU) (h : f_X7_here u = some res) : wat C u 0 [some (.ref (cS C 88))] [] := by
  unfold f_X7_here at h
  refine z_aload_n hC dX7_here_0 rfl rfl ?_
  refine z_getI hC kF_X7_95 sh_88 rfl dX7_here_1 ?_
  refine z_aload_n hC dX7_here_4 rfl rfl ?_
  refine z_getR hC 90 kF_X7_13 sh_88 rfl dX7_here_5 ?_
  refine z_aload_n hC dX7_here_8 rfl rfl ?_
  refine z_getI hC kF_X7_99 sh_88 rfl dX7_here_9 ?_
  obtain ⟨g1, h⟩ := gd_some h
  refine z_iald hC sh_90 g1 dX7_here_12 ?_
  refine z_icmp_ge hC 36 dX7_here_13 (by decide) (fun b2 => ?_) (fun b2 => ?_)
  · rw [if_pos b2] at h
    refine z_iconst (v := 0) hC dX7_here_36 (by decide) ?_
    obtain rfl := Option.some.inj h
    exact z_iret hC hE dX7_here_37
  · rw [if_neg b2] at h
    refine z_aload_n hC dX7_here_16 rfl rfl ?_
    refine z_getR hC 89 kF_X7_7 sh_88 rfl dX7_here_17 ?_
    refine z_bipush (v := nI 30) hC dX7_here_20 (by decide) ?_
    refine z_aload_n hC dX7_here_22 rfl rfl ?_
    refine z_getI hC kF_X7_99 sh_88 rfl dX7_here_23 ?_
    refine z_imul hC dX7_here_26 ?_
    refine z_aload_n hC dX7_here_27 rfl rfl ?_
    refine z_getI hC kF_X7_95 sh_88 rfl dX7_here_28 ?_
    refine z_iadd hC dX7_here_31 ?_
    obtain ⟨g3, h⟩ := gd_some h
    refine z_iald hC sh_89 g3 dX7_here_32 ?_
    refine z_goto hC 37 dX7_here_33 (by decide) ?_
    obtain rfl := Option.some.inj h
    exact z_iret hC hE dX7_here_37
theorem m_X7_here {l : Launch} {dC : Nat → ClassId} {dI : Nat → Nat → Nat} {dA : Nat → ClassId} {as : Nat → Nat} (hD : mDis as) (u : MU) {r : Int32} {v : MU} (h : f_X7_here u = some (r, v)) : mMI l dC dI dA as yX7_here cX7_here 1 .int 0 0 [.ref (as 88)] u r v := mMIof RX7 [some (.ref (as 88))] hD (by decide +kernel) rfl (Nat.le_of_ble_eq_true rfl) rfl (fun C e1 e2 e3 e4 e5 hC hE => by subst e5; exact s_X7_here_0 hC (res := (r, v)) hE u h)
set_option maxHeartbeats 4000000 in
set_option maxRecDepth 100000 in
theorem s_X7_isFigure_0 {C : mCtx} (hC : mOK cX7_isFigure RX7 1 0 0 C) {res : Int32 × MU} (hE : mEndI C .boolean res.1 res.2) (x0 : Int32) (u : MU) (h : f_X7_isFigure x0 u = some res) : wat C u 0 [some (.int x0)] [] := by
  unfold f_X7_isFigure at h
  refine z_iload_n hC dX7_isFigure_0 rfl rfl ?_
  refine z_bipush (v := nI 48) hC dX7_isFigure_1 (by decide) ?_
  refine z_icmp_lt hC 16 dX7_isFigure_3 (by decide) (fun b1 => ?_) (fun b1 => ?_)
  · rw [if_pos b1] at h
    refine z_iconst (v := 0) hC dX7_isFigure_16 (by decide) ?_
    obtain rfl := Option.some.inj h
    exact z_zret hC hE rfl dX7_isFigure_17
  · rw [if_neg b1] at h
    refine z_iload_n hC dX7_isFigure_6 rfl rfl ?_
    refine z_bipush (v := nI 57) hC dX7_isFigure_7 (by decide) ?_
    refine z_icmp_gt hC 16 dX7_isFigure_9 (by decide) (fun b2 => ?_) (fun b2 => ?_)
    · rw [if_pos b2] at h
      refine z_iconst (v := 0) hC dX7_isFigure_16 (by decide) ?_
      obtain rfl := Option.some.inj h
      exact z_zret hC hE rfl dX7_isFigure_17
    · rw [if_neg b2] at h
      refine z_iconst (v := 1) hC dX7_isFigure_12 (by decide) ?_
      refine z_goto hC 17 dX7_isFigure_13 (by decide) ?_
      obtain rfl := Option.some.inj h
      exact z_zret hC hE rfl dX7_isFigure_17
theorem m_X7_isFigure {l : Launch} {dC : Nat → ClassId} {dI : Nat → Nat → Nat} {dA : Nat → ClassId} {as : Nat → Nat} (hD : mDis as) (x0 : Int32) (u : MU) {r : Int32} {v : MU} (h : f_X7_isFigure x0 u = some (r, v)) : mMI l dC dI dA as yX7_isFigure cX7_isFigure 1 .boolean 0 0 [.int x0] u r v := mMIof RX7 [some (.int x0)] hD (by decide +kernel) rfl (Nat.le_of_ble_eq_true rfl) rfl (fun C e1 e2 e3 e4 e5 hC hE => by subst e5; exact s_X7_isFigure_0 hC (res := (r, v)) hE x0 u h)
set_option maxHeartbeats 4000000 in
set_option maxRecDepth 100000 in
theorem s_X7_isLetter_0 {C : mCtx} (hC : mOK cX7_isLetter RX7 1 0 0 C) {res : Int32 × MU} (hE : mEndI C .boolean res.1 res.2) (x0 : Int32) (u : MU) (h : f_X7_isLetter x0 u = some res) : wat C u 0 [some (.int x0)] [] := by
  unfold f_X7_isLetter at h
  refine z_iload_n hC dX7_isLetter_0 rfl rfl ?_
  refine z_bipush (v := nI 97) hC dX7_isLetter_1 (by decide) ?_
  refine z_icmp_lt hC 16 dX7_isLetter_3 (by decide) (fun b1 => ?_) (fun b1 => ?_)
  · rw [if_pos b1] at h
    refine z_iconst (v := 0) hC dX7_isLetter_16 (by decide) ?_
    obtain rfl := Option.some.inj h
    exact z_zret hC hE rfl dX7_isLetter_17
  · rw [if_neg b1] at h
    refine z_iload_n hC dX7_isLetter_6 rfl rfl ?_
    refine z_bipush (v := nI 102) hC dX7_isLetter_7 (by decide) ?_
    refine z_icmp_gt hC 16 dX7_isLetter_9 (by decide) (fun b2 => ?_) (fun b2 => ?_)
    · rw [if_pos b2] at h
      refine z_iconst (v := 0) hC dX7_isLetter_16 (by decide) ?_
      obtain rfl := Option.some.inj h
      exact z_zret hC hE rfl dX7_isLetter_17
    · rw [if_neg b2] at h
      refine z_iconst (v := 1) hC dX7_isLetter_12 (by decide) ?_
      refine z_goto hC 17 dX7_isLetter_13 (by decide) ?_
      obtain rfl := Option.some.inj h
      exact z_zret hC hE rfl dX7_isLetter_17
theorem m_X7_isLetter {l : Launch} {dC : Nat → ClassId} {dI : Nat → Nat → Nat} {dA : Nat → ClassId} {as : Nat → Nat} (hD : mDis as) (x0 : Int32) (u : MU) {r : Int32} {v : MU} (h : f_X7_isLetter x0 u = some (r, v)) : mMI l dC dI dA as yX7_isLetter cX7_isLetter 1 .boolean 0 0 [.int x0] u r v := mMIof RX7 [some (.int x0)] hD (by decide +kernel) rfl (Nat.le_of_ble_eq_true rfl) rfl (fun C e1 e2 e3 e4 e5 hC hE => by subst e5; exact s_X7_isLetter_0 hC (res := (r, v)) hE x0 u h)
set_option maxHeartbeats 4000000 in
set_option maxRecDepth 100000 in
theorem s_X7_index_48 {C : mCtx} (hC : mOK cX7_index RX7 4 1 20 C) {res : Int32 × MU} (hE : mEndI C .int res.1 res.2) (x1 : Int32) (x2 : Int32) (x3 : Int32) (u : MU) (h : b_X7_index_48 x1 x2 x3 u = some res) : wat C u 48 [some (.ref (cS C 88)), some (.int x1), some (.int x2), some (.int x3)] [] := by
  unfold b_X7_index_48 at h
  refine z_aload_n hC dX7_index_48 rfl rfl ?_
  refine z_dup hC dX7_index_49 rfl ?_
  refine z_getI hC kF_X7_95 sh_88 rfl dX7_index_50 ?_
  refine z_iconst (v := 1) hC dX7_index_53 (by decide) ?_
  refine z_iadd hC dX7_index_54 ?_
  obtain ⟨u1, e1, h⟩ := mS_some h
  refine y_putI hC kP_X7_95 sh_88 rfl dX7_index_55 e1 ?_
  refine z_iload_n hC dX7_index_58 rfl rfl ?_
  refine z_iload_n hC dX7_index_59 rfl rfl ?_
  refine z_bipush (v := nI 112) hC dX7_index_60 (by decide) ?_
  refine z_icmp_ne hC 69 dX7_index_62 (by decide) (fun b2 => ?_) (fun b2 => ?_)
  · rw [if_neg b2] at h
    refine z_iload_n hC dX7_index_69 rfl rfl ?_
    refine z_bipush (v := nI 48) hC dX7_index_70 (by decide) ?_
    refine z_isub hC dX7_index_72 ?_
    refine z_iadd hC dX7_index_73 ?_
    refine z_bipush (v := nI 12) hC dX7_index_74 (by decide) ?_
    refine y_irem hC dX7_index_76 (by decide) ?_
    obtain rfl := Option.some.inj h
    exact z_iret hC hE dX7_index_77
  · rw [if_pos b2] at h
    refine z_iload_n hC dX7_index_65 rfl rfl ?_
    refine z_goto hC 73 dX7_index_66 (by decide) ?_
    refine z_iadd hC dX7_index_73 ?_
    refine z_bipush (v := nI 12) hC dX7_index_74 (by decide) ?_
    refine y_irem hC dX7_index_76 (by decide) ?_
    obtain rfl := Option.some.inj h
    exact z_iret hC hE dX7_index_77
set_option maxHeartbeats 4000000 in
set_option maxRecDepth 100000 in
theorem s_X7_index_2 {C : mCtx} (hC : mOK cX7_index RX7 4 1 20 C) {res : Int32 × MU} (hE : mEndI C .int res.1 res.2) (x1 : Int32) (k2 : Int32 → MU → mR) (hk2 : ∀ (x2 : Int32) (u : MU), k2 x2 u = some res → wat C u 2 [some (.ref (cS C 88)), some (.int x1), some (.int x2), none] []) (x2 : Int32) (u : MU) (h : b_X7_index_2 k2 x1 x2 u = some res) : wat C u 2 [some (.ref (cS C 88)), some (.int x1), some (.int x2), none] [] := by
  unfold b_X7_index_2 at h
  refine z_aload_n hC dX7_index_2 rfl rfl ?_
  obtain ⟨r1, u1, c1, h⟩ := mB_some h
  refine z_callI hC kC_X7_here kM_X7_101 sh_88 TX7 39 rfl (m_X7_here hC.dis u c1) rfl (Nat.le_of_ble_eq_true rfl) (Nat.le_of_ble_eq_true rfl) (Nat.le_of_ble_eq_true rfl) rfl dX7_index_3 ?_
  refine z_bipush (v := nI 62) hC dX7_index_6 (by decide) ?_
  refine z_icmp_ne hC 27 dX7_index_8 (by decide) (fun b2 => ?_) (fun b2 => ?_)
  · rw [if_neg b2] at h
    refine z_aload_n hC dX7_index_27 rfl rfl ?_
    obtain ⟨r3, u3, c3, h⟩ := mB_some h
    refine z_callI hC kC_X7_here kM_X7_101 sh_88 TX7 39 rfl (m_X7_here hC.dis u1 c3) rfl (Nat.le_of_ble_eq_true rfl) (Nat.le_of_ble_eq_true rfl) (Nat.le_of_ble_eq_true rfl) rfl dX7_index_28 ?_
    refine y_istore_n hC [some (.ref (cS C 88)), some (.int x1), some (.int x2), some (.int r3)] dX7_index_31 rfl rfl (Nat.le_of_ble_eq_true rfl) (Nat.le_of_ble_eq_true rfl) rfl ?_
    refine z_iload_n hC dX7_index_32 rfl rfl ?_
    obtain ⟨r4, u4, c4, h⟩ := mB_some h
    refine z_callSI hC kC_X7_isFigure kM_X7_105 (m_X7_isFigure hC.dis r3 u3 c4) rfl (Nat.le_of_ble_eq_true rfl) (Nat.le_of_ble_eq_true rfl) (Nat.le_of_ble_eq_true rfl) rfl dX7_index_33 ?_
    refine z_if_ne hC 48 dX7_index_36 (by decide) (fun b5 => ?_) (fun b5 => ?_)
    · rw [if_neg b5] at h
      exact s_X7_index_48 hC hE x1 x2 r3 u4 h
    · rw [if_pos b5] at h
      refine z_iload_n hC dX7_index_39 rfl rfl ?_
      refine z_bipush (v := nI 112) hC dX7_index_40 (by decide) ?_
      refine z_icmp_eq hC 48 dX7_index_42 (by decide) (fun b6 => ?_) (fun b6 => ?_)
      · rw [if_pos b6] at h
        exact s_X7_index_48 hC hE x1 x2 r3 u4 h
      · rw [if_neg b6] at h
        refine z_bipush (v := (-6)) hC dX7_index_45 (by decide) ?_
        obtain rfl := Option.some.inj h
        exact z_iret hC hE dX7_index_47
  · rw [if_pos b2] at h
    refine y_iinc hC (x2 + 1) [some (.ref (cS C 88)), some (.int x1), some (.int (x2 + 1)), none] dX7_index_11 rfl rfl rfl (Nat.le_of_ble_eq_true rfl) rfl ?_
    refine z_aload_n hC dX7_index_14 rfl rfl ?_
    refine z_dup hC dX7_index_15 rfl ?_
    refine z_getI hC kF_X7_95 sh_88 rfl dX7_index_16 ?_
    refine z_iconst (v := 1) hC dX7_index_19 (by decide) ?_
    refine z_iadd hC dX7_index_20 ?_
    obtain ⟨u7, e7, h⟩ := mS_some h
    refine y_putI hC kP_X7_95 sh_88 rfl dX7_index_21 e7 ?_
    refine z_goto hC 2 dX7_index_24 (by decide) ?_
    exact hk2 (x2 + 1) u7 h
set_option maxHeartbeats 4000000 in
set_option maxRecDepth 100000 in
theorem t_X7_index_2 {C : mCtx} (hC : mOK cX7_index RX7 4 1 20 C) {res : Int32 × MU} (hE : mEndI C .int res.1 res.2) (x1 : Int32) : ∀ (n : Nat) (x2 : Int32) (u : MU), l_X7_index_2 x1 n x2 u = some res → wat C u 2 [some (.ref (cS C 88)), some (.int x1), some (.int x2), none] [] := by
  intro n
  induction n with
  | zero => intro x2 u h; exact absurd h (by simp [l_X7_index_2])
  | succ n ih =>
    intro x2 u h
    exact s_X7_index_2 hC hE x1 (fun x2 u => l_X7_index_2 x1 n x2 u) ih x2 u h
set_option maxHeartbeats 4000000 in
set_option maxRecDepth 100000 in
theorem s_X7_index_0 {C : mCtx} (hC : mOK cX7_index RX7 4 1 20 C) {res : Int32 × MU} (hE : mEndI C .int res.1 res.2) (x1 : Int32) (u : MU) (h : f_X7_index x1 u = some res) : wat C u 0 [some (.ref (cS C 88)), some (.int x1), none, none] [] := by
  unfold f_X7_index at h
  refine z_iconst (v := 0) hC dX7_index_0 (by decide) ?_
  refine y_istore_n hC [some (.ref (cS C 88)), some (.int x1), some (.int 0), none] dX7_index_1 rfl rfl (Nat.le_of_ble_eq_true rfl) (Nat.le_of_ble_eq_true rfl) rfl ?_
  exact t_X7_index_2 hC hE x1 FU 0 u h
theorem m_X7_index {l : Launch} {dC : Nat → ClassId} {dI : Nat → Nat → Nat} {dA : Nat → ClassId} {as : Nat → Nat} (hD : mDis as) (x1 : Int32) (u : MU) {r : Int32} {v : MU} (h : f_X7_index x1 u = some (r, v)) : mMI l dC dI dA as yX7_index cX7_index 4 .int 1 20 [.ref (as 88), .int x1] u r v := mMIof RX7 [some (.ref (as 88)), some (.int x1), none, none] hD (by decide +kernel) rfl (Nat.le_of_ble_eq_true rfl) rfl (fun C e1 e2 e3 e4 e5 hC hE => by subst e5; exact s_X7_index_0 hC (res := (r, v)) hE x1 u h)
