set_option maxHeartbeats 4000000 in
set_option maxRecDepth 100000 in
theorem s_X3_perform_103 {C : mCtx} (hC : mOK cX3_perform RX3 8 25 687 C) {res : Int32 × MU} (hE : mEndI C .boolean res.1 res.2) (q2 : Nat) (hq2 : okX4 q2) (q3 : Nat) (hq3 : okI q3) (k26 : Int32 → MU → mR) (hk26 : ∀ (x5 : Int32) (u : MU), k26 x5 u = some res → wat C u 26 [some (.ref (cS C 27)), some (.ref (cS C 1)), some (.ref (cS C q2)), some (.ref (cS C q3)), none, some (.int x5), none, none] []) (x5 : Int32) (u : MU) (h : b_X3_perform_103 k26 q2 q3 x5 u = some res) : wat C u 103 [some (.ref (cS C 27)), some (.ref (cS C 1)), some (.ref (cS C q2)), some (.ref (cS C q3)), none, some (.int x5), none, none] [] := by
  unfold b_X3_perform_103 at h
  refine z_aload_n hC dX3_perform_103 rfl rfl ?_
  refine z_dup hC dX3_perform_104 rfl ?_
  refine z_getI hC kF_X3_22 sh_27 rfl dX3_perform_105 ?_
  refine z_aload_n hC dX3_perform_108 rfl rfl ?_
  refine z_getI hC kF_X3_25 sh_27 rfl dX3_perform_109 ?_
  refine z_iadd hC dX3_perform_112 ?_
  obtain ⟨u1, e1, h⟩ := mS_some h
  refine y_putI hC kP_X3_22 sh_27 rfl dX3_perform_113 e1 ?_
  refine y_iinc hC (x5 + 1) [some (.ref (cS C 27)), some (.ref (cS C 1)), some (.ref (cS C q2)), some (.ref (cS C q3)), none, some (.int (x5 + 1)), none, none] dX3_perform_116 rfl rfl rfl (Nat.le_of_ble_eq_true rfl) rfl ?_
  refine z_goto hC 26 dX3_perform_119 (by decide) ?_
  exact hk26 (x5 + 1) u1 h
set_option maxHeartbeats 4000000 in
set_option maxRecDepth 100000 in
theorem s_X3_perform_26 {C : mCtx} (hC : mOK cX3_perform RX3 8 25 687 C) {res : Int32 × MU} (hE : mEndI C .boolean res.1 res.2) (q2 : Nat) (hq2 : okX4 q2) (q3 : Nat) (hq3 : okI q3) (k26 : Int32 → MU → mR) (hk26 : ∀ (x5 : Int32) (u : MU), k26 x5 u = some res → wat C u 26 [some (.ref (cS C 27)), some (.ref (cS C 1)), some (.ref (cS C q2)), some (.ref (cS C q3)), none, some (.int x5), none, none] []) (x5 : Int32) (u : MU) (h : b_X3_perform_26 k26 q2 q3 x5 u = some res) : wat C u 26 [some (.ref (cS C 27)), some (.ref (cS C 1)), some (.ref (cS C q2)), some (.ref (cS C q3)), none, some (.int x5), none, none] [] := by
  unfold b_X3_perform_26 at h
  refine z_iload hC dX3_perform_26 rfl ?_
  refine z_aload_n hC dX3_perform_28 rfl rfl ?_
  refine z_getI hC kF_X3_34 hq2.1 rfl dX3_perform_29 ?_
  refine z_icmp_ge hC 122 dX3_perform_32 (by decide) (fun b1 => ?_) (fun b1 => ?_)
  · rw [if_pos b1] at h
    refine z_iconst (v := 1) hC dX3_perform_122 (by decide) ?_
    obtain rfl := Option.some.inj h
    exact z_zret hC hE rfl dX3_perform_123
  · rw [if_neg b1] at h
    refine z_aload_n hC dX3_perform_35 rfl rfl ?_
    refine z_iload hC dX3_perform_36 rfl ?_
    obtain ⟨g2, h⟩ := gd_some h
    refine z_iald hC hq3 g2 dX3_perform_38 ?_
    refine y_istore hC [some (.ref (cS C 27)), some (.ref (cS C 1)), some (.ref (cS C q2)), some (.ref (cS C q3)), none, some (.int x5), some (.int (u q3 x5.toNatClampNeg)), none] dX3_perform_39 rfl (Nat.le_of_ble_eq_true rfl) (Nat.le_of_ble_eq_true rfl) rfl ?_
    refine z_aload_n hC dX3_perform_41 rfl rfl ?_
    refine z_iconst (v := 0) hC dX3_perform_42 (by decide) ?_
    obtain ⟨u3, e3, h⟩ := mS_some h
    refine y_putI hC kP_X3_25 sh_27 rfl dX3_perform_43 e3 ?_
    refine z_aload_n hC dX3_perform_46 rfl rfl ?_
    refine z_aload_n hC dX3_perform_47 rfl rfl ?_
    refine z_aload_n hC dX3_perform_48 rfl rfl ?_
    refine z_getR hC (q2 + 1) kF_X3_39 hq2.1 rfl dX3_perform_49 ?_
    refine z_iload hC dX3_perform_52 rfl ?_
    obtain ⟨g4, h⟩ := gd_some h
    refine z_iald hC hq2.2.1 g4 dX3_perform_54 ?_
    refine z_aload_n hC dX3_perform_55 rfl rfl ?_
    refine z_getR hC (q2 + 2) kF_X3_42 hq2.1 rfl dX3_perform_56 ?_
    refine z_iload hC dX3_perform_59 rfl ?_
    obtain ⟨g5, h⟩ := gd_some h
    refine z_iald hC hq2.2.2 g5 dX3_perform_61 ?_
    refine z_iconst (v := 1) hC dX3_perform_62 (by decide) ?_
    obtain ⟨r6, u6, c6, h⟩ := mB_some h
    refine z_callI hC kC_X3_doRoutine kM_X3_45 sh_27 TX3 5 rfl (m_X3_doRoutine 21 hC.dis (u3 (q2 + 1) (u q3 x5.toNatClampNeg).toNatClampNeg) (u3 (q2 + 2) (u q3 x5.toNatClampNeg).toNatClampNeg) 1 u3 c6) rfl (Nat.le_of_ble_eq_true rfl) (Nat.le_of_ble_eq_true rfl) (Nat.le_of_ble_eq_true rfl) rfl dX3_perform_63 ?_
    refine y_istore hC [some (.ref (cS C 27)), some (.ref (cS C 1)), some (.ref (cS C q2)), some (.ref (cS C q3)), none, some (.int x5), some (.int (u q3 x5.toNatClampNeg)), some (.int r6)] dX3_perform_66 rfl (Nat.le_of_ble_eq_true rfl) (Nat.le_of_ble_eq_true rfl) rfl ?_
    refine z_iload hC dX3_perform_68 rfl ?_
    refine z_iconst (v := nI 2) hC dX3_perform_70 (by decide) ?_
    refine z_icmp_ne hC 76 dX3_perform_71 (by decide) (fun b7 => ?_) (fun b7 => ?_)
    · rw [if_neg b7] at h
      refine z_iload hC dX3_perform_76 rfl ?_
      refine z_iconst (v := 1) hC dX3_perform_78 (by decide) ?_
      refine z_icmp_ne hC 103 dX3_perform_79 (by decide) (fun b8 => ?_) (fun b8 => ?_)
      · rw [if_neg b8] at h
        refine z_mask [true, true, true, true, false, true, false, false] ?_
        exact s_X3_perform_103 hC hE q2 hq2 q3 hq3 k26 hk26 x5 u6 h
      · rw [if_pos b8] at h
        refine z_aload_n hC dX3_perform_82 rfl rfl ?_
        refine z_getR hC 29 kF_X3_15 sh_27 rfl dX3_perform_83 ?_
        refine z_aload_n hC dX3_perform_86 rfl rfl ?_
        refine z_getI hC kF_X3_18 sh_27 rfl dX3_perform_87 ?_
        refine z_iload hC dX3_perform_90 rfl ?_
        obtain ⟨g9, h⟩ := gd_some h
        obtain ⟨u10, e10, h⟩ := mS_some h
        refine y_iast hC sh_29 g9 dX3_perform_92 e10 ?_
        refine z_aload_n hC dX3_perform_93 rfl rfl ?_
        refine z_dup hC dX3_perform_94 rfl ?_
        refine z_getI hC kF_X3_18 sh_27 rfl dX3_perform_95 ?_
        refine z_iconst (v := 1) hC dX3_perform_98 (by decide) ?_
        refine z_iadd hC dX3_perform_99 ?_
        obtain ⟨u11, e11, h⟩ := mS_some h
        refine y_putI hC kP_X3_18 sh_27 rfl dX3_perform_100 e11 ?_
        refine z_mask [true, true, true, true, false, true, false, false] ?_
        exact s_X3_perform_103 hC hE q2 hq2 q3 hq3 k26 hk26 x5 u11 h
    · rw [if_pos b7] at h
      refine z_iconst (v := 0) hC dX3_perform_74 (by decide) ?_
      obtain rfl := Option.some.inj h
      exact z_zret hC hE rfl dX3_perform_75
set_option maxHeartbeats 4000000 in
set_option maxRecDepth 100000 in
theorem t_X3_perform_26 {C : mCtx} (hC : mOK cX3_perform RX3 8 25 687 C) {res : Int32 × MU} (hE : mEndI C .boolean res.1 res.2) (q2 : Nat) (hq2 : okX4 q2) (q3 : Nat) (hq3 : okI q3) : ∀ (n : Nat) (x5 : Int32) (u : MU), l_X3_perform_26 q2 q3 n x5 u = some res → wat C u 26 [some (.ref (cS C 27)), some (.ref (cS C 1)), some (.ref (cS C q2)), some (.ref (cS C q3)), none, some (.int x5), none, none] [] := by
  intro n
  induction n with
  | zero => intro x5 u h; exact absurd h (by simp [l_X3_perform_26])
  | succ n ih =>
    intro x5 u h
    exact s_X3_perform_26 hC hE q2 hq2 q3 hq3 (fun x5 u => l_X3_perform_26 q2 q3 n x5 u) ih x5 u h
set_option maxHeartbeats 4000000 in
set_option maxRecDepth 100000 in
theorem s_X3_perform_0 {C : mCtx} (hC : mOK cX3_perform RX3 8 25 687 C) {res : Int32 × MU} (hE : mEndI C .boolean res.1 res.2) (q2 : Nat) (hq2 : okX4 q2) (q3 : Nat) (hq3 : okI q3) (q4 : Nat) (hq4 : okI q4) (u : MU) (h : f_X3_perform q2 q3 q4 u = some res) : wat C u 0 [some (.ref (cS C 27)), some (.ref (cS C 1)), some (.ref (cS C q2)), some (.ref (cS C q3)), some (.ref (cS C q4)), none, none, none] [] := by
  unfold f_X3_perform at h
  refine z_aload hC dX3_perform_0 rfl ?_
  refine z_iconst (v := 0) hC dX3_perform_2 (by decide) ?_
  refine z_aload_n hC dX3_perform_3 rfl rfl ?_
  refine z_getR hC 28 kF_X3_9 sh_27 rfl dX3_perform_4 ?_
  refine z_iconst (v := 0) hC dX3_perform_7 (by decide) ?_
  refine z_bipush (v := nI 18) hC dX3_perform_8 (by decide) ?_
  obtain ⟨g2, h⟩ := gd_some h
  obtain ⟨u1, e1, h⟩ := mS_some h
  refine y_copy hC kA_X3_28 hq4 sh_28 (by decide) (by decide) (by decide) (of_decide_eq_true g2) (by decide +kernel) (Nat.le_of_ble_eq_true rfl) (Nat.le_of_ble_eq_true rfl) dX3_perform_10 e1 ?_
  refine z_aload_n hC dX3_perform_13 rfl rfl ?_
  refine z_iconst (v := 0) hC dX3_perform_14 (by decide) ?_
  obtain ⟨u3, e3, h⟩ := mS_some h
  refine y_putI hC kP_X3_18 sh_27 rfl dX3_perform_15 e3 ?_
  refine z_aload_n hC dX3_perform_18 rfl rfl ?_
  refine z_iconst (v := 0) hC dX3_perform_19 (by decide) ?_
  obtain ⟨u4, e4, h⟩ := mS_some h
  refine y_putI hC kP_X3_22 sh_27 rfl dX3_perform_20 e4 ?_
  refine z_iconst (v := 0) hC dX3_perform_23 (by decide) ?_
  refine y_istore hC [some (.ref (cS C 27)), some (.ref (cS C 1)), some (.ref (cS C q2)), some (.ref (cS C q3)), some (.ref (cS C q4)), some (.int 0), none, none] dX3_perform_24 rfl (Nat.le_of_ble_eq_true rfl) (Nat.le_of_ble_eq_true rfl) rfl ?_
  refine z_mask [true, true, true, true, false, true, false, false] ?_
  exact t_X3_perform_26 hC hE q2 hq2 q3 hq3 FU 0 u4 h
theorem m_X3_perform {l : Launch} {dC : Nat → ClassId} {dI : Nat → Nat → Nat} {dA : Nat → ClassId} {as : Nat → Nat} (hD : mDis as) (q2 : Nat) (hq2 : okX4 q2) (q3 : Nat) (hq3 : okI q3) (q4 : Nat) (hq4 : okI q4) (u : MU) {r : Int32} {v : MU} (h : f_X3_perform q2 q3 q4 u = some (r, v)) : mMI l dC dI dA as yX3_perform cX3_perform 8 .boolean 25 687 [.ref (as 27), .ref (as 1), .ref (as q2), .ref (as q3), .ref (as q4)] u r v := mMIof RX3 [some (.ref (as 27)), some (.ref (as 1)), some (.ref (as q2)), some (.ref (as q3)), some (.ref (as q4)), none, none, none] hD (by decide +kernel) rfl (Nat.le_of_ble_eq_true rfl) rfl (fun C e1 e2 e3 e4 e5 hC hE => by subst e5; exact s_X3_perform_0 hC (res := (r, v)) hE q2 hq2 q3 hq3 q4 hq4 u h)
set_option maxHeartbeats 4000000 in
set_option maxRecDepth 100000 in
theorem s_X4_append_0 {C : mCtx} (hC : mOK cX4_append RX4 3 0 0 C) {res : Int32 × MU} (hE : mEndV C res.2) (q0 : Nat) (hq0 : okX4 q0) (x1 : Int32) (x2 : Int32) (u : MU) (h : f_X4_append q0 x1 x2 u = some res) : wat C u 0 [some (.ref (cS C q0)), some (.int x1), some (.int x2)] [] := by
  unfold f_X4_append at h
  refine z_aload_n hC dX4_append_0 rfl rfl ?_
  refine z_getI hC kF_X4_18 hq0.1 rfl dX4_append_1 ?_
  refine z_bipush (v := nI 16) hC dX4_append_4 (by decide) ?_
  refine z_icmp_ge hC 39 dX4_append_6 (by decide) (fun b1 => ?_) (fun b1 => ?_)
  · rw [if_pos b1] at h
    obtain rfl := Option.some.inj h
    exact z_vret hC hE dX4_append_39
  · rw [if_neg b1] at h
    refine z_aload_n hC dX4_append_9 rfl rfl ?_
    refine z_getR hC (q0 + 1) kF_X4_9 hq0.1 rfl dX4_append_10 ?_
    refine z_aload_n hC dX4_append_13 rfl rfl ?_
    refine z_getI hC kF_X4_18 hq0.1 rfl dX4_append_14 ?_
    refine z_iload_n hC dX4_append_17 rfl rfl ?_
    obtain ⟨g2, h⟩ := gd_some h
    obtain ⟨u3, e3, h⟩ := mS_some h
    refine y_iast hC hq0.2.1 g2 dX4_append_18 e3 ?_
    refine z_aload_n hC dX4_append_19 rfl rfl ?_
    refine z_getR hC (q0 + 2) kF_X4_15 hq0.1 rfl dX4_append_20 ?_
    refine z_aload_n hC dX4_append_23 rfl rfl ?_
    refine z_getI hC kF_X4_18 hq0.1 rfl dX4_append_24 ?_
    refine z_iload_n hC dX4_append_27 rfl rfl ?_
    obtain ⟨g4, h⟩ := gd_some h
    obtain ⟨u5, e5, h⟩ := mS_some h
    refine y_iast hC hq0.2.2 g4 dX4_append_28 e5 ?_
    refine z_aload_n hC dX4_append_29 rfl rfl ?_
    refine z_dup hC dX4_append_30 rfl ?_
    refine z_getI hC kF_X4_18 hq0.1 rfl dX4_append_31 ?_
    refine z_iconst (v := 1) hC dX4_append_34 (by decide) ?_
    refine z_iadd hC dX4_append_35 ?_
    obtain ⟨u6, e6, h⟩ := mS_some h
    refine y_putI hC kP_X4_18 hq0.1 rfl dX4_append_36 e6 ?_
    obtain rfl := Option.some.inj h
    exact z_vret hC hE dX4_append_39
theorem m_X4_append {l : Launch} {dC : Nat → ClassId} {dI : Nat → Nat → Nat} {dA : Nat → ClassId} {as : Nat → Nat} (hD : mDis as) (q0 : Nat) (hq0 : okX4 q0) (x1 : Int32) (x2 : Int32) (u : MU) {r : Int32} {v : MU} (h : f_X4_append q0 x1 x2 u = some (r, v)) : mMV l dC dI dA as yX4_append cX4_append 3 0 0 [.ref (as q0), .int x1, .int x2] u v := mMVof RX4 [some (.ref (as q0)), some (.int x1), some (.int x2)] hD (by decide +kernel) rfl (Nat.le_of_ble_eq_true rfl) rfl (fun C e1 e2 e3 e4 e5 hC hE => by subst e5; exact s_X4_append_0 hC (res := (r, v)) hE q0 hq0 x1 x2 u h)
set_option maxHeartbeats 4000000 in
set_option maxRecDepth 100000 in
theorem s_X4_remove_2 {C : mCtx} (hC : mOK cX4_remove RX4 3 0 0 C) {res : Int32 × MU} (hE : mEndV C res.2) (q0 : Nat) (hq0 : okX4 q0) (k2 : Int32 → MU → mR) (hk2 : ∀ (x2 : Int32) (u : MU), k2 x2 u = some res → wat C u 2 [some (.ref (cS C q0)), none, some (.int x2)] []) (x2 : Int32) (u : MU) (h : b_X4_remove_2 k2 q0 x2 u = some res) : wat C u 2 [some (.ref (cS C q0)), none, some (.int x2)] [] := by
  unfold b_X4_remove_2 at h
  refine z_iload_n hC dX4_remove_2 rfl rfl ?_
  refine z_aload_n hC dX4_remove_3 rfl rfl ?_
  refine z_getI hC kF_X4_18 hq0.1 rfl dX4_remove_4 ?_
  refine z_iconst (v := 1) hC dX4_remove_7 (by decide) ?_
  refine z_isub hC dX4_remove_8 ?_
  refine z_icmp_ge hC 46 dX4_remove_9 (by decide) (fun b1 => ?_) (fun b1 => ?_)
  · rw [if_pos b1] at h
    refine z_aload_n hC dX4_remove_46 rfl rfl ?_
    refine z_dup hC dX4_remove_47 rfl ?_
    refine z_getI hC kF_X4_18 hq0.1 rfl dX4_remove_48 ?_
    refine z_iconst (v := 1) hC dX4_remove_51 (by decide) ?_
    refine z_isub hC dX4_remove_52 ?_
    obtain ⟨u2, e2, h⟩ := mS_some h
    refine y_putI hC kP_X4_18 hq0.1 rfl dX4_remove_53 e2 ?_
    obtain rfl := Option.some.inj h
    exact z_vret hC hE dX4_remove_56
  · rw [if_neg b1] at h
    refine z_aload_n hC dX4_remove_12 rfl rfl ?_
    refine z_getR hC (q0 + 1) kF_X4_9 hq0.1 rfl dX4_remove_13 ?_
    refine z_iload_n hC dX4_remove_16 rfl rfl ?_
    refine z_aload_n hC dX4_remove_17 rfl rfl ?_
    refine z_getR hC (q0 + 1) kF_X4_9 hq0.1 rfl dX4_remove_18 ?_
    refine z_iload_n hC dX4_remove_21 rfl rfl ?_
    refine z_iconst (v := 1) hC dX4_remove_22 (by decide) ?_
    refine z_iadd hC dX4_remove_23 ?_
    obtain ⟨g3, h⟩ := gd_some h
    refine z_iald hC hq0.2.1 g3 dX4_remove_24 ?_
    obtain ⟨g4, h⟩ := gd_some h
    obtain ⟨u5, e5, h⟩ := mS_some h
    refine y_iast hC hq0.2.1 g4 dX4_remove_25 e5 ?_
    refine z_aload_n hC dX4_remove_26 rfl rfl ?_
    refine z_getR hC (q0 + 2) kF_X4_15 hq0.1 rfl dX4_remove_27 ?_
    refine z_iload_n hC dX4_remove_30 rfl rfl ?_
    refine z_aload_n hC dX4_remove_31 rfl rfl ?_
    refine z_getR hC (q0 + 2) kF_X4_15 hq0.1 rfl dX4_remove_32 ?_
    refine z_iload_n hC dX4_remove_35 rfl rfl ?_
    refine z_iconst (v := 1) hC dX4_remove_36 (by decide) ?_
    refine z_iadd hC dX4_remove_37 ?_
    obtain ⟨g6, h⟩ := gd_some h
    refine z_iald hC hq0.2.2 g6 dX4_remove_38 ?_
    obtain ⟨g7, h⟩ := gd_some h
    obtain ⟨u8, e8, h⟩ := mS_some h
    refine y_iast hC hq0.2.2 g7 dX4_remove_39 e8 ?_
    refine y_iinc hC (x2 + 1) [some (.ref (cS C q0)), none, some (.int (x2 + 1))] dX4_remove_40 rfl rfl rfl (Nat.le_of_ble_eq_true rfl) rfl ?_
    refine z_goto hC 2 dX4_remove_43 (by decide) ?_
    exact hk2 (x2 + 1) u8 h
set_option maxHeartbeats 4000000 in
set_option maxRecDepth 100000 in
theorem t_X4_remove_2 {C : mCtx} (hC : mOK cX4_remove RX4 3 0 0 C) {res : Int32 × MU} (hE : mEndV C res.2) (q0 : Nat) (hq0 : okX4 q0) : ∀ (n : Nat) (x2 : Int32) (u : MU), l_X4_remove_2 q0 n x2 u = some res → wat C u 2 [some (.ref (cS C q0)), none, some (.int x2)] [] := by
  intro n
  induction n with
  | zero => intro x2 u h; exact absurd h (by simp [l_X4_remove_2])
  | succ n ih =>
    intro x2 u h
    exact s_X4_remove_2 hC hE q0 hq0 (fun x2 u => l_X4_remove_2 q0 n x2 u) ih x2 u h
set_option maxHeartbeats 4000000 in
set_option maxRecDepth 100000 in
theorem s_X4_remove_0 {C : mCtx} (hC : mOK cX4_remove RX4 3 0 0 C) {res : Int32 × MU} (hE : mEndV C res.2) (q0 : Nat) (hq0 : okX4 q0) (x1 : Int32) (u : MU) (h : f_X4_remove q0 x1 u = some res) : wat C u 0 [some (.ref (cS C q0)), some (.int x1), none] [] := by
  unfold f_X4_remove at h
  refine z_iload_n hC dX4_remove_0 rfl rfl ?_
  refine y_istore_n hC [some (.ref (cS C q0)), some (.int x1), some (.int x1)] dX4_remove_1 rfl rfl (Nat.le_of_ble_eq_true rfl) (Nat.le_of_ble_eq_true rfl) rfl ?_
  refine z_mask [true, false, true] ?_
  exact t_X4_remove_2 hC hE q0 hq0 FU x1 u h
theorem m_X4_remove {l : Launch} {dC : Nat → ClassId} {dI : Nat → Nat → Nat} {dA : Nat → ClassId} {as : Nat → Nat} (hD : mDis as) (q0 : Nat) (hq0 : okX4 q0) (x1 : Int32) (u : MU) {r : Int32} {v : MU} (h : f_X4_remove q0 x1 u = some (r, v)) : mMV l dC dI dA as yX4_remove cX4_remove 3 0 0 [.ref (as q0), .int x1] u v := mMVof RX4 [some (.ref (as q0)), some (.int x1), none] hD (by decide +kernel) rfl (Nat.le_of_ble_eq_true rfl) rfl (fun C e1 e2 e3 e4 e5 hC hE => by subst e5; exact s_X4_remove_0 hC (res := (r, v)) hE q0 hq0 x1 u h)
set_option maxHeartbeats 4000000 in
set_option maxRecDepth 100000 in
theorem s_X4_exchangeWithNext_0 {C : mCtx} (hC : mOK cX4_exchangeWithNext RX4 4 0 0 C) {res : Int32 × MU} (hE : mEndV C res.2) (q0 : Nat) (hq0 : okX4 q0) (x1 : Int32) (u : MU) (h : f_X4_exchangeWithNext q0 x1 u = some res) : wat C u 0 [some (.ref (cS C q0)), some (.int x1), none, none] [] := by
  unfold f_X4_exchangeWithNext at h
  refine z_aload_n hC dX4_exchangeWithNext_0 rfl rfl ?_
  refine z_getR hC (q0 + 1) kF_X4_9 hq0.1 rfl dX4_exchangeWithNext_1 ?_
  refine z_iload_n hC dX4_exchangeWithNext_4 rfl rfl ?_
  obtain ⟨g1, h⟩ := gd_some h
  refine z_iald hC hq0.2.1 g1 dX4_exchangeWithNext_5 ?_
  refine y_istore_n hC [some (.ref (cS C q0)), some (.int x1), some (.int (u (q0 + 1) x1.toNatClampNeg)), none] dX4_exchangeWithNext_6 rfl rfl (Nat.le_of_ble_eq_true rfl) (Nat.le_of_ble_eq_true rfl) rfl ?_
  refine z_aload_n hC dX4_exchangeWithNext_7 rfl rfl ?_
  refine z_getR hC (q0 + 2) kF_X4_15 hq0.1 rfl dX4_exchangeWithNext_8 ?_
  refine z_iload_n hC dX4_exchangeWithNext_11 rfl rfl ?_
  obtain ⟨g2, h⟩ := gd_some h
  refine z_iald hC hq0.2.2 g2 dX4_exchangeWithNext_12 ?_
  refine y_istore_n hC [some (.ref (cS C q0)), some (.int x1), some (.int (u (q0 + 1) x1.toNatClampNeg)), some (.int (u (q0 + 2) x1.toNatClampNeg))] dX4_exchangeWithNext_13 rfl rfl (Nat.le_of_ble_eq_true rfl) (Nat.le_of_ble_eq_true rfl) rfl ?_
  refine z_aload_n hC dX4_exchangeWithNext_14 rfl rfl ?_
  refine z_getR hC (q0 + 1) kF_X4_9 hq0.1 rfl dX4_exchangeWithNext_15 ?_
  refine z_iload_n hC dX4_exchangeWithNext_18 rfl rfl ?_
  refine z_aload_n hC dX4_exchangeWithNext_19 rfl rfl ?_
  refine z_getR hC (q0 + 1) kF_X4_9 hq0.1 rfl dX4_exchangeWithNext_20 ?_
  refine z_iload_n hC dX4_exchangeWithNext_23 rfl rfl ?_
  refine z_iconst (v := 1) hC dX4_exchangeWithNext_24 (by decide) ?_
  refine z_iadd hC dX4_exchangeWithNext_25 ?_
  obtain ⟨g3, h⟩ := gd_some h
  refine z_iald hC hq0.2.1 g3 dX4_exchangeWithNext_26 ?_
  obtain ⟨g4, h⟩ := gd_some h
  obtain ⟨u5, e5, h⟩ := mS_some h
  refine y_iast hC hq0.2.1 g4 dX4_exchangeWithNext_27 e5 ?_
  refine z_aload_n hC dX4_exchangeWithNext_28 rfl rfl ?_
  refine z_getR hC (q0 + 2) kF_X4_15 hq0.1 rfl dX4_exchangeWithNext_29 ?_
  refine z_iload_n hC dX4_exchangeWithNext_32 rfl rfl ?_
  refine z_aload_n hC dX4_exchangeWithNext_33 rfl rfl ?_
  refine z_getR hC (q0 + 2) kF_X4_15 hq0.1 rfl dX4_exchangeWithNext_34 ?_
  refine z_iload_n hC dX4_exchangeWithNext_37 rfl rfl ?_
  refine z_iconst (v := 1) hC dX4_exchangeWithNext_38 (by decide) ?_
  refine z_iadd hC dX4_exchangeWithNext_39 ?_
  obtain ⟨g6, h⟩ := gd_some h
  refine z_iald hC hq0.2.2 g6 dX4_exchangeWithNext_40 ?_
  obtain ⟨g7, h⟩ := gd_some h
  obtain ⟨u8, e8, h⟩ := mS_some h
  refine y_iast hC hq0.2.2 g7 dX4_exchangeWithNext_41 e8 ?_
  refine z_aload_n hC dX4_exchangeWithNext_42 rfl rfl ?_
  refine z_getR hC (q0 + 1) kF_X4_9 hq0.1 rfl dX4_exchangeWithNext_43 ?_
  refine z_iload_n hC dX4_exchangeWithNext_46 rfl rfl ?_
  refine z_iconst (v := 1) hC dX4_exchangeWithNext_47 (by decide) ?_
  refine z_iadd hC dX4_exchangeWithNext_48 ?_
  refine z_iload_n hC dX4_exchangeWithNext_49 rfl rfl ?_
  obtain ⟨g9, h⟩ := gd_some h
  obtain ⟨u10, e10, h⟩ := mS_some h
  refine y_iast hC hq0.2.1 g9 dX4_exchangeWithNext_50 e10 ?_
  refine z_aload_n hC dX4_exchangeWithNext_51 rfl rfl ?_
  refine z_getR hC (q0 + 2) kF_X4_15 hq0.1 rfl dX4_exchangeWithNext_52 ?_
  refine z_iload_n hC dX4_exchangeWithNext_55 rfl rfl ?_
  refine z_iconst (v := 1) hC dX4_exchangeWithNext_56 (by decide) ?_
  refine z_iadd hC dX4_exchangeWithNext_57 ?_
  refine z_iload_n hC dX4_exchangeWithNext_58 rfl rfl ?_
  obtain ⟨g11, h⟩ := gd_some h
  obtain ⟨u12, e12, h⟩ := mS_some h
  refine y_iast hC hq0.2.2 g11 dX4_exchangeWithNext_59 e12 ?_
  obtain rfl := Option.some.inj h
  exact z_vret hC hE dX4_exchangeWithNext_60
theorem m_X4_exchangeWithNext {l : Launch} {dC : Nat → ClassId} {dI : Nat → Nat → Nat} {dA : Nat → ClassId} {as : Nat → Nat} (hD : mDis as) (q0 : Nat) (hq0 : okX4 q0) (x1 : Int32) (u : MU) {r : Int32} {v : MU} (h : f_X4_exchangeWithNext q0 x1 u = some (r, v)) : mMV l dC dI dA as yX4_exchangeWithNext cX4_exchangeWithNext 4 0 0 [.ref (as q0), .int x1] u v := mMVof RX4 [some (.ref (as q0)), some (.int x1), none, none] hD (by decide +kernel) rfl (Nat.le_of_ble_eq_true rfl) rfl (fun C e1 e2 e3 e4 e5 hC hE => by subst e5; exact s_X4_exchangeWithNext_0 hC (res := (r, v)) hE q0 hq0 x1 u h)
set_option maxHeartbeats 4000000 in
set_option maxRecDepth 100000 in
theorem s_X5_kindOf_0 {C : mCtx} (hC : mOK cX5_kindOf RX5 1 0 0 C) {res : Int32 × MU} (hE : mEndI C .int res.1 res.2) (x0 : Int32) (u : MU) (h : f_X5_kindOf x0 u = some res) : wat C u 0 [some (.int x0)] [] := by
  unfold f_X5_kindOf at h
  refine z_iload_n hC dX5_kindOf_0 rfl rfl ?_
  refine z_bipush (v := nI 61) hC dX5_kindOf_1 (by decide) ?_
  refine z_icmp_eq hC 12 dX5_kindOf_3 (by decide) (fun b1 => ?_) (fun b1 => ?_)
  · rw [if_pos b1] at h
    refine z_iconst (v := 0) hC dX5_kindOf_12 (by decide) ?_
    obtain rfl := Option.some.inj h
    exact z_iret hC hE dX5_kindOf_13
  · rw [if_neg b1] at h
    refine z_iload_n hC dX5_kindOf_6 rfl rfl ?_
    refine z_bipush (v := nI 35) hC dX5_kindOf_7 (by decide) ?_
    refine z_icmp_ne hC 14 dX5_kindOf_9 (by decide) (fun b2 => ?_) (fun b2 => ?_)
    · rw [if_neg b2] at h
      refine z_iload_n hC dX5_kindOf_14 rfl rfl ?_
      refine z_bipush (v := nI 43) hC dX5_kindOf_15 (by decide) ?_
      refine z_icmp_eq hC 26 dX5_kindOf_17 (by decide) (fun b3 => ?_) (fun b3 => ?_)
      · rw [if_pos b3] at h
        refine z_iconst (v := 1) hC dX5_kindOf_26 (by decide) ?_
        obtain rfl := Option.some.inj h
        exact z_iret hC hE dX5_kindOf_27
      · rw [if_neg b3] at h
        refine z_iload_n hC dX5_kindOf_20 rfl rfl ?_
        refine z_bipush (v := nI 94) hC dX5_kindOf_21 (by decide) ?_
        refine z_icmp_ne hC 28 dX5_kindOf_23 (by decide) (fun b4 => ?_) (fun b4 => ?_)
        · rw [if_neg b4] at h
          refine z_iload_n hC dX5_kindOf_28 rfl rfl ?_
          refine z_bipush (v := nI 63) hC dX5_kindOf_29 (by decide) ?_
          refine z_icmp_ne hC 38 dX5_kindOf_31 (by decide) (fun b5 => ?_) (fun b5 => ?_)
          · rw [if_neg b5] at h
            refine z_iconst (v := nI 3) hC dX5_kindOf_38 (by decide) ?_
            obtain rfl := Option.some.inj h
            exact z_iret hC hE dX5_kindOf_39
          · rw [if_pos b5] at h
            refine z_iconst (v := nI 2) hC dX5_kindOf_34 (by decide) ?_
            refine z_goto hC 39 dX5_kindOf_35 (by decide) ?_
            obtain rfl := Option.some.inj h
            exact z_iret hC hE dX5_kindOf_39
        · rw [if_pos b4] at h
          refine z_iconst (v := 1) hC dX5_kindOf_26 (by decide) ?_
          obtain rfl := Option.some.inj h
          exact z_iret hC hE dX5_kindOf_27
    · rw [if_pos b2] at h
      refine z_iconst (v := 0) hC dX5_kindOf_12 (by decide) ?_
      obtain rfl := Option.some.inj h
      exact z_iret hC hE dX5_kindOf_13
theorem m_X5_kindOf {l : Launch} {dC : Nat → ClassId} {dI : Nat → Nat → Nat} {dA : Nat → ClassId} {as : Nat → Nat} (hD : mDis as) (x0 : Int32) (u : MU) {r : Int32} {v : MU} (h : f_X5_kindOf x0 u = some (r, v)) : mMI l dC dI dA as yX5_kindOf cX5_kindOf 1 .int 0 0 [.int x0] u r v := mMIof RX5 [some (.int x0)] hD (by decide +kernel) rfl (Nat.le_of_ble_eq_true rfl) rfl (fun C e1 e2 e3 e4 e5 hC hE => by subst e5; exact s_X5_kindOf_0 hC (res := (r, v)) hE x0 u h)
set_option maxHeartbeats 4000000 in
set_option maxRecDepth 100000 in
theorem s_X5_readCallee_0 {C : mCtx} (hC : mOK cX5_readCallee RX5 2 0 0 C) {res : Int32 × MU} (hE : mEndI C .boolean res.1 res.2) (q0 : Nat) (hq0 : okX5 q0) (x1 : Int32) (u : MU) (h : f_X5_readCallee q0 x1 u = some res) : wat C u 0 [some (.ref (cS C q0)), some (.int x1)] [] := by
  unfold f_X5_readCallee at h
  refine z_aload_n hC dX5_readCallee_0 rfl rfl ?_
  refine z_getI hC kF_X5_46 hq0.1 rfl dX5_readCallee_1 ?_
  refine z_aload_n hC dX5_readCallee_4 rfl rfl ?_
  refine z_getI hC kF_X5_15 hq0.1 rfl dX5_readCallee_5 ?_
  refine z_icmp_ge hC 39 dX5_readCallee_8 (by decide) (fun b1 => ?_) (fun b1 => ?_)
  · rw [if_pos b1] at h
    refine z_iconst (v := 0) hC dX5_readCallee_39 (by decide) ?_
    obtain rfl := Option.some.inj h
    exact z_zret hC hE rfl dX5_readCallee_40
  · rw [if_neg b1] at h
    refine z_aload_n hC dX5_readCallee_11 rfl rfl ?_
    refine z_getR hC (q0 + 1) kF_X5_9 hq0.1 rfl dX5_readCallee_12 ?_
    refine z_aload_n hC dX5_readCallee_15 rfl rfl ?_
    refine z_getI hC kF_X5_46 hq0.1 rfl dX5_readCallee_16 ?_
    obtain ⟨g2, h⟩ := gd_some h
    refine z_iald hC hq0.2.1 g2 dX5_readCallee_19 ?_
    refine z_bipush (v := nI 48) hC dX5_readCallee_20 (by decide) ?_
    refine z_icmp_lt hC 39 dX5_readCallee_22 (by decide) (fun b3 => ?_) (fun b3 => ?_)
    · rw [if_pos b3] at h
      refine z_iconst (v := 0) hC dX5_readCallee_39 (by decide) ?_
      obtain rfl := Option.some.inj h
      exact z_zret hC hE rfl dX5_readCallee_40
    · rw [if_neg b3] at h
      refine z_aload_n hC dX5_readCallee_25 rfl rfl ?_
      refine z_getR hC (q0 + 1) kF_X5_9 hq0.1 rfl dX5_readCallee_26 ?_
      refine z_aload_n hC dX5_readCallee_29 rfl rfl ?_
      refine z_getI hC kF_X5_46 hq0.1 rfl dX5_readCallee_30 ?_
      obtain ⟨g4, h⟩ := gd_some h
      refine z_iald hC hq0.2.1 g4 dX5_readCallee_33 ?_
      refine z_bipush (v := nI 54) hC dX5_readCallee_34 (by decide) ?_
      refine z_icmp_lt hC 41 dX5_readCallee_36 (by decide) (fun b5 => ?_) (fun b5 => ?_)
      · rw [if_pos b5] at h
        refine z_aload_n hC dX5_readCallee_41 rfl rfl ?_
        refine z_getR hC (q0 + 4) kF_X5_28 hq0.1 rfl dX5_readCallee_42 ?_
        refine z_iload_n hC dX5_readCallee_45 rfl rfl ?_
        refine z_aload_n hC dX5_readCallee_46 rfl rfl ?_
        refine z_getR hC (q0 + 1) kF_X5_9 hq0.1 rfl dX5_readCallee_47 ?_
        refine z_aload_n hC dX5_readCallee_50 rfl rfl ?_
        refine z_getI hC kF_X5_46 hq0.1 rfl dX5_readCallee_51 ?_
        obtain ⟨g6, h⟩ := gd_some h
        refine z_iald hC hq0.2.1 g6 dX5_readCallee_54 ?_
        refine z_bipush (v := nI 48) hC dX5_readCallee_55 (by decide) ?_
        refine z_isub hC dX5_readCallee_57 ?_
        obtain ⟨g7, h⟩ := gd_some h
        obtain ⟨u8, e8, h⟩ := mS_some h
        refine y_iast hC hq0.2.2.2.2.1 g7 dX5_readCallee_58 e8 ?_
        refine z_aload_n hC dX5_readCallee_59 rfl rfl ?_
        refine z_dup hC dX5_readCallee_60 rfl ?_
        refine z_getI hC kF_X5_46 hq0.1 rfl dX5_readCallee_61 ?_
        refine z_iconst (v := 1) hC dX5_readCallee_64 (by decide) ?_
        refine z_iadd hC dX5_readCallee_65 ?_
        obtain ⟨u9, e9, h⟩ := mS_some h
        refine y_putI hC kP_X5_46 hq0.1 rfl dX5_readCallee_66 e9 ?_
        refine z_iconst (v := 1) hC dX5_readCallee_69 (by decide) ?_
        obtain rfl := Option.some.inj h
        exact z_zret hC hE rfl dX5_readCallee_70
      · rw [if_neg b5] at h
        refine z_iconst (v := 0) hC dX5_readCallee_39 (by decide) ?_
        obtain rfl := Option.some.inj h
        exact z_zret hC hE rfl dX5_readCallee_40
theorem m_X5_readCallee {l : Launch} {dC : Nat → ClassId} {dI : Nat → Nat → Nat} {dA : Nat → ClassId} {as : Nat → Nat} (hD : mDis as) (q0 : Nat) (hq0 : okX5 q0) (x1 : Int32) (u : MU) {r : Int32} {v : MU} (h : f_X5_readCallee q0 x1 u = some (r, v)) : mMI l dC dI dA as yX5_readCallee cX5_readCallee 2 .boolean 0 0 [.ref (as q0), .int x1] u r v := mMIof RX5 [some (.ref (as q0)), some (.int x1)] hD (by decide +kernel) rfl (Nat.le_of_ble_eq_true rfl) rfl (fun C e1 e2 e3 e4 e5 hC hE => by subst e5; exact s_X5_readCallee_0 hC (res := (r, v)) hE q0 hq0 x1 u h)
set_option maxHeartbeats 4000000 in
set_option maxRecDepth 100000 in
theorem s_X5_isFigure_0 {C : mCtx} (hC : mOK cX5_isFigure RX5 1 0 0 C) {res : Int32 × MU} (hE : mEndI C .boolean res.1 res.2) (x0 : Int32) (u : MU) (h : f_X5_isFigure x0 u = some res) : wat C u 0 [some (.int x0)] [] := by
  unfold f_X5_isFigure at h
  refine z_iload_n hC dX5_isFigure_0 rfl rfl ?_
  refine z_bipush (v := nI 48) hC dX5_isFigure_1 (by decide) ?_
  refine z_icmp_lt hC 16 dX5_isFigure_3 (by decide) (fun b1 => ?_) (fun b1 => ?_)
  · rw [if_pos b1] at h
    refine z_iconst (v := 0) hC dX5_isFigure_16 (by decide) ?_
    obtain rfl := Option.some.inj h
    exact z_zret hC hE rfl dX5_isFigure_17
  · rw [if_neg b1] at h
    refine z_iload_n hC dX5_isFigure_6 rfl rfl ?_
    refine z_bipush (v := nI 57) hC dX5_isFigure_7 (by decide) ?_
    refine z_icmp_gt hC 16 dX5_isFigure_9 (by decide) (fun b2 => ?_) (fun b2 => ?_)
    · rw [if_pos b2] at h
      refine z_iconst (v := 0) hC dX5_isFigure_16 (by decide) ?_
      obtain rfl := Option.some.inj h
      exact z_zret hC hE rfl dX5_isFigure_17
    · rw [if_neg b2] at h
      refine z_iconst (v := 1) hC dX5_isFigure_12 (by decide) ?_
      refine z_goto hC 17 dX5_isFigure_13 (by decide) ?_
      obtain rfl := Option.some.inj h
      exact z_zret hC hE rfl dX5_isFigure_17
theorem m_X5_isFigure {l : Launch} {dC : Nat → ClassId} {dI : Nat → Nat → Nat} {dA : Nat → ClassId} {as : Nat → Nat} (hD : mDis as) (x0 : Int32) (u : MU) {r : Int32} {v : MU} (h : f_X5_isFigure x0 u = some (r, v)) : mMI l dC dI dA as yX5_isFigure cX5_isFigure 1 .boolean 0 0 [.int x0] u r v := mMIof RX5 [some (.int x0)] hD (by decide +kernel) rfl (Nat.le_of_ble_eq_true rfl) rfl (fun C e1 e2 e3 e4 e5 hC hE => by subst e5; exact s_X5_isFigure_0 hC (res := (r, v)) hE x0 u h)
set_option maxHeartbeats 4000000 in
set_option maxRecDepth 100000 in
theorem s_X5_readIndex_43 {C : mCtx} (hC : mOK cX5_readIndex RX5 3 1 20 C) {res : Int32 × MU} (hE : mEndI C .int res.1 res.2) (q0 : Nat) (hq0 : okX5 q0) (x1 : Int32) (u : MU) (h : b_X5_readIndex_43 q0 x1 u = some res) : wat C u 43 [some (.ref (cS C q0)), some (.int x1), none] [] := by
  unfold b_X5_readIndex_43 at h
  refine z_aload_n hC dX5_readIndex_43 rfl rfl ?_
  refine z_getI hC kF_X5_46 hq0.1 rfl dX5_readIndex_44 ?_
  refine z_aload_n hC dX5_readIndex_47 rfl rfl ?_
  refine z_getI hC kF_X5_15 hq0.1 rfl dX5_readIndex_48 ?_
  refine z_icmp_lt hC 56 dX5_readIndex_51 (by decide) (fun b1 => ?_) (fun b1 => ?_)
  · rw [if_pos b1] at h
    refine z_aload_n hC dX5_readIndex_56 rfl rfl ?_
    refine z_getR hC (q0 + 1) kF_X5_9 hq0.1 rfl dX5_readIndex_57 ?_
    refine z_aload_n hC dX5_readIndex_60 rfl rfl ?_
    refine z_getI hC kF_X5_46 hq0.1 rfl dX5_readIndex_61 ?_
    obtain ⟨g2, h⟩ := gd_some h
    refine z_iald hC hq0.2.1 g2 dX5_readIndex_64 ?_
    refine y_istore_n hC [some (.ref (cS C q0)), some (.int x1), some (.int (u (q0 + 1) (u q0 11).toNatClampNeg))] dX5_readIndex_65 rfl rfl (Nat.le_of_ble_eq_true rfl) (Nat.le_of_ble_eq_true rfl) rfl ?_
    refine z_iload_n hC dX5_readIndex_66 rfl rfl ?_
    refine z_bipush (v := nI 112) hC dX5_readIndex_67 (by decide) ?_
    refine z_icmp_ne hC 90 dX5_readIndex_69 (by decide) (fun b3 => ?_) (fun b3 => ?_)
    · rw [if_neg b3] at h
      refine z_iload_n hC dX5_readIndex_90 rfl rfl ?_
      obtain ⟨r4, u4, c4, h⟩ := mB_some h
      refine z_callSI hC kC_X5_isFigure kM_X5_77 (m_X5_isFigure hC.dis (u (q0 + 1) (u q0 11).toNatClampNeg) u c4) rfl (Nat.le_of_ble_eq_true rfl) (Nat.le_of_ble_eq_true rfl) (Nat.le_of_ble_eq_true rfl) rfl dX5_readIndex_91 ?_
      refine z_if_eq hC 120 dX5_readIndex_94 (by decide) (fun b5 => ?_) (fun b5 => ?_)
      · rw [if_pos b5] at h
        refine z_iconst (v := (-1)) hC dX5_readIndex_120 (by decide) ?_
        obtain rfl := Option.some.inj h
        exact z_iret hC hE dX5_readIndex_121
      · rw [if_neg b5] at h
        refine z_aload_n hC dX5_readIndex_97 rfl rfl ?_
        refine z_dup hC dX5_readIndex_98 rfl ?_
        refine z_getI hC kF_X5_46 hq0.1 rfl dX5_readIndex_99 ?_
        refine z_iconst (v := 1) hC dX5_readIndex_102 (by decide) ?_
        refine z_iadd hC dX5_readIndex_103 ?_
        obtain ⟨u6, e6, h⟩ := mS_some h
        refine y_putI hC kP_X5_46 hq0.1 rfl dX5_readIndex_104 e6 ?_
        refine z_bipush (v := nI 6) hC dX5_readIndex_107 (by decide) ?_
        refine z_iload_n hC dX5_readIndex_109 rfl rfl ?_
        refine z_bipush (v := nI 48) hC dX5_readIndex_110 (by decide) ?_
        refine z_isub hC dX5_readIndex_112 ?_
        refine z_iload_n hC dX5_readIndex_113 rfl rfl ?_
        refine z_iadd hC dX5_readIndex_114 ?_
        refine z_bipush (v := nI 12) hC dX5_readIndex_115 (by decide) ?_
        refine y_irem hC dX5_readIndex_117 (by decide) ?_
        refine z_iadd hC dX5_readIndex_118 ?_
        obtain rfl := Option.some.inj h
        exact z_iret hC hE dX5_readIndex_119
    · rw [if_pos b3] at h
      refine z_aload_n hC dX5_readIndex_72 rfl rfl ?_
      refine z_dup hC dX5_readIndex_73 rfl ?_
      refine z_getI hC kF_X5_46 hq0.1 rfl dX5_readIndex_74 ?_
      refine z_iconst (v := 1) hC dX5_readIndex_77 (by decide) ?_
      refine z_iadd hC dX5_readIndex_78 ?_
      obtain ⟨u7, e7, h⟩ := mS_some h
      refine y_putI hC kP_X5_46 hq0.1 rfl dX5_readIndex_79 e7 ?_
      refine z_bipush (v := nI 18) hC dX5_readIndex_82 (by decide) ?_
      refine z_iload_n hC dX5_readIndex_84 rfl rfl ?_
      refine z_bipush (v := nI 12) hC dX5_readIndex_85 (by decide) ?_
      refine y_irem hC dX5_readIndex_87 (by decide) ?_
      refine z_iadd hC dX5_readIndex_88 ?_
      obtain rfl := Option.some.inj h
      exact z_iret hC hE dX5_readIndex_89
  · rw [if_neg b1] at h
    refine z_iconst (v := (-1)) hC dX5_readIndex_54 (by decide) ?_
    obtain rfl := Option.some.inj h
    exact z_iret hC hE dX5_readIndex_55
set_option maxHeartbeats 4000000 in
set_option maxRecDepth 100000 in
theorem s_X5_readIndex_2 {C : mCtx} (hC : mOK cX5_readIndex RX5 3 1 20 C) {res : Int32 × MU} (hE : mEndI C .int res.1 res.2) (q0 : Nat) (hq0 : okX5 q0) (k2 : Int32 → MU → mR) (hk2 : ∀ (x1 : Int32) (u : MU), k2 x1 u = some res → wat C u 2 [some (.ref (cS C q0)), some (.int x1), none] []) (x1 : Int32) (u : MU) (h : b_X5_readIndex_2 k2 q0 x1 u = some res) : wat C u 2 [some (.ref (cS C q0)), some (.int x1), none] [] := by
  unfold b_X5_readIndex_2 at h
  refine z_aload_n hC dX5_readIndex_2 rfl rfl ?_
  refine z_getI hC kF_X5_46 hq0.1 rfl dX5_readIndex_3 ?_
  refine z_aload_n hC dX5_readIndex_6 rfl rfl ?_
  refine z_getI hC kF_X5_15 hq0.1 rfl dX5_readIndex_7 ?_
  refine z_icmp_ge hC 43 dX5_readIndex_10 (by decide) (fun b1 => ?_) (fun b1 => ?_)
  · rw [if_pos b1] at h
    exact s_X5_readIndex_43 hC hE q0 hq0 x1 u h
  · rw [if_neg b1] at h
    refine z_aload_n hC dX5_readIndex_13 rfl rfl ?_
    refine z_getR hC (q0 + 1) kF_X5_9 hq0.1 rfl dX5_readIndex_14 ?_
    refine z_aload_n hC dX5_readIndex_17 rfl rfl ?_
    refine z_getI hC kF_X5_46 hq0.1 rfl dX5_readIndex_18 ?_
    obtain ⟨g2, h⟩ := gd_some h
    refine z_iald hC hq0.2.1 g2 dX5_readIndex_21 ?_
    refine z_bipush (v := nI 62) hC dX5_readIndex_22 (by decide) ?_
    refine z_icmp_ne hC 43 dX5_readIndex_24 (by decide) (fun b3 => ?_) (fun b3 => ?_)
    · rw [if_neg b3] at h
      exact s_X5_readIndex_43 hC hE q0 hq0 x1 u h
    · rw [if_pos b3] at h
      refine z_aload_n hC dX5_readIndex_27 rfl rfl ?_
      refine z_dup hC dX5_readIndex_28 rfl ?_
      refine z_getI hC kF_X5_46 hq0.1 rfl dX5_readIndex_29 ?_
      refine z_iconst (v := 1) hC dX5_readIndex_32 (by decide) ?_
      refine z_iadd hC dX5_readIndex_33 ?_
      obtain ⟨u4, e4, h⟩ := mS_some h
      refine y_putI hC kP_X5_46 hq0.1 rfl dX5_readIndex_34 e4 ?_
      refine y_iinc hC (x1 + 1) [some (.ref (cS C q0)), some (.int (x1 + 1)), none] dX5_readIndex_37 rfl rfl rfl (Nat.le_of_ble_eq_true rfl) rfl ?_
      refine z_goto hC 2 dX5_readIndex_40 (by decide) ?_
      exact hk2 (x1 + 1) u4 h
set_option maxHeartbeats 4000000 in
set_option maxRecDepth 100000 in
theorem t_X5_readIndex_2 {C : mCtx} (hC : mOK cX5_readIndex RX5 3 1 20 C) {res : Int32 × MU} (hE : mEndI C .int res.1 res.2) (q0 : Nat) (hq0 : okX5 q0) : ∀ (n : Nat) (x1 : Int32) (u : MU), l_X5_readIndex_2 q0 n x1 u = some res → wat C u 2 [some (.ref (cS C q0)), some (.int x1), none] [] := by
  intro n
  induction n with
  | zero => intro x1 u h; exact absurd h (by simp [l_X5_readIndex_2])
  | succ n ih =>
    intro x1 u h
    exact s_X5_readIndex_2 hC hE q0 hq0 (fun x1 u => l_X5_readIndex_2 q0 n x1 u) ih x1 u h
set_option maxHeartbeats 4000000 in
set_option maxRecDepth 100000 in
theorem s_X5_readIndex_0 {C : mCtx} (hC : mOK cX5_readIndex RX5 3 1 20 C) {res : Int32 × MU} (hE : mEndI C .int res.1 res.2) (q0 : Nat) (hq0 : okX5 q0) (u : MU) (h : f_X5_readIndex q0 u = some res) : wat C u 0 [some (.ref (cS C q0)), none, none] [] := by
  unfold f_X5_readIndex at h
  refine z_iconst (v := 0) hC dX5_readIndex_0 (by decide) ?_
  refine y_istore_n hC [some (.ref (cS C q0)), some (.int 0), none] dX5_readIndex_1 rfl rfl (Nat.le_of_ble_eq_true rfl) (Nat.le_of_ble_eq_true rfl) rfl ?_
  exact t_X5_readIndex_2 hC hE q0 hq0 FU 0 u h
theorem m_X5_readIndex {l : Launch} {dC : Nat → ClassId} {dI : Nat → Nat → Nat} {dA : Nat → ClassId} {as : Nat → Nat} (hD : mDis as) (q0 : Nat) (hq0 : okX5 q0) (u : MU) {r : Int32} {v : MU} (h : f_X5_readIndex q0 u = some (r, v)) : mMI l dC dI dA as yX5_readIndex cX5_readIndex 3 .int 1 20 [.ref (as q0)] u r v := mMIof RX5 [some (.ref (as q0)), none, none] hD (by decide +kernel) rfl (Nat.le_of_ble_eq_true rfl) rfl (fun C e1 e2 e3 e4 e5 hC hE => by subst e5; exact s_X5_readIndex_0 hC (res := (r, v)) hE q0 hq0 u h)
set_option maxHeartbeats 4000000 in
set_option maxRecDepth 100000 in
theorem s_X5_isLetter_0 {C : mCtx} (hC : mOK cX5_isLetter RX5 1 0 0 C) {res : Int32 × MU} (hE : mEndI C .boolean res.1 res.2) (x0 : Int32) (u : MU) (h : f_X5_isLetter x0 u = some res) : wat C u 0 [some (.int x0)] [] := by
  unfold f_X5_isLetter at h
  refine z_iload_n hC dX5_isLetter_0 rfl rfl ?_
  refine z_bipush (v := nI 97) hC dX5_isLetter_1 (by decide) ?_
  refine z_icmp_lt hC 16 dX5_isLetter_3 (by decide) (fun b1 => ?_) (fun b1 => ?_)
  · rw [if_pos b1] at h
    refine z_iconst (v := 0) hC dX5_isLetter_16 (by decide) ?_
    obtain rfl := Option.some.inj h
    exact z_zret hC hE rfl dX5_isLetter_17
  · rw [if_neg b1] at h
    refine z_iload_n hC dX5_isLetter_6 rfl rfl ?_
    refine z_bipush (v := nI 103) hC dX5_isLetter_7 (by decide) ?_
    refine z_icmp_ge hC 16 dX5_isLetter_9 (by decide) (fun b2 => ?_) (fun b2 => ?_)
    · rw [if_pos b2] at h
      refine z_iconst (v := 0) hC dX5_isLetter_16 (by decide) ?_
      obtain rfl := Option.some.inj h
      exact z_zret hC hE rfl dX5_isLetter_17
    · rw [if_neg b2] at h
      refine z_iconst (v := 1) hC dX5_isLetter_12 (by decide) ?_
      refine z_goto hC 17 dX5_isLetter_13 (by decide) ?_
      obtain rfl := Option.some.inj h
      exact z_zret hC hE rfl dX5_isLetter_17
theorem m_X5_isLetter {l : Launch} {dC : Nat → ClassId} {dI : Nat → Nat → Nat} {dA : Nat → ClassId} {as : Nat → Nat} (hD : mDis as) (x0 : Int32) (u : MU) {r : Int32} {v : MU} (h : f_X5_isLetter x0 u = some (r, v)) : mMI l dC dI dA as yX5_isLetter cX5_isLetter 1 .boolean 0 0 [.int x0] u r v := mMIof RX5 [some (.int x0)] hD (by decide +kernel) rfl (Nat.le_of_ble_eq_true rfl) rfl (fun C e1 e2 e3 e4 e5 hC hE => by subst e5; exact s_X5_isLetter_0 hC (res := (r, v)) hE x0 u h)
set_option maxHeartbeats 4000000 in
set_option maxRecDepth 100000 in
theorem s_X5_readLetter_0 {C : mCtx} (hC : mOK cX5_readLetter RX5 2 1 20 C) {res : Int32 × MU} (hE : mEndI C .int res.1 res.2) (q0 : Nat) (hq0 : okX5 q0) (u : MU) (h : f_X5_readLetter q0 u = some res) : wat C u 0 [some (.ref (cS C q0)), none] [] := by
  unfold f_X5_readLetter at h
  refine z_aload_n hC dX5_readLetter_0 rfl rfl ?_
  refine z_getI hC kF_X5_46 hq0.1 rfl dX5_readLetter_1 ?_
  refine z_aload_n hC dX5_readLetter_4 rfl rfl ?_
  refine z_getI hC kF_X5_15 hq0.1 rfl dX5_readLetter_5 ?_
  refine z_icmp_ge hC 26 dX5_readLetter_8 (by decide) (fun b1 => ?_) (fun b1 => ?_)
  · rw [if_pos b1] at h
    refine z_iconst (v := (-1)) hC dX5_readLetter_26 (by decide) ?_
    obtain rfl := Option.some.inj h
    exact z_iret hC hE dX5_readLetter_27
  · rw [if_neg b1] at h
    refine z_aload_n hC dX5_readLetter_11 rfl rfl ?_
    refine z_getR hC (q0 + 1) kF_X5_9 hq0.1 rfl dX5_readLetter_12 ?_
    refine z_aload_n hC dX5_readLetter_15 rfl rfl ?_
    refine z_getI hC kF_X5_46 hq0.1 rfl dX5_readLetter_16 ?_
    obtain ⟨g2, h⟩ := gd_some h
    refine z_iald hC hq0.2.1 g2 dX5_readLetter_19 ?_
    obtain ⟨r3, u3, c3, h⟩ := mB_some h
    refine z_callSI hC kC_X5_isLetter kM_X5_74 (m_X5_isLetter hC.dis (u (q0 + 1) (u q0 11).toNatClampNeg) u c3) rfl (Nat.le_of_ble_eq_true rfl) (Nat.le_of_ble_eq_true rfl) (Nat.le_of_ble_eq_true rfl) rfl dX5_readLetter_20 ?_
    refine z_if_ne hC 28 dX5_readLetter_23 (by decide) (fun b4 => ?_) (fun b4 => ?_)
    · rw [if_neg b4] at h
      refine z_aload_n hC dX5_readLetter_28 rfl rfl ?_
      refine z_getR hC (q0 + 1) kF_X5_9 hq0.1 rfl dX5_readLetter_29 ?_
      refine z_aload_n hC dX5_readLetter_32 rfl rfl ?_
      refine z_getI hC kF_X5_46 hq0.1 rfl dX5_readLetter_33 ?_
      obtain ⟨g5, h⟩ := gd_some h
      refine z_iald hC hq0.2.1 g5 dX5_readLetter_36 ?_
      refine z_bipush (v := nI 97) hC dX5_readLetter_37 (by decide) ?_
      refine z_isub hC dX5_readLetter_39 ?_
      refine y_istore_n hC [some (.ref (cS C q0)), some (.int ((u3 (q0 + 1) (u3 q0 11).toNatClampNeg) - (nI 97)))] dX5_readLetter_40 rfl rfl (Nat.le_of_ble_eq_true rfl) (Nat.le_of_ble_eq_true rfl) rfl ?_
      refine z_aload_n hC dX5_readLetter_41 rfl rfl ?_
      refine z_dup hC dX5_readLetter_42 rfl ?_
      refine z_getI hC kF_X5_46 hq0.1 rfl dX5_readLetter_43 ?_
      refine z_iconst (v := 1) hC dX5_readLetter_46 (by decide) ?_
      refine z_iadd hC dX5_readLetter_47 ?_
      obtain ⟨u6, e6, h⟩ := mS_some h
      refine y_putI hC kP_X5_46 hq0.1 rfl dX5_readLetter_48 e6 ?_
      refine z_iload_n hC dX5_readLetter_51 rfl rfl ?_
      obtain rfl := Option.some.inj h
      exact z_iret hC hE dX5_readLetter_52
    · rw [if_pos b4] at h
      refine z_iconst (v := (-1)) hC dX5_readLetter_26 (by decide) ?_
      obtain rfl := Option.some.inj h
      exact z_iret hC hE dX5_readLetter_27
theorem m_X5_readLetter {l : Launch} {dC : Nat → ClassId} {dI : Nat → Nat → Nat} {dA : Nat → ClassId} {as : Nat → Nat} (hD : mDis as) (q0 : Nat) (hq0 : okX5 q0) (u : MU) {r : Int32} {v : MU} (h : f_X5_readLetter q0 u = some (r, v)) : mMI l dC dI dA as yX5_readLetter cX5_readLetter 2 .int 1 20 [.ref (as q0)] u r v := mMIof RX5 [some (.ref (as q0)), none] hD (by decide +kernel) rfl (Nat.le_of_ble_eq_true rfl) rfl (fun C e1 e2 e3 e4 e5 hC hE => by subst e5; exact s_X5_readLetter_0 hC (res := (r, v)) hE q0 hq0 u h)
set_option maxHeartbeats 4000000 in
set_option maxRecDepth 100000 in
theorem s_X5_addLeaf_0 {C : mCtx} (hC : mOK cX5_addLeaf RX5 3 0 0 C) {res : Int32 × MU} (hE : mEndI C .boolean res.1 res.2) (q0 : Nat) (hq0 : okX5 q0) (x1 : Int32) (x2 : Int32) (u : MU) (h : f_X5_addLeaf q0 x1 x2 u = some res) : wat C u 0 [some (.ref (cS C q0)), some (.int x1), some (.int x2)] [] := by
  unfold f_X5_addLeaf at h
  refine z_iload_n hC dX5_addLeaf_0 rfl rfl ?_
  refine z_iconst (v := (-1)) hC dX5_addLeaf_1 (by decide) ?_
  refine z_icmp_eq hC 14 dX5_addLeaf_2 (by decide) (fun b1 => ?_) (fun b1 => ?_)
  · rw [if_pos b1] at h
    refine z_iconst (v := 0) hC dX5_addLeaf_14 (by decide) ?_
    obtain rfl := Option.some.inj h
    exact z_zret hC hE rfl dX5_addLeaf_15
  · rw [if_neg b1] at h
    refine z_aload_n hC dX5_addLeaf_5 rfl rfl ?_
    refine z_getI hC kF_X5_43 hq0.1 rfl dX5_addLeaf_6 ?_
    refine z_bipush (v := nI 30) hC dX5_addLeaf_9 (by decide) ?_
    refine z_icmp_lt hC 16 dX5_addLeaf_11 (by decide) (fun b2 => ?_) (fun b2 => ?_)
    · rw [if_pos b2] at h
      refine z_aload_n hC dX5_addLeaf_16 rfl rfl ?_
      refine z_getR hC (q0 + 6) kF_X5_37 hq0.1 rfl dX5_addLeaf_17 ?_
      refine z_aload_n hC dX5_addLeaf_20 rfl rfl ?_
      refine z_getI hC kF_X5_43 hq0.1 rfl dX5_addLeaf_21 ?_
      refine z_iload_n hC dX5_addLeaf_24 rfl rfl ?_
      obtain ⟨g3, h⟩ := gd_some h
      obtain ⟨u4, e4, h⟩ := mS_some h
      refine y_iast hC hq0.2.2.2.2.2.2.1 g3 dX5_addLeaf_25 e4 ?_
      refine z_aload_n hC dX5_addLeaf_26 rfl rfl ?_
      refine z_getR hC (q0 + 7) kF_X5_40 hq0.1 rfl dX5_addLeaf_27 ?_
      refine z_aload_n hC dX5_addLeaf_30 rfl rfl ?_
      refine z_getI hC kF_X5_43 hq0.1 rfl dX5_addLeaf_31 ?_
      refine z_iload_n hC dX5_addLeaf_34 rfl rfl ?_
      obtain ⟨g5, h⟩ := gd_some h
      obtain ⟨u6, e6, h⟩ := mS_some h
      refine y_iast hC hq0.2.2.2.2.2.2.2 g5 dX5_addLeaf_35 e6 ?_
      refine z_aload_n hC dX5_addLeaf_36 rfl rfl ?_
      refine z_dup hC dX5_addLeaf_37 rfl ?_
      refine z_getI hC kF_X5_43 hq0.1 rfl dX5_addLeaf_38 ?_
      refine z_iconst (v := 1) hC dX5_addLeaf_41 (by decide) ?_
      refine z_iadd hC dX5_addLeaf_42 ?_
      obtain ⟨u7, e7, h⟩ := mS_some h
      refine y_putI hC kP_X5_43 hq0.1 rfl dX5_addLeaf_43 e7 ?_
      refine z_iconst (v := 1) hC dX5_addLeaf_46 (by decide) ?_
      obtain rfl := Option.some.inj h
      exact z_zret hC hE rfl dX5_addLeaf_47
    · rw [if_neg b2] at h
      refine z_iconst (v := 0) hC dX5_addLeaf_14 (by decide) ?_
      obtain rfl := Option.some.inj h
      exact z_zret hC hE rfl dX5_addLeaf_15
theorem m_X5_addLeaf {l : Launch} {dC : Nat → ClassId} {dI : Nat → Nat → Nat} {dA : Nat → ClassId} {as : Nat → Nat} (hD : mDis as) (q0 : Nat) (hq0 : okX5 q0) (x1 : Int32) (x2 : Int32) (u : MU) {r : Int32} {v : MU} (h : f_X5_addLeaf q0 x1 x2 u = some (r, v)) : mMI l dC dI dA as yX5_addLeaf cX5_addLeaf 3 .boolean 0 0 [.ref (as q0), .int x1, .int x2] u r v := mMIof RX5 [some (.ref (as q0)), some (.int x1), some (.int x2)] hD (by decide +kernel) rfl (Nat.le_of_ble_eq_true rfl) rfl (fun C e1 e2 e3 e4 e5 hC hE => by subst e5; exact s_X5_addLeaf_0 hC (res := (r, v)) hE q0 hq0 x1 x2 u h)
