set_option maxHeartbeats 4000000 in
set_option maxRecDepth 100000 in
theorem s_X2_lay_98 {C : mCtx} (hC : mOK cX2_lay RX2 5 2 85 C) {res : Int32 × MU} (hE : mEndV C res.2) (q0 : Nat) (hq0 : okX2 q0) (k20 : Int32 → MU → mR) (hk20 : ∀ (x3 : Int32) (u : MU), k20 x3 u = some res → wat C u 20 [some (.ref (cS C q0)), none, some (.ref (cS C 2)), some (.int x3), none] []) (k41 : Int32 → Int32 → MU → mR) (hk41 : ∀ (x3 : Int32) (x4 : Int32) (u : MU), k41 x3 x4 u = some res → wat C u 41 [some (.ref (cS C q0)), none, some (.ref (cS C 2)), some (.int x3), some (.int x4)] []) (x3 : Int32) (x4 : Int32) (u : MU) (h : b_X2_lay_98 k20 k41 q0 x3 x4 u = some res) : wat C u 98 [some (.ref (cS C q0)), none, some (.ref (cS C 2)), some (.int x3), some (.int x4)] [] := by
  unfold b_X2_lay_98 at h
  refine y_iinc hC (x4 + 1) [some (.ref (cS C q0)), none, some (.ref (cS C 2)), some (.int x3), some (.int (x4 + 1))] dX2_lay_98 rfl rfl rfl (Nat.le_of_ble_eq_true rfl) rfl ?_
  refine z_goto hC 41 dX2_lay_101 (by decide) ?_
  exact hk41 x3 (x4 + 1) u h
set_option maxHeartbeats 4000000 in
set_option maxRecDepth 100000 in
theorem s_X2_lay_41 {C : mCtx} (hC : mOK cX2_lay RX2 5 2 85 C) {res : Int32 × MU} (hE : mEndV C res.2) (q0 : Nat) (hq0 : okX2 q0) (k20 : Int32 → MU → mR) (hk20 : ∀ (x3 : Int32) (u : MU), k20 x3 u = some res → wat C u 20 [some (.ref (cS C q0)), none, some (.ref (cS C 2)), some (.int x3), none] []) (k41 : Int32 → Int32 → MU → mR) (hk41 : ∀ (x3 : Int32) (x4 : Int32) (u : MU), k41 x3 x4 u = some res → wat C u 41 [some (.ref (cS C q0)), none, some (.ref (cS C 2)), some (.int x3), some (.int x4)] []) (x3 : Int32) (x4 : Int32) (u : MU) (h : b_X2_lay_41 k20 k41 q0 x3 x4 u = some res) : wat C u 41 [some (.ref (cS C q0)), none, some (.ref (cS C 2)), some (.int x3), some (.int x4)] [] := by
  unfold b_X2_lay_41 at h
  refine z_iload hC dX2_lay_41 rfl ?_
  refine z_iload_n hC dX2_lay_43 rfl rfl ?_
  refine z_icmp_ge hC 104 dX2_lay_44 (by decide) (fun b1 => ?_) (fun b1 => ?_)
  · rw [if_pos b1] at h
    refine z_aload_n hC dX2_lay_104 rfl rfl ?_
    refine z_aload_n hC dX2_lay_105 rfl rfl ?_
    refine z_getI hC kF_X2_28 hq0.1 rfl dX2_lay_106 ?_
    refine z_aload_n hC dX2_lay_109 rfl rfl ?_
    refine z_getR hC (q0 + 4) kF_X2_18 hq0.1 rfl dX2_lay_110 ?_
    refine z_iload_n hC dX2_lay_113 rfl rfl ?_
    obtain ⟨g2, h⟩ := gd_some h
    refine z_iald hC hq0.2.2.1 g2 dX2_lay_114 ?_
    refine z_iconst (v := 1) hC dX2_lay_115 (by decide) ?_
    refine z_iadd hC dX2_lay_116 ?_
    obtain ⟨r3, u3, c3, h⟩ := mB_some h
    refine z_callSI hC kC_J9_max_7cf53 kM_X2_48 (m_J9_max_7cf53 hC.dis (u q0 4) ((u (q0 + 4) x3.toNatClampNeg) + 1) u c3) rfl (Nat.le_of_ble_eq_true rfl) (Nat.le_of_ble_eq_true rfl) (Nat.le_of_ble_eq_true rfl) rfl dX2_lay_117 ?_
    obtain ⟨u4, e4, h⟩ := mS_some h
    refine y_putI hC kP_X2_28 hq0.1 rfl dX2_lay_120 e4 ?_
    refine y_iinc hC (x3 + 1) [some (.ref (cS C q0)), none, some (.ref (cS C 2)), some (.int (x3 + 1)), some (.int x4)] dX2_lay_123 rfl rfl rfl (Nat.le_of_ble_eq_true rfl) rfl ?_
    refine z_goto hC 20 dX2_lay_126 (by decide) ?_
    refine z_mask [true, false, true, true, false] ?_
    exact hk20 (x3 + 1) u4 h
  · rw [if_neg b1] at h
    refine z_aload_n hC dX2_lay_47 rfl rfl ?_
    refine z_aload_n hC dX2_lay_48 rfl rfl ?_
    refine z_getR hC (q0 + 1) kF_X2_12 hq0.1 rfl dX2_lay_49 ?_
    refine z_iload hC dX2_lay_52 rfl ?_
    refine z_iload_n hC dX2_lay_54 rfl rfl ?_
    obtain ⟨r5, u5, c5, h⟩ := mB_some h
    refine z_callI hC kC_X0_free kM_X2_42 sh_2 TX0 6 rfl (m_X0_free hC.dis (q0 + 1) hq0.2.1 x4 x3 u c5) rfl (Nat.le_of_ble_eq_true rfl) (Nat.le_of_ble_eq_true rfl) (Nat.le_of_ble_eq_true rfl) rfl dX2_lay_55 ?_
    refine z_if_eq hC 74 dX2_lay_58 (by decide) (fun b6 => ?_) (fun b6 => ?_)
    · rw [if_pos b6] at h
      refine z_aload_n hC dX2_lay_74 rfl rfl ?_
      refine z_getR hC (q0 + 4) kF_X2_18 hq0.1 rfl dX2_lay_75 ?_
      refine z_iload_n hC dX2_lay_78 rfl rfl ?_
      refine z_aload_n hC dX2_lay_79 rfl rfl ?_
      refine z_getR hC (q0 + 4) kF_X2_18 hq0.1 rfl dX2_lay_80 ?_
      refine z_iload_n hC dX2_lay_83 rfl rfl ?_
      obtain ⟨g7, h⟩ := gd_some h
      refine z_iald hC hq0.2.2.1 g7 dX2_lay_84 ?_
      refine z_aload_n hC dX2_lay_85 rfl rfl ?_
      refine z_getR hC (q0 + 4) kF_X2_18 hq0.1 rfl dX2_lay_86 ?_
      refine z_iload hC dX2_lay_89 rfl ?_
      obtain ⟨g8, h⟩ := gd_some h
      refine z_iald hC hq0.2.2.1 g8 dX2_lay_91 ?_
      refine z_iconst (v := 1) hC dX2_lay_92 (by decide) ?_
      refine z_iadd hC dX2_lay_93 ?_
      obtain ⟨r9, u9, c9, h⟩ := mB_some h
      refine z_callSI hC kC_J9_max_7cf53 kM_X2_48 (m_J9_max_7cf53 hC.dis (u5 (q0 + 4) x3.toNatClampNeg) ((u5 (q0 + 4) x4.toNatClampNeg) + 1) u5 c9) rfl (Nat.le_of_ble_eq_true rfl) (Nat.le_of_ble_eq_true rfl) (Nat.le_of_ble_eq_true rfl) rfl dX2_lay_94 ?_
      obtain ⟨g10, h⟩ := gd_some h
      obtain ⟨u11, e11, h⟩ := mS_some h
      refine y_iast hC hq0.2.2.1 g10 dX2_lay_97 e11 ?_
      exact s_X2_lay_98 hC hE q0 hq0 k20 hk20 k41 hk41 x3 x4 u11 h
    · rw [if_neg b6] at h
      refine z_aload_n hC dX2_lay_61 rfl rfl ?_
      refine z_dup hC dX2_lay_62 rfl ?_
      refine z_getI hC kF_X2_32 hq0.1 rfl dX2_lay_63 ?_
      refine z_iconst (v := 1) hC dX2_lay_66 (by decide) ?_
      refine z_iadd hC dX2_lay_67 ?_
      obtain ⟨u12, e12, h⟩ := mS_some h
      refine y_putI hC kP_X2_32 hq0.1 rfl dX2_lay_68 e12 ?_
      refine z_goto hC 98 dX2_lay_71 (by decide) ?_
      exact s_X2_lay_98 hC hE q0 hq0 k20 hk20 k41 hk41 x3 x4 u12 h
set_option maxHeartbeats 4000000 in
set_option maxRecDepth 100000 in
theorem t_X2_lay_41 {C : mCtx} (hC : mOK cX2_lay RX2 5 2 85 C) {res : Int32 × MU} (hE : mEndV C res.2) (q0 : Nat) (hq0 : okX2 q0) (k20 : Int32 → MU → mR) (hk20 : ∀ (x3 : Int32) (u : MU), k20 x3 u = some res → wat C u 20 [some (.ref (cS C q0)), none, some (.ref (cS C 2)), some (.int x3), none] []) : ∀ (n : Nat) (x3 : Int32) (x4 : Int32) (u : MU), l_X2_lay_41 k20 q0 n x3 x4 u = some res → wat C u 41 [some (.ref (cS C q0)), none, some (.ref (cS C 2)), some (.int x3), some (.int x4)] [] := by
  intro n
  induction n with
  | zero => intro x3 x4 u h; exact absurd h (by simp [l_X2_lay_41])
  | succ n ih =>
    intro x3 x4 u h
    exact s_X2_lay_41 hC hE q0 hq0 k20 hk20 (fun x3 x4 u => l_X2_lay_41 k20 q0 n x3 x4 u) ih x3 x4 u h
set_option maxHeartbeats 4000000 in
set_option maxRecDepth 100000 in
theorem s_X2_lay_131 {C : mCtx} (hC : mOK cX2_lay RX2 5 2 85 C) {res : Int32 × MU} (hE : mEndV C res.2) (q0 : Nat) (hq0 : okX2 q0) (k131 : Int32 → MU → mR) (hk131 : ∀ (x3 : Int32) (u : MU), k131 x3 u = some res → wat C u 131 [some (.ref (cS C q0)), none, none, some (.int x3), none] []) (x3 : Int32) (u : MU) (h : b_X2_lay_131 k131 q0 x3 u = some res) : wat C u 131 [some (.ref (cS C q0)), none, none, some (.int x3), none] [] := by
  unfold b_X2_lay_131 at h
  refine z_iload_n hC dX2_lay_131 rfl rfl ?_
  refine z_aload_n hC dX2_lay_132 rfl rfl ?_
  refine z_getR hC (q0 + 1) kF_X2_12 hq0.1 rfl dX2_lay_133 ?_
  refine z_getI hC kF_X2_39 hq0.2.1.1 rfl dX2_lay_136 ?_
  refine z_icmp_ge hC 160 dX2_lay_139 (by decide) (fun b1 => ?_) (fun b1 => ?_)
  · rw [if_pos b1] at h
    obtain rfl := Option.some.inj h
    exact z_vret hC hE dX2_lay_160
  · rw [if_neg b1] at h
    refine z_aload_n hC dX2_lay_142 rfl rfl ?_
    refine z_getR hC (q0 + 5) kF_X2_22 hq0.1 rfl dX2_lay_143 ?_
    refine z_iload_n hC dX2_lay_146 rfl rfl ?_
    refine z_aload_n hC dX2_lay_147 rfl rfl ?_
    refine z_iload_n hC dX2_lay_148 rfl rfl ?_
    refine z_iconst (v := nI 2) hC dX2_lay_149 (by decide) ?_
    obtain ⟨r2, u2, c2, h⟩ := mB_some h
    refine z_callI hC kC_X2_position kM_X2_54 hq0.1 TX2 6 rfl (m_X2_position hC.dis q0 hq0 x3 (nI 2) u c2) rfl (Nat.le_of_ble_eq_true rfl) (Nat.le_of_ble_eq_true rfl) (Nat.le_of_ble_eq_true rfl) rfl dX2_lay_150 ?_
    obtain ⟨g3, h⟩ := gd_some h
    obtain ⟨u4, e4, h⟩ := mS_some h
    refine y_iast hC hq0.2.2.2.1 g3 dX2_lay_153 e4 ?_
    refine y_iinc hC (x3 + 1) [some (.ref (cS C q0)), none, none, some (.int (x3 + 1)), none] dX2_lay_154 rfl rfl rfl (Nat.le_of_ble_eq_true rfl) rfl ?_
    refine z_goto hC 131 dX2_lay_157 (by decide) ?_
    exact hk131 (x3 + 1) u4 h
set_option maxHeartbeats 4000000 in
set_option maxRecDepth 100000 in
theorem t_X2_lay_131 {C : mCtx} (hC : mOK cX2_lay RX2 5 2 85 C) {res : Int32 × MU} (hE : mEndV C res.2) (q0 : Nat) (hq0 : okX2 q0) : ∀ (n : Nat) (x3 : Int32) (u : MU), l_X2_lay_131 q0 n x3 u = some res → wat C u 131 [some (.ref (cS C q0)), none, none, some (.int x3), none] [] := by
  intro n
  induction n with
  | zero => intro x3 u h; exact absurd h (by simp [l_X2_lay_131])
  | succ n ih =>
    intro x3 u h
    exact s_X2_lay_131 hC hE q0 hq0 (fun x3 u => l_X2_lay_131 q0 n x3 u) ih x3 u h
set_option maxHeartbeats 4000000 in
set_option maxRecDepth 100000 in
theorem s_X2_lay_20 {C : mCtx} (hC : mOK cX2_lay RX2 5 2 85 C) {res : Int32 × MU} (hE : mEndV C res.2) (q0 : Nat) (hq0 : okX2 q0) (k20 : Int32 → MU → mR) (hk20 : ∀ (x3 : Int32) (u : MU), k20 x3 u = some res → wat C u 20 [some (.ref (cS C q0)), none, some (.ref (cS C 2)), some (.int x3), none] []) (x3 : Int32) (u : MU) (h : b_X2_lay_20 k20 q0 x3 u = some res) : wat C u 20 [some (.ref (cS C q0)), none, some (.ref (cS C 2)), some (.int x3), none] [] := by
  unfold b_X2_lay_20 at h
  refine z_iload_n hC dX2_lay_20 rfl rfl ?_
  refine z_aload_n hC dX2_lay_21 rfl rfl ?_
  refine z_getR hC (q0 + 1) kF_X2_12 hq0.1 rfl dX2_lay_22 ?_
  refine z_getI hC kF_X2_39 hq0.2.1.1 rfl dX2_lay_25 ?_
  refine z_icmp_ge hC 129 dX2_lay_28 (by decide) (fun b1 => ?_) (fun b1 => ?_)
  · rw [if_pos b1] at h
    refine z_iconst (v := 0) hC dX2_lay_129 (by decide) ?_
    refine y_istore_n hC [some (.ref (cS C q0)), none, some (.ref (cS C 2)), some (.int 0), none] dX2_lay_130 rfl rfl (Nat.le_of_ble_eq_true rfl) (Nat.le_of_ble_eq_true rfl) rfl ?_
    refine z_mask [true, false, false, true, false] ?_
    exact t_X2_lay_131 hC hE q0 hq0 FU 0 u h
  · rw [if_neg b1] at h
    refine z_aload_n hC dX2_lay_31 rfl rfl ?_
    refine z_getR hC (q0 + 4) kF_X2_18 hq0.1 rfl dX2_lay_32 ?_
    refine z_iload_n hC dX2_lay_35 rfl rfl ?_
    refine z_iconst (v := 0) hC dX2_lay_36 (by decide) ?_
    obtain ⟨g2, h⟩ := gd_some h
    obtain ⟨u3, e3, h⟩ := mS_some h
    refine y_iast hC hq0.2.2.1 g2 dX2_lay_37 e3 ?_
    refine z_iconst (v := 0) hC dX2_lay_38 (by decide) ?_
    refine y_istore hC [some (.ref (cS C q0)), none, some (.ref (cS C 2)), some (.int x3), some (.int 0)] dX2_lay_39 rfl (Nat.le_of_ble_eq_true rfl) (Nat.le_of_ble_eq_true rfl) rfl ?_
    exact t_X2_lay_41 hC hE q0 hq0 k20 hk20 FU x3 0 u3 h
set_option maxHeartbeats 4000000 in
set_option maxRecDepth 100000 in
theorem t_X2_lay_20 {C : mCtx} (hC : mOK cX2_lay RX2 5 2 85 C) {res : Int32 × MU} (hE : mEndV C res.2) (q0 : Nat) (hq0 : okX2 q0) : ∀ (n : Nat) (x3 : Int32) (u : MU), l_X2_lay_20 q0 n x3 u = some res → wat C u 20 [some (.ref (cS C q0)), none, some (.ref (cS C 2)), some (.int x3), none] [] := by
  intro n
  induction n with
  | zero => intro x3 u h; exact absurd h (by simp [l_X2_lay_20])
  | succ n ih =>
    intro x3 u h
    exact s_X2_lay_20 hC hE q0 hq0 (fun x3 u => l_X2_lay_20 q0 n x3 u) ih x3 u h
set_option maxHeartbeats 4000000 in
set_option maxRecDepth 100000 in
theorem s_X2_lay_0 {C : mCtx} (hC : mOK cX2_lay RX2 5 2 85 C) {res : Int32 × MU} (hE : mEndV C res.2) (q0 : Nat) (hq0 : okX2 q0) (q1 : Nat) (hq1 : okX4 q1) (u : MU) (h : f_X2_lay q0 q1 u = some res) : wat C u 0 [some (.ref (cS C q0)), some (.ref (cS C q1)), some (.ref (cS C 2)), none, none] [] := by
  unfold f_X2_lay at h
  refine z_aload_n hC dX2_lay_0 rfl rfl ?_
  refine z_getR hC (q0 + 1) kF_X2_12 hq0.1 rfl dX2_lay_1 ?_
  refine z_aload_n hC dX2_lay_4 rfl rfl ?_
  obtain ⟨r1, u1, c1, h⟩ := mB_some h
  refine z_callV hC kC_X4_copyFrom kM_X2_35 hq0.2.1.1 TX4 3 rfl (m_X4_copyFrom hC.dis (q0 + 1) hq0.2.1 q1 hq1 u c1) rfl (Nat.le_of_ble_eq_true rfl) (Nat.le_of_ble_eq_true rfl) (Nat.le_of_ble_eq_true rfl) rfl dX2_lay_5 ?_
  refine z_aload_n hC dX2_lay_8 rfl rfl ?_
  refine z_iconst (v := 0) hC dX2_lay_9 (by decide) ?_
  obtain ⟨u2, e2, h⟩ := mS_some h
  refine y_putI hC kP_X2_28 hq0.1 rfl dX2_lay_10 e2 ?_
  refine z_aload_n hC dX2_lay_13 rfl rfl ?_
  refine z_iconst (v := 0) hC dX2_lay_14 (by decide) ?_
  obtain ⟨u3, e3, h⟩ := mS_some h
  refine y_putI hC kP_X2_32 hq0.1 rfl dX2_lay_15 e3 ?_
  refine z_iconst (v := 0) hC dX2_lay_18 (by decide) ?_
  refine y_istore_n hC [some (.ref (cS C q0)), some (.ref (cS C q1)), some (.ref (cS C 2)), some (.int 0), none] dX2_lay_19 rfl rfl (Nat.le_of_ble_eq_true rfl) (Nat.le_of_ble_eq_true rfl) rfl ?_
  refine z_mask [true, false, true, true, false] ?_
  exact t_X2_lay_20 hC hE q0 hq0 FU 0 u3 h
theorem m_X2_lay {l : Launch} {dC : Nat → ClassId} {dI : Nat → Nat → Nat} {dA : Nat → ClassId} {as : Nat → Nat} (hD : mDis as) (q0 : Nat) (hq0 : okX2 q0) (q1 : Nat) (hq1 : okX4 q1) (u : MU) {r : Int32} {v : MU} (h : f_X2_lay q0 q1 u = some (r, v)) : mMV l dC dI dA as yX2_lay cX2_lay 5 2 85 [.ref (as q0), .ref (as q1), .ref (as 2)] u v := mMVof RX2 [some (.ref (as q0)), some (.ref (as q1)), some (.ref (as 2)), none, none] hD (by decide +kernel) rfl (Nat.le_of_ble_eq_true rfl) rfl (fun C e1 e2 e3 e4 e5 hC hE => by subst e5; exact s_X2_lay_0 hC (res := (r, v)) hE q0 hq0 q1 hq1 u h)
set_option maxHeartbeats 4000000 in
set_option maxRecDepth 100000 in
theorem s_X2_arrange_2 {C : mCtx} (hC : mOK cX2_arrange RX2 3 2 47 C) {res : Int32 × MU} (hE : mEndV C res.2) (q0 : Nat) (hq0 : okX2 q0) (x1 : Int32) (k2 : Int32 → MU → mR) (hk2 : ∀ (x2 : Int32) (u : MU), k2 x2 u = some res → wat C u 2 [some (.ref (cS C q0)), some (.int x1), some (.int x2)] []) (x2 : Int32) (u : MU) (h : b_X2_arrange_2 k2 q0 x1 x2 u = some res) : wat C u 2 [some (.ref (cS C q0)), some (.int x1), some (.int x2)] [] := by
  unfold b_X2_arrange_2 at h
  refine z_iload_n hC dX2_arrange_2 rfl rfl ?_
  refine z_aload_n hC dX2_arrange_3 rfl rfl ?_
  refine z_getR hC (q0 + 1) kF_X2_12 hq0.1 rfl dX2_arrange_4 ?_
  refine z_getI hC kF_X2_39 hq0.2.1.1 rfl dX2_arrange_7 ?_
  refine z_icmp_ge hC 31 dX2_arrange_10 (by decide) (fun b1 => ?_) (fun b1 => ?_)
  · rw [if_pos b1] at h
    obtain rfl := Option.some.inj h
    exact z_vret hC hE dX2_arrange_31
  · rw [if_neg b1] at h
    refine z_aload_n hC dX2_arrange_13 rfl rfl ?_
    refine z_getR hC (q0 + 6) kF_X2_25 hq0.1 rfl dX2_arrange_14 ?_
    refine z_aload_n hC dX2_arrange_17 rfl rfl ?_
    refine z_iload_n hC dX2_arrange_18 rfl rfl ?_
    refine z_iload_n hC dX2_arrange_19 rfl rfl ?_
    obtain ⟨r2, u2, c2, h⟩ := mB_some h
    refine z_callI hC kC_X2_position kM_X2_54 hq0.1 TX2 6 rfl (m_X2_position hC.dis q0 hq0 x2 x1 u c2) rfl (Nat.le_of_ble_eq_true rfl) (Nat.le_of_ble_eq_true rfl) (Nat.le_of_ble_eq_true rfl) rfl dX2_arrange_20 ?_
    refine z_iload_n hC dX2_arrange_23 rfl rfl ?_
    obtain ⟨g3, h⟩ := gd_some h
    obtain ⟨u4, e4, h⟩ := mS_some h
    refine y_iast hC hq0.2.2.2.2 g3 dX2_arrange_24 e4 ?_
    refine y_iinc hC (x2 + 1) [some (.ref (cS C q0)), some (.int x1), some (.int (x2 + 1))] dX2_arrange_25 rfl rfl rfl (Nat.le_of_ble_eq_true rfl) rfl ?_
    refine z_goto hC 2 dX2_arrange_28 (by decide) ?_
    exact hk2 (x2 + 1) u4 h
set_option maxHeartbeats 4000000 in
set_option maxRecDepth 100000 in
theorem t_X2_arrange_2 {C : mCtx} (hC : mOK cX2_arrange RX2 3 2 47 C) {res : Int32 × MU} (hE : mEndV C res.2) (q0 : Nat) (hq0 : okX2 q0) (x1 : Int32) : ∀ (n : Nat) (x2 : Int32) (u : MU), l_X2_arrange_2 q0 x1 n x2 u = some res → wat C u 2 [some (.ref (cS C q0)), some (.int x1), some (.int x2)] [] := by
  intro n
  induction n with
  | zero => intro x2 u h; exact absurd h (by simp [l_X2_arrange_2])
  | succ n ih =>
    intro x2 u h
    exact s_X2_arrange_2 hC hE q0 hq0 x1 (fun x2 u => l_X2_arrange_2 q0 x1 n x2 u) ih x2 u h
set_option maxHeartbeats 4000000 in
set_option maxRecDepth 100000 in
theorem s_X2_arrange_0 {C : mCtx} (hC : mOK cX2_arrange RX2 3 2 47 C) {res : Int32 × MU} (hE : mEndV C res.2) (q0 : Nat) (hq0 : okX2 q0) (x1 : Int32) (u : MU) (h : f_X2_arrange q0 x1 u = some res) : wat C u 0 [some (.ref (cS C q0)), some (.int x1), none] [] := by
  unfold f_X2_arrange at h
  refine z_iconst (v := 0) hC dX2_arrange_0 (by decide) ?_
  refine y_istore_n hC [some (.ref (cS C q0)), some (.int x1), some (.int 0)] dX2_arrange_1 rfl rfl (Nat.le_of_ble_eq_true rfl) (Nat.le_of_ble_eq_true rfl) rfl ?_
  exact t_X2_arrange_2 hC hE q0 hq0 x1 FU 0 u h
theorem m_X2_arrange {l : Launch} {dC : Nat → ClassId} {dI : Nat → Nat → Nat} {dA : Nat → ClassId} {as : Nat → Nat} (hD : mDis as) (q0 : Nat) (hq0 : okX2 q0) (x1 : Int32) (u : MU) {r : Int32} {v : MU} (h : f_X2_arrange q0 x1 u = some (r, v)) : mMV l dC dI dA as yX2_arrange cX2_arrange 3 2 47 [.ref (as q0), .int x1] u v := mMVof RX2 [some (.ref (as q0)), some (.int x1), none] hD (by decide +kernel) rfl (Nat.le_of_ble_eq_true rfl) rfl (fun C e1 e2 e3 e4 e5 hC hE => by subst e5; exact s_X2_arrange_0 hC (res := (r, v)) hE q0 hq0 x1 u h)
set_option maxHeartbeats 4000000 in
set_option maxRecDepth 100000 in
theorem s_X2_sizeOfStage_28 {C : mCtx} (hC : mOK cX2_sizeOfStage RX2 4 0 0 C) {res : Int32 × MU} (hE : mEndI C .int res.1 res.2) (q0 : Nat) (hq0 : okX2 q0) (x1 : Int32) (k4 : Int32 → Int32 → MU → mR) (hk4 : ∀ (x2 : Int32) (x3 : Int32) (u : MU), k4 x2 x3 u = some res → wat C u 4 [some (.ref (cS C q0)), some (.int x1), some (.int x2), some (.int x3)] []) (x2 : Int32) (x3 : Int32) (u : MU) (h : b_X2_sizeOfStage_28 k4 q0 x1 x2 x3 u = some res) : wat C u 28 [some (.ref (cS C q0)), some (.int x1), some (.int x2), some (.int x3)] [] := by
  unfold b_X2_sizeOfStage_28 at h
  refine y_iinc hC (x3 + 1) [some (.ref (cS C q0)), some (.int x1), some (.int x2), some (.int (x3 + 1))] dX2_sizeOfStage_28 rfl rfl rfl (Nat.le_of_ble_eq_true rfl) rfl ?_
  refine z_goto hC 4 dX2_sizeOfStage_31 (by decide) ?_
  exact hk4 x2 (x3 + 1) u h
set_option maxHeartbeats 4000000 in
set_option maxRecDepth 100000 in
theorem s_X2_sizeOfStage_4 {C : mCtx} (hC : mOK cX2_sizeOfStage RX2 4 0 0 C) {res : Int32 × MU} (hE : mEndI C .int res.1 res.2) (q0 : Nat) (hq0 : okX2 q0) (x1 : Int32) (k4 : Int32 → Int32 → MU → mR) (hk4 : ∀ (x2 : Int32) (x3 : Int32) (u : MU), k4 x2 x3 u = some res → wat C u 4 [some (.ref (cS C q0)), some (.int x1), some (.int x2), some (.int x3)] []) (x2 : Int32) (x3 : Int32) (u : MU) (h : b_X2_sizeOfStage_4 k4 q0 x1 x2 x3 u = some res) : wat C u 4 [some (.ref (cS C q0)), some (.int x1), some (.int x2), some (.int x3)] [] := by
  unfold b_X2_sizeOfStage_4 at h
  refine z_iload_n hC dX2_sizeOfStage_4 rfl rfl ?_
  refine z_aload_n hC dX2_sizeOfStage_5 rfl rfl ?_
  refine z_getR hC (q0 + 1) kF_X2_12 hq0.1 rfl dX2_sizeOfStage_6 ?_
  refine z_getI hC kF_X2_39 hq0.2.1.1 rfl dX2_sizeOfStage_9 ?_
  refine z_icmp_ge hC 34 dX2_sizeOfStage_12 (by decide) (fun b1 => ?_) (fun b1 => ?_)
  · rw [if_pos b1] at h
    refine z_iload_n hC dX2_sizeOfStage_34 rfl rfl ?_
    obtain rfl := Option.some.inj h
    exact z_iret hC hE dX2_sizeOfStage_35
  · rw [if_neg b1] at h
    refine z_aload_n hC dX2_sizeOfStage_15 rfl rfl ?_
    refine z_getR hC (q0 + 4) kF_X2_18 hq0.1 rfl dX2_sizeOfStage_16 ?_
    refine z_iload_n hC dX2_sizeOfStage_19 rfl rfl ?_
    obtain ⟨g2, h⟩ := gd_some h
    refine z_iald hC hq0.2.2.1 g2 dX2_sizeOfStage_20 ?_
    refine z_iload_n hC dX2_sizeOfStage_21 rfl rfl ?_
    refine z_icmp_ne hC 28 dX2_sizeOfStage_22 (by decide) (fun b3 => ?_) (fun b3 => ?_)
    · rw [if_neg b3] at h
      exact s_X2_sizeOfStage_28 hC hE q0 hq0 x1 k4 hk4 x2 x3 u h
    · rw [if_pos b3] at h
      refine y_iinc hC (x2 + 1) [some (.ref (cS C q0)), some (.int x1), some (.int (x2 + 1)), some (.int x3)] dX2_sizeOfStage_25 rfl rfl rfl (Nat.le_of_ble_eq_true rfl) rfl ?_
      exact s_X2_sizeOfStage_28 hC hE q0 hq0 x1 k4 hk4 (x2 + 1) x3 u h
set_option maxHeartbeats 4000000 in
set_option maxRecDepth 100000 in
theorem t_X2_sizeOfStage_4 {C : mCtx} (hC : mOK cX2_sizeOfStage RX2 4 0 0 C) {res : Int32 × MU} (hE : mEndI C .int res.1 res.2) (q0 : Nat) (hq0 : okX2 q0) (x1 : Int32) : ∀ (n : Nat) (x2 : Int32) (x3 : Int32) (u : MU), l_X2_sizeOfStage_4 q0 x1 n x2 x3 u = some res → wat C u 4 [some (.ref (cS C q0)), some (.int x1), some (.int x2), some (.int x3)] [] := by
  intro n
  induction n with
  | zero => intro x2 x3 u h; exact absurd h (by simp [l_X2_sizeOfStage_4])
  | succ n ih =>
    intro x2 x3 u h
    exact s_X2_sizeOfStage_4 hC hE q0 hq0 x1 (fun x2 x3 u => l_X2_sizeOfStage_4 q0 x1 n x2 x3 u) ih x2 x3 u h
set_option maxHeartbeats 4000000 in
set_option maxRecDepth 100000 in
theorem s_X2_sizeOfStage_0 {C : mCtx} (hC : mOK cX2_sizeOfStage RX2 4 0 0 C) {res : Int32 × MU} (hE : mEndI C .int res.1 res.2) (q0 : Nat) (hq0 : okX2 q0) (x1 : Int32) (u : MU) (h : f_X2_sizeOfStage q0 x1 u = some res) : wat C u 0 [some (.ref (cS C q0)), some (.int x1), none, none] [] := by
  unfold f_X2_sizeOfStage at h
  refine z_iconst (v := 0) hC dX2_sizeOfStage_0 (by decide) ?_
  refine y_istore_n hC [some (.ref (cS C q0)), some (.int x1), some (.int 0), none] dX2_sizeOfStage_1 rfl rfl (Nat.le_of_ble_eq_true rfl) (Nat.le_of_ble_eq_true rfl) rfl ?_
  refine z_iconst (v := 0) hC dX2_sizeOfStage_2 (by decide) ?_
  refine y_istore_n hC [some (.ref (cS C q0)), some (.int x1), some (.int 0), some (.int 0)] dX2_sizeOfStage_3 rfl rfl (Nat.le_of_ble_eq_true rfl) (Nat.le_of_ble_eq_true rfl) rfl ?_
  exact t_X2_sizeOfStage_4 hC hE q0 hq0 x1 FU 0 0 u h
theorem m_X2_sizeOfStage {l : Launch} {dC : Nat → ClassId} {dI : Nat → Nat → Nat} {dA : Nat → ClassId} {as : Nat → Nat} (hD : mDis as) (q0 : Nat) (hq0 : okX2 q0) (x1 : Int32) (u : MU) {r : Int32} {v : MU} (h : f_X2_sizeOfStage q0 x1 u = some (r, v)) : mMI l dC dI dA as yX2_sizeOfStage cX2_sizeOfStage 4 .int 0 0 [.ref (as q0), .int x1] u r v := mMIof RX2 [some (.ref (as q0)), some (.int x1), none, none] hD (by decide +kernel) rfl (Nat.le_of_ble_eq_true rfl) rfl (fun C e1 e2 e3 e4 e5 hC hE => by subst e5; exact s_X2_sizeOfStage_0 hC (res := (r, v)) hE q0 hq0 x1 u h)
set_option maxHeartbeats 4000000 in
set_option maxRecDepth 100000 in
theorem s_X2_mostOfOneStage_4 {C : mCtx} (hC : mOK cX2_mostOfOneStage RX2 3 1 23 C) {res : Int32 × MU} (hE : mEndI C .int res.1 res.2) (q0 : Nat) (hq0 : okX2 q0) (k4 : Int32 → Int32 → MU → mR) (hk4 : ∀ (x1 : Int32) (x2 : Int32) (u : MU), k4 x1 x2 u = some res → wat C u 4 [some (.ref (cS C q0)), some (.int x1), some (.int x2)] []) (x1 : Int32) (x2 : Int32) (u : MU) (h : b_X2_mostOfOneStage_4 k4 q0 x1 x2 u = some res) : wat C u 4 [some (.ref (cS C q0)), some (.int x1), some (.int x2)] [] := by
  unfold b_X2_mostOfOneStage_4 at h
  refine z_iload_n hC dX2_mostOfOneStage_4 rfl rfl ?_
  refine z_aload_n hC dX2_mostOfOneStage_5 rfl rfl ?_
  refine z_getI hC kF_X2_28 hq0.1 rfl dX2_mostOfOneStage_6 ?_
  refine z_icmp_ge hC 28 dX2_mostOfOneStage_9 (by decide) (fun b1 => ?_) (fun b1 => ?_)
  · rw [if_pos b1] at h
    refine z_iload_n hC dX2_mostOfOneStage_28 rfl rfl ?_
    obtain rfl := Option.some.inj h
    exact z_iret hC hE dX2_mostOfOneStage_29
  · rw [if_neg b1] at h
    refine z_iload_n hC dX2_mostOfOneStage_12 rfl rfl ?_
    refine z_aload_n hC dX2_mostOfOneStage_13 rfl rfl ?_
    refine z_iload_n hC dX2_mostOfOneStage_14 rfl rfl ?_
    obtain ⟨r2, u2, c2, h⟩ := mB_some h
    refine z_callI hC kC_X2_sizeOfStage kM_X2_57 hq0.1 TX2 6 rfl (m_X2_sizeOfStage hC.dis q0 hq0 x2 u c2) rfl (Nat.le_of_ble_eq_true rfl) (Nat.le_of_ble_eq_true rfl) (Nat.le_of_ble_eq_true rfl) rfl dX2_mostOfOneStage_15 ?_
    obtain ⟨r3, u3, c3, h⟩ := mB_some h
    refine z_callSI hC kC_J9_max_7cf53 kM_X2_48 (m_J9_max_7cf53 hC.dis x1 r2 u2 c3) rfl (Nat.le_of_ble_eq_true rfl) (Nat.le_of_ble_eq_true rfl) (Nat.le_of_ble_eq_true rfl) rfl dX2_mostOfOneStage_18 ?_
    refine y_istore_n hC [some (.ref (cS C q0)), some (.int r3), some (.int x2)] dX2_mostOfOneStage_21 rfl rfl (Nat.le_of_ble_eq_true rfl) (Nat.le_of_ble_eq_true rfl) rfl ?_
    refine y_iinc hC (x2 + 1) [some (.ref (cS C q0)), some (.int r3), some (.int (x2 + 1))] dX2_mostOfOneStage_22 rfl rfl rfl (Nat.le_of_ble_eq_true rfl) rfl ?_
    refine z_goto hC 4 dX2_mostOfOneStage_25 (by decide) ?_
    exact hk4 r3 (x2 + 1) u3 h
set_option maxHeartbeats 4000000 in
set_option maxRecDepth 100000 in
theorem t_X2_mostOfOneStage_4 {C : mCtx} (hC : mOK cX2_mostOfOneStage RX2 3 1 23 C) {res : Int32 × MU} (hE : mEndI C .int res.1 res.2) (q0 : Nat) (hq0 : okX2 q0) : ∀ (n : Nat) (x1 : Int32) (x2 : Int32) (u : MU), l_X2_mostOfOneStage_4 q0 n x1 x2 u = some res → wat C u 4 [some (.ref (cS C q0)), some (.int x1), some (.int x2)] [] := by
  intro n
  induction n with
  | zero => intro x1 x2 u h; exact absurd h (by simp [l_X2_mostOfOneStage_4])
  | succ n ih =>
    intro x1 x2 u h
    exact s_X2_mostOfOneStage_4 hC hE q0 hq0 (fun x1 x2 u => l_X2_mostOfOneStage_4 q0 n x1 x2 u) ih x1 x2 u h
set_option maxHeartbeats 4000000 in
set_option maxRecDepth 100000 in
theorem s_X2_mostOfOneStage_0 {C : mCtx} (hC : mOK cX2_mostOfOneStage RX2 3 1 23 C) {res : Int32 × MU} (hE : mEndI C .int res.1 res.2) (q0 : Nat) (hq0 : okX2 q0) (u : MU) (h : f_X2_mostOfOneStage q0 u = some res) : wat C u 0 [some (.ref (cS C q0)), none, none] [] := by
  unfold f_X2_mostOfOneStage at h
  refine z_iconst (v := 0) hC dX2_mostOfOneStage_0 (by decide) ?_
  refine y_istore_n hC [some (.ref (cS C q0)), some (.int 0), none] dX2_mostOfOneStage_1 rfl rfl (Nat.le_of_ble_eq_true rfl) (Nat.le_of_ble_eq_true rfl) rfl ?_
  refine z_iconst (v := 0) hC dX2_mostOfOneStage_2 (by decide) ?_
  refine y_istore_n hC [some (.ref (cS C q0)), some (.int 0), some (.int 0)] dX2_mostOfOneStage_3 rfl rfl (Nat.le_of_ble_eq_true rfl) (Nat.le_of_ble_eq_true rfl) rfl ?_
  exact t_X2_mostOfOneStage_4 hC hE q0 hq0 FU 0 0 u h
theorem m_X2_mostOfOneStage {l : Launch} {dC : Nat → ClassId} {dI : Nat → Nat → Nat} {dA : Nat → ClassId} {as : Nat → Nat} (hD : mDis as) (q0 : Nat) (hq0 : okX2 q0) (u : MU) {r : Int32} {v : MU} (h : f_X2_mostOfOneStage q0 u = some (r, v)) : mMI l dC dI dA as yX2_mostOfOneStage cX2_mostOfOneStage 3 .int 1 23 [.ref (as q0)] u r v := mMIof RX2 [some (.ref (as q0)), none, none] hD (by decide +kernel) rfl (Nat.le_of_ble_eq_true rfl) rfl (fun C e1 e2 e3 e4 e5 hC hE => by subst e5; exact s_X2_mostOfOneStage_0 hC (res := (r, v)) hE q0 hq0 u h)
set_option maxHeartbeats 4000000 in
set_option maxRecDepth 100000 in
theorem s_X2_firstFullestStage_7 {C : mCtx} (hC : mOK cX2_firstFullestStage RX2 3 2 45 C) {res : Int32 × MU} (hE : mEndI C .int res.1 res.2) (q0 : Nat) (hq0 : okX2 q0) (k7 : Int32 → Int32 → MU → mR) (hk7 : ∀ (x1 : Int32) (x2 : Int32) (u : MU), k7 x1 x2 u = some res → wat C u 7 [some (.ref (cS C q0)), some (.int x1), some (.int x2)] []) (x1 : Int32) (x2 : Int32) (u : MU) (h : b_X2_firstFullestStage_7 k7 q0 x1 x2 u = some res) : wat C u 7 [some (.ref (cS C q0)), some (.int x1), some (.int x2)] [] := by
  unfold b_X2_firstFullestStage_7 at h
  refine z_iload_n hC dX2_firstFullestStage_7 rfl rfl ?_
  refine z_aload_n hC dX2_firstFullestStage_8 rfl rfl ?_
  refine z_getI hC kF_X2_28 hq0.1 rfl dX2_firstFullestStage_9 ?_
  refine z_icmp_ge hC 32 dX2_firstFullestStage_12 (by decide) (fun b1 => ?_) (fun b1 => ?_)
  · rw [if_pos b1] at h
    refine z_bipush (v := (-6)) hC dX2_firstFullestStage_32 (by decide) ?_
    obtain rfl := Option.some.inj h
    exact z_iret hC hE dX2_firstFullestStage_34
  · rw [if_neg b1] at h
    refine z_aload_n hC dX2_firstFullestStage_15 rfl rfl ?_
    refine z_iload_n hC dX2_firstFullestStage_16 rfl rfl ?_
    obtain ⟨r2, u2, c2, h⟩ := mB_some h
    refine z_callI hC kC_X2_sizeOfStage kM_X2_57 hq0.1 TX2 6 rfl (m_X2_sizeOfStage hC.dis q0 hq0 x2 u c2) rfl (Nat.le_of_ble_eq_true rfl) (Nat.le_of_ble_eq_true rfl) (Nat.le_of_ble_eq_true rfl) rfl dX2_firstFullestStage_17 ?_
    refine z_iload_n hC dX2_firstFullestStage_20 rfl rfl ?_
    refine z_icmp_ne hC 26 dX2_firstFullestStage_21 (by decide) (fun b3 => ?_) (fun b3 => ?_)
    · rw [if_neg b3] at h
      refine y_iinc hC (x2 + 1) [some (.ref (cS C q0)), some (.int x1), some (.int (x2 + 1))] dX2_firstFullestStage_26 rfl rfl rfl (Nat.le_of_ble_eq_true rfl) rfl ?_
      refine z_goto hC 7 dX2_firstFullestStage_29 (by decide) ?_
      exact hk7 x1 (x2 + 1) u2 h
    · rw [if_pos b3] at h
      refine z_iload_n hC dX2_firstFullestStage_24 rfl rfl ?_
      obtain rfl := Option.some.inj h
      exact z_iret hC hE dX2_firstFullestStage_25
set_option maxHeartbeats 4000000 in
set_option maxRecDepth 100000 in
theorem t_X2_firstFullestStage_7 {C : mCtx} (hC : mOK cX2_firstFullestStage RX2 3 2 45 C) {res : Int32 × MU} (hE : mEndI C .int res.1 res.2) (q0 : Nat) (hq0 : okX2 q0) : ∀ (n : Nat) (x1 : Int32) (x2 : Int32) (u : MU), l_X2_firstFullestStage_7 q0 n x1 x2 u = some res → wat C u 7 [some (.ref (cS C q0)), some (.int x1), some (.int x2)] [] := by
  intro n
  induction n with
  | zero => intro x1 x2 u h; exact absurd h (by simp [l_X2_firstFullestStage_7])
  | succ n ih =>
    intro x1 x2 u h
    exact s_X2_firstFullestStage_7 hC hE q0 hq0 (fun x1 x2 u => l_X2_firstFullestStage_7 q0 n x1 x2 u) ih x1 x2 u h
set_option maxHeartbeats 4000000 in
set_option maxRecDepth 100000 in
theorem s_X2_firstFullestStage_0 {C : mCtx} (hC : mOK cX2_firstFullestStage RX2 3 2 45 C) {res : Int32 × MU} (hE : mEndI C .int res.1 res.2) (q0 : Nat) (hq0 : okX2 q0) (u : MU) (h : f_X2_firstFullestStage q0 u = some res) : wat C u 0 [some (.ref (cS C q0)), none, none] [] := by
  unfold f_X2_firstFullestStage at h
  refine z_aload_n hC dX2_firstFullestStage_0 rfl rfl ?_
  obtain ⟨r1, u1, c1, h⟩ := mB_some h
  refine z_callI hC kC_X2_mostOfOneStage kM_X2_61 hq0.1 TX2 6 rfl (m_X2_mostOfOneStage hC.dis q0 hq0 u c1) rfl (Nat.le_of_ble_eq_true rfl) (Nat.le_of_ble_eq_true rfl) (Nat.le_of_ble_eq_true rfl) rfl dX2_firstFullestStage_1 ?_
  refine y_istore_n hC [some (.ref (cS C q0)), some (.int r1), none] dX2_firstFullestStage_4 rfl rfl (Nat.le_of_ble_eq_true rfl) (Nat.le_of_ble_eq_true rfl) rfl ?_
  refine z_iconst (v := 0) hC dX2_firstFullestStage_5 (by decide) ?_
  refine y_istore_n hC [some (.ref (cS C q0)), some (.int r1), some (.int 0)] dX2_firstFullestStage_6 rfl rfl (Nat.le_of_ble_eq_true rfl) (Nat.le_of_ble_eq_true rfl) rfl ?_
  exact t_X2_firstFullestStage_7 hC hE q0 hq0 FU r1 0 u1 h
theorem m_X2_firstFullestStage {l : Launch} {dC : Nat → ClassId} {dI : Nat → Nat → Nat} {dA : Nat → ClassId} {as : Nat → Nat} (hD : mDis as) (q0 : Nat) (hq0 : okX2 q0) (u : MU) {r : Int32} {v : MU} (h : f_X2_firstFullestStage q0 u = some (r, v)) : mMI l dC dI dA as yX2_firstFullestStage cX2_firstFullestStage 3 .int 2 45 [.ref (as q0)] u r v := mMIof RX2 [some (.ref (as q0)), none, none] hD (by decide +kernel) rfl (Nat.le_of_ble_eq_true rfl) rfl (fun C e1 e2 e3 e4 e5 hC hE => by subst e5; exact s_X2_firstFullestStage_0 hC (res := (r, v)) hE q0 hq0 u h)
set_option maxHeartbeats 4000000 in
set_option maxRecDepth 100000 in
theorem s_X2_isNormal_2 {C : mCtx} (hC : mOK cX2_isNormal RX2 2 0 0 C) {res : Int32 × MU} (hE : mEndI C .boolean res.1 res.2) (q0 : Nat) (hq0 : okX2 q0) (k2 : Int32 → MU → mR) (hk2 : ∀ (x1 : Int32) (u : MU), k2 x1 u = some res → wat C u 2 [some (.ref (cS C q0)), some (.int x1)] []) (x1 : Int32) (u : MU) (h : b_X2_isNormal_2 k2 q0 x1 u = some res) : wat C u 2 [some (.ref (cS C q0)), some (.int x1)] [] := by
  unfold b_X2_isNormal_2 at h
  refine z_iload_n hC dX2_isNormal_2 rfl rfl ?_
  refine z_aload_n hC dX2_isNormal_3 rfl rfl ?_
  refine z_getR hC (q0 + 1) kF_X2_12 hq0.1 rfl dX2_isNormal_4 ?_
  refine z_getI hC kF_X2_39 hq0.2.1.1 rfl dX2_isNormal_7 ?_
  refine z_icmp_ge hC 31 dX2_isNormal_10 (by decide) (fun b1 => ?_) (fun b1 => ?_)
  · rw [if_pos b1] at h
    refine z_iconst (v := 1) hC dX2_isNormal_31 (by decide) ?_
    obtain rfl := Option.some.inj h
    exact z_zret hC hE rfl dX2_isNormal_32
  · rw [if_neg b1] at h
    refine z_aload_n hC dX2_isNormal_13 rfl rfl ?_
    refine z_getR hC (q0 + 5) kF_X2_22 hq0.1 rfl dX2_isNormal_14 ?_
    refine z_iload_n hC dX2_isNormal_17 rfl rfl ?_
    obtain ⟨g2, h⟩ := gd_some h
    refine z_iald hC hq0.2.2.2.1 g2 dX2_isNormal_18 ?_
    refine z_iload_n hC dX2_isNormal_19 rfl rfl ?_
    refine z_icmp_eq hC 25 dX2_isNormal_20 (by decide) (fun b3 => ?_) (fun b3 => ?_)
    · rw [if_pos b3] at h
      refine y_iinc hC (x1 + 1) [some (.ref (cS C q0)), some (.int (x1 + 1))] dX2_isNormal_25 rfl rfl rfl (Nat.le_of_ble_eq_true rfl) rfl ?_
      refine z_goto hC 2 dX2_isNormal_28 (by decide) ?_
      exact hk2 (x1 + 1) u h
    · rw [if_neg b3] at h
      refine z_iconst (v := 0) hC dX2_isNormal_23 (by decide) ?_
      obtain rfl := Option.some.inj h
      exact z_zret hC hE rfl dX2_isNormal_24
set_option maxHeartbeats 4000000 in
set_option maxRecDepth 100000 in
theorem t_X2_isNormal_2 {C : mCtx} (hC : mOK cX2_isNormal RX2 2 0 0 C) {res : Int32 × MU} (hE : mEndI C .boolean res.1 res.2) (q0 : Nat) (hq0 : okX2 q0) : ∀ (n : Nat) (x1 : Int32) (u : MU), l_X2_isNormal_2 q0 n x1 u = some res → wat C u 2 [some (.ref (cS C q0)), some (.int x1)] [] := by
  intro n
  induction n with
  | zero => intro x1 u h; exact absurd h (by simp [l_X2_isNormal_2])
  | succ n ih =>
    intro x1 u h
    exact s_X2_isNormal_2 hC hE q0 hq0 (fun x1 u => l_X2_isNormal_2 q0 n x1 u) ih x1 u h
set_option maxHeartbeats 4000000 in
set_option maxRecDepth 100000 in
theorem s_X2_isNormal_0 {C : mCtx} (hC : mOK cX2_isNormal RX2 2 0 0 C) {res : Int32 × MU} (hE : mEndI C .boolean res.1 res.2) (q0 : Nat) (hq0 : okX2 q0) (u : MU) (h : f_X2_isNormal q0 u = some res) : wat C u 0 [some (.ref (cS C q0)), none] [] := by
  unfold f_X2_isNormal at h
  refine z_iconst (v := 0) hC dX2_isNormal_0 (by decide) ?_
  refine y_istore_n hC [some (.ref (cS C q0)), some (.int 0)] dX2_isNormal_1 rfl rfl (Nat.le_of_ble_eq_true rfl) (Nat.le_of_ble_eq_true rfl) rfl ?_
  exact t_X2_isNormal_2 hC hE q0 hq0 FU 0 u h
theorem m_X2_isNormal {l : Launch} {dC : Nat → ClassId} {dI : Nat → Nat → Nat} {dA : Nat → ClassId} {as : Nat → Nat} (hD : mDis as) (q0 : Nat) (hq0 : okX2 q0) (u : MU) {r : Int32} {v : MU} (h : f_X2_isNormal q0 u = some (r, v)) : mMI l dC dI dA as yX2_isNormal cX2_isNormal 2 .boolean 0 0 [.ref (as q0)] u r v := mMIof RX2 [some (.ref (as q0)), none] hD (by decide +kernel) rfl (Nat.le_of_ble_eq_true rfl) rfl (fun C e1 e2 e3 e4 e5 hC hE => by subst e5; exact s_X2_isNormal_0 hC (res := (r, v)) hE q0 hq0 u h)
set_option maxHeartbeats 4000000 in
set_option maxRecDepth 100000 in
theorem s_X2_sameNormalForm_31 {C : mCtx} (hC : mOK cX2_sameNormalForm RX2 5 3 69 C) {res : Int32 × MU} (hE : mEndI C .boolean res.1 res.2) (q0 : Nat) (hq0 : okX2 q0) (q1 : Nat) (hq1 : okX2 q1) (k31 : Int32 → MU → mR) (hk31 : ∀ (x2 : Int32) (u : MU), k31 x2 u = some res → wat C u 31 [some (.ref (cS C q0)), some (.ref (cS C q1)), some (.int x2), none, none] []) (x2 : Int32) (u : MU) (h : b_X2_sameNormalForm_31 k31 q0 q1 x2 u = some res) : wat C u 31 [some (.ref (cS C q0)), some (.ref (cS C q1)), some (.int x2), none, none] [] := by
  unfold b_X2_sameNormalForm_31 at h
  refine z_iload_n hC dX2_sameNormalForm_31 rfl rfl ?_
  refine z_aload_n hC dX2_sameNormalForm_32 rfl rfl ?_
  refine z_getR hC (q0 + 1) kF_X2_12 hq0.1 rfl dX2_sameNormalForm_33 ?_
  refine z_getI hC kF_X2_39 hq0.2.1.1 rfl dX2_sameNormalForm_36 ?_
  refine z_icmp_ge hC 109 dX2_sameNormalForm_39 (by decide) (fun b1 => ?_) (fun b1 => ?_)
  · rw [if_pos b1] at h
    refine z_iconst (v := 1) hC dX2_sameNormalForm_109 (by decide) ?_
    obtain rfl := Option.some.inj h
    exact z_zret hC hE rfl dX2_sameNormalForm_110
  · rw [if_neg b1] at h
    refine z_aload_n hC dX2_sameNormalForm_42 rfl rfl ?_
    refine z_getR hC (q0 + 6) kF_X2_25 hq0.1 rfl dX2_sameNormalForm_43 ?_
    refine z_iload_n hC dX2_sameNormalForm_46 rfl rfl ?_
    obtain ⟨g2, h⟩ := gd_some h
    refine z_iald hC hq0.2.2.2.2 g2 dX2_sameNormalForm_47 ?_
    refine y_istore_n hC [some (.ref (cS C q0)), some (.ref (cS C q1)), some (.int x2), some (.int (u (q0 + 6) x2.toNatClampNeg)), none] dX2_sameNormalForm_48 rfl rfl (Nat.le_of_ble_eq_true rfl) (Nat.le_of_ble_eq_true rfl) rfl ?_
    refine z_aload_n hC dX2_sameNormalForm_49 rfl rfl ?_
    refine z_getR hC (q1 + 6) kF_X2_25 hq1.1 rfl dX2_sameNormalForm_50 ?_
    refine z_iload_n hC dX2_sameNormalForm_53 rfl rfl ?_
    obtain ⟨g3, h⟩ := gd_some h
    refine z_iald hC hq1.2.2.2.2 g3 dX2_sameNormalForm_54 ?_
    refine y_istore hC [some (.ref (cS C q0)), some (.ref (cS C q1)), some (.int x2), some (.int (u (q0 + 6) x2.toNatClampNeg)), some (.int (u (q1 + 6) x2.toNatClampNeg))] dX2_sameNormalForm_55 rfl (Nat.le_of_ble_eq_true rfl) (Nat.le_of_ble_eq_true rfl) rfl ?_
    refine z_aload_n hC dX2_sameNormalForm_57 rfl rfl ?_
    refine z_getR hC (q0 + 1) kF_X2_12 hq0.1 rfl dX2_sameNormalForm_58 ?_
    refine z_getR hC (q0 + 1 + 1) kF_X2_69 hq0.2.1.1 rfl dX2_sameNormalForm_61 ?_
    refine z_iload_n hC dX2_sameNormalForm_64 rfl rfl ?_
    obtain ⟨g4, h⟩ := gd_some h
    refine z_iald hC hq0.2.1.2.1 g4 dX2_sameNormalForm_65 ?_
    refine z_aload_n hC dX2_sameNormalForm_66 rfl rfl ?_
    refine z_getR hC (q1 + 1) kF_X2_12 hq1.1 rfl dX2_sameNormalForm_67 ?_
    refine z_getR hC (q1 + 1 + 1) kF_X2_69 hq1.2.1.1 rfl dX2_sameNormalForm_70 ?_
    refine z_iload hC dX2_sameNormalForm_73 rfl ?_
    obtain ⟨g5, h⟩ := gd_some h
    refine z_iald hC hq1.2.1.2.1 g5 dX2_sameNormalForm_75 ?_
    refine z_icmp_ne hC 101 dX2_sameNormalForm_76 (by decide) (fun b6 => ?_) (fun b6 => ?_)
    · rw [if_neg b6] at h
      refine z_iconst (v := 0) hC dX2_sameNormalForm_101 (by decide) ?_
      obtain rfl := Option.some.inj h
      exact z_zret hC hE rfl dX2_sameNormalForm_102
    · rw [if_pos b6] at h
      refine z_aload_n hC dX2_sameNormalForm_79 rfl rfl ?_
      refine z_getR hC (q0 + 1) kF_X2_12 hq0.1 rfl dX2_sameNormalForm_80 ?_
      refine z_getR hC (q0 + 1 + 2) kF_X2_72 hq0.2.1.1 rfl dX2_sameNormalForm_83 ?_
      refine z_iload_n hC dX2_sameNormalForm_86 rfl rfl ?_
      obtain ⟨g7, h⟩ := gd_some h
      refine z_iald hC hq0.2.1.2.2 g7 dX2_sameNormalForm_87 ?_
      refine z_aload_n hC dX2_sameNormalForm_88 rfl rfl ?_
      refine z_getR hC (q1 + 1) kF_X2_12 hq1.1 rfl dX2_sameNormalForm_89 ?_
      refine z_getR hC (q1 + 1 + 2) kF_X2_72 hq1.2.1.1 rfl dX2_sameNormalForm_92 ?_
      refine z_iload hC dX2_sameNormalForm_95 rfl ?_
      obtain ⟨g8, h⟩ := gd_some h
      refine z_iald hC hq1.2.1.2.2 g8 dX2_sameNormalForm_97 ?_
      refine z_icmp_eq hC 103 dX2_sameNormalForm_98 (by decide) (fun b9 => ?_) (fun b9 => ?_)
      · rw [if_pos b9] at h
        refine y_iinc hC (x2 + 1) [some (.ref (cS C q0)), some (.ref (cS C q1)), some (.int (x2 + 1)), some (.int (u (q0 + 6) x2.toNatClampNeg)), some (.int (u (q1 + 6) x2.toNatClampNeg))] dX2_sameNormalForm_103 rfl rfl rfl (Nat.le_of_ble_eq_true rfl) rfl ?_
        refine z_goto hC 31 dX2_sameNormalForm_106 (by decide) ?_
        refine z_mask [true, true, true, false, false] ?_
        exact hk31 (x2 + 1) u h
      · rw [if_neg b9] at h
        refine z_iconst (v := 0) hC dX2_sameNormalForm_101 (by decide) ?_
        obtain rfl := Option.some.inj h
        exact z_zret hC hE rfl dX2_sameNormalForm_102
set_option maxHeartbeats 4000000 in
set_option maxRecDepth 100000 in
theorem t_X2_sameNormalForm_31 {C : mCtx} (hC : mOK cX2_sameNormalForm RX2 5 3 69 C) {res : Int32 × MU} (hE : mEndI C .boolean res.1 res.2) (q0 : Nat) (hq0 : okX2 q0) (q1 : Nat) (hq1 : okX2 q1) : ∀ (n : Nat) (x2 : Int32) (u : MU), l_X2_sameNormalForm_31 q0 q1 n x2 u = some res → wat C u 31 [some (.ref (cS C q0)), some (.ref (cS C q1)), some (.int x2), none, none] [] := by
  intro n
  induction n with
  | zero => intro x2 u h; exact absurd h (by simp [l_X2_sameNormalForm_31])
  | succ n ih =>
    intro x2 u h
    exact s_X2_sameNormalForm_31 hC hE q0 hq0 q1 hq1 (fun x2 u => l_X2_sameNormalForm_31 q0 q1 n x2 u) ih x2 u h
set_option maxHeartbeats 4000000 in
set_option maxRecDepth 100000 in
theorem s_X2_sameNormalForm_0 {C : mCtx} (hC : mOK cX2_sameNormalForm RX2 5 3 69 C) {res : Int32 × MU} (hE : mEndI C .boolean res.1 res.2) (q0 : Nat) (hq0 : okX2 q0) (q1 : Nat) (hq1 : okX2 q1) (u : MU) (h : f_X2_sameNormalForm q0 q1 u = some res) : wat C u 0 [some (.ref (cS C q0)), some (.ref (cS C q1)), none, none, none] [] := by
  unfold f_X2_sameNormalForm at h
  refine z_aload_n hC dX2_sameNormalForm_0 rfl rfl ?_
  refine z_getR hC (q0 + 1) kF_X2_12 hq0.1 rfl dX2_sameNormalForm_1 ?_
  refine z_getI hC kF_X2_39 hq0.2.1.1 rfl dX2_sameNormalForm_4 ?_
  refine z_aload_n hC dX2_sameNormalForm_7 rfl rfl ?_
  refine z_getR hC (q1 + 1) kF_X2_12 hq1.1 rfl dX2_sameNormalForm_8 ?_
  refine z_getI hC kF_X2_39 hq1.2.1.1 rfl dX2_sameNormalForm_11 ?_
  refine z_icmp_eq hC 19 dX2_sameNormalForm_14 (by decide) (fun b1 => ?_) (fun b1 => ?_)
  · rw [if_pos b1] at h
    refine z_aload_n hC dX2_sameNormalForm_19 rfl rfl ?_
    refine z_iconst (v := nI 2) hC dX2_sameNormalForm_20 (by decide) ?_
    obtain ⟨r2, u2, c2, h⟩ := mB_some h
    refine z_callV hC kC_X2_arrange kM_X2_65 hq0.1 TX2 6 rfl (m_X2_arrange hC.dis q0 hq0 (nI 2) u c2) rfl (Nat.le_of_ble_eq_true rfl) (Nat.le_of_ble_eq_true rfl) (Nat.le_of_ble_eq_true rfl) rfl dX2_sameNormalForm_21 ?_
    refine z_aload_n hC dX2_sameNormalForm_24 rfl rfl ?_
    refine z_iconst (v := nI 2) hC dX2_sameNormalForm_25 (by decide) ?_
    obtain ⟨r3, u3, c3, h⟩ := mB_some h
    refine z_callV hC kC_X2_arrange kM_X2_65 hq1.1 TX2 6 rfl (m_X2_arrange hC.dis q1 hq1 (nI 2) u2 c3) rfl (Nat.le_of_ble_eq_true rfl) (Nat.le_of_ble_eq_true rfl) (Nat.le_of_ble_eq_true rfl) rfl dX2_sameNormalForm_26 ?_
    refine z_iconst (v := 0) hC dX2_sameNormalForm_29 (by decide) ?_
    refine y_istore_n hC [some (.ref (cS C q0)), some (.ref (cS C q1)), some (.int 0), none, none] dX2_sameNormalForm_30 rfl rfl (Nat.le_of_ble_eq_true rfl) (Nat.le_of_ble_eq_true rfl) rfl ?_
    exact t_X2_sameNormalForm_31 hC hE q0 hq0 q1 hq1 FU 0 u3 h
  · rw [if_neg b1] at h
    refine z_iconst (v := 0) hC dX2_sameNormalForm_17 (by decide) ?_
    obtain rfl := Option.some.inj h
    exact z_zret hC hE rfl dX2_sameNormalForm_18
theorem m_X2_sameNormalForm {l : Launch} {dC : Nat → ClassId} {dI : Nat → Nat → Nat} {dA : Nat → ClassId} {as : Nat → Nat} (hD : mDis as) (q0 : Nat) (hq0 : okX2 q0) (q1 : Nat) (hq1 : okX2 q1) (u : MU) {r : Int32} {v : MU} (h : f_X2_sameNormalForm q0 q1 u = some (r, v)) : mMI l dC dI dA as yX2_sameNormalForm cX2_sameNormalForm 5 .boolean 3 69 [.ref (as q0), .ref (as q1)] u r v := mMIof RX2 [some (.ref (as q0)), some (.ref (as q1)), none, none, none] hD (by decide +kernel) rfl (Nat.le_of_ble_eq_true rfl) rfl (fun C e1 e2 e3 e4 e5 hC hE => by subst e5; exact s_X2_sameNormalForm_0 hC (res := (r, v)) hE q0 hq0 q1 hq1 u h)
set_option maxHeartbeats 4000000 in
set_option maxRecDepth 100000 in
theorem s_X5_leafStart_0 {C : mCtx} (hC : mOK cX5_leafStart RX5 2 0 0 C) {res : Int32 × MU} (hE : mEndI C .int res.1 res.2) (q0 : Nat) (hq0 : okX5 q0) (x1 : Int32) (u : MU) (h : f_X5_leafStart q0 x1 u = some res) : wat C u 0 [some (.ref (cS C q0)), some (.int x1)] [] := by
  unfold f_X5_leafStart at h
  refine z_iload_n hC dX5_leafStart_0 rfl rfl ?_
  refine z_if_ne hC 8 dX5_leafStart_1 (by decide) (fun b1 => ?_) (fun b1 => ?_)
  · rw [if_neg b1] at h
    refine z_aload_n hC dX5_leafStart_8 rfl rfl ?_
    refine z_getR hC (q0 + 5) kF_X5_31 hq0.1 rfl dX5_leafStart_9 ?_
    refine z_iload_n hC dX5_leafStart_12 rfl rfl ?_
    refine z_iconst (v := 1) hC dX5_leafStart_13 (by decide) ?_
    refine z_isub hC dX5_leafStart_14 ?_
    obtain ⟨g2, h⟩ := gd_some h
    refine z_iald hC hq0.2.2.2.2.2.1 g2 dX5_leafStart_15 ?_
    obtain rfl := Option.some.inj h
    exact z_iret hC hE dX5_leafStart_16
  · rw [if_pos b1] at h
    refine z_iconst (v := 0) hC dX5_leafStart_4 (by decide) ?_
    refine z_goto hC 16 dX5_leafStart_5 (by decide) ?_
    obtain rfl := Option.some.inj h
    exact z_iret hC hE dX5_leafStart_16
theorem m_X5_leafStart {l : Launch} {dC : Nat → ClassId} {dI : Nat → Nat → Nat} {dA : Nat → ClassId} {as : Nat → Nat} (hD : mDis as) (q0 : Nat) (hq0 : okX5 q0) (x1 : Int32) (u : MU) {r : Int32} {v : MU} (h : f_X5_leafStart q0 x1 u = some (r, v)) : mMI l dC dI dA as yX5_leafStart cX5_leafStart 2 .int 0 0 [.ref (as q0), .int x1] u r v := mMIof RX5 [some (.ref (as q0)), some (.int x1)] hD (by decide +kernel) rfl (Nat.le_of_ble_eq_true rfl) rfl (fun C e1 e2 e3 e4 e5 hC hE => by subst e5; exact s_X5_leafStart_0 hC (res := (r, v)) hE q0 hq0 x1 u h)
set_option maxHeartbeats 4000000 in
set_option maxRecDepth 100000 in
theorem s_X3_sumOfLeaves_86 {C : mCtx} (hC : mOK cX3_sumOfLeaves RX3 7 1 21 C) {res : Int32 × MU} (hE : mEndI C .int res.1 res.2) (q1 : Nat) (hq1 : okX5 q1) (x2 : Int32) (x3 : Int32) (k10 : Int32 → Int32 → MU → mR) (hk10 : ∀ (x4 : Int32) (x5 : Int32) (u : MU), k10 x4 x5 u = some res → wat C u 10 [some (.ref (cS C 27)), some (.ref (cS C q1)), some (.int x2), some (.int x3), some (.int x4), some (.int x5), none] []) (x4 : Int32) (x5 : Int32) (u : MU) (h : b_X3_sumOfLeaves_86 k10 q1 x2 x3 x4 x5 u = some res) : wat C u 86 [some (.ref (cS C 27)), some (.ref (cS C q1)), some (.int x2), some (.int x3), some (.int x4), some (.int x5), none] [] := by
  unfold b_X3_sumOfLeaves_86 at h
  refine y_iinc hC (x5 + 1) [some (.ref (cS C 27)), some (.ref (cS C q1)), some (.int x2), some (.int x3), some (.int x4), some (.int (x5 + 1)), none] dX3_sumOfLeaves_86 rfl rfl rfl (Nat.le_of_ble_eq_true rfl) rfl ?_
  refine z_goto hC 10 dX3_sumOfLeaves_89 (by decide) ?_
  exact hk10 x4 (x5 + 1) u h
set_option maxHeartbeats 4000000 in
set_option maxRecDepth 100000 in
theorem s_X3_sumOfLeaves_10 {C : mCtx} (hC : mOK cX3_sumOfLeaves RX3 7 1 21 C) {res : Int32 × MU} (hE : mEndI C .int res.1 res.2) (q1 : Nat) (hq1 : okX5 q1) (x2 : Int32) (x3 : Int32) (k10 : Int32 → Int32 → MU → mR) (hk10 : ∀ (x4 : Int32) (x5 : Int32) (u : MU), k10 x4 x5 u = some res → wat C u 10 [some (.ref (cS C 27)), some (.ref (cS C q1)), some (.int x2), some (.int x3), some (.int x4), some (.int x5), none] []) (x4 : Int32) (x5 : Int32) (u : MU) (h : b_X3_sumOfLeaves_10 k10 q1 x2 x3 x4 x5 u = some res) : wat C u 10 [some (.ref (cS C 27)), some (.ref (cS C q1)), some (.int x2), some (.int x3), some (.int x4), some (.int x5), none] [] := by
  unfold b_X3_sumOfLeaves_10 at h
  refine z_iload hC dX3_sumOfLeaves_10 rfl ?_
  refine z_aload_n hC dX3_sumOfLeaves_12 rfl rfl ?_
  refine z_getR hC (q1 + 5) kF_X3_79 hq1.1 rfl dX3_sumOfLeaves_13 ?_
  refine z_iload_n hC dX3_sumOfLeaves_16 rfl rfl ?_
  obtain ⟨g1, h⟩ := gd_some h
  refine z_iald hC hq1.2.2.2.2.2.1 g1 dX3_sumOfLeaves_17 ?_
  refine z_icmp_ge hC 92 dX3_sumOfLeaves_18 (by decide) (fun b2 => ?_) (fun b2 => ?_)
  · rw [if_pos b2] at h
    refine z_iload hC dX3_sumOfLeaves_92 rfl ?_
    obtain rfl := Option.some.inj h
    exact z_iret hC hE dX3_sumOfLeaves_94
  · rw [if_neg b2] at h
    refine z_aload_n hC dX3_sumOfLeaves_21 rfl rfl ?_
    refine z_getR hC (q1 + 7) kF_X3_82 hq1.1 rfl dX3_sumOfLeaves_22 ?_
    refine z_iload hC dX3_sumOfLeaves_25 rfl ?_
    obtain ⟨g3, h⟩ := gd_some h
    refine z_iald hC hq1.2.2.2.2.2.2.2 g3 dX3_sumOfLeaves_27 ?_
    refine y_istore hC [some (.ref (cS C 27)), some (.ref (cS C q1)), some (.int x2), some (.int x3), some (.int x4), some (.int x5), some (.int (u (q1 + 7) x5.toNatClampNeg))] dX3_sumOfLeaves_28 rfl (Nat.le_of_ble_eq_true rfl) (Nat.le_of_ble_eq_true rfl) rfl ?_
    refine z_aload_n hC dX3_sumOfLeaves_30 rfl rfl ?_
    refine z_getR hC (q1 + 6) kF_X3_85 hq1.1 rfl dX3_sumOfLeaves_31 ?_
    refine z_iload hC dX3_sumOfLeaves_34 rfl ?_
    obtain ⟨g4, h⟩ := gd_some h
    refine z_iald hC hq1.2.2.2.2.2.2.1 g4 dX3_sumOfLeaves_36 ?_
    refine z_if_ne hC 50 dX3_sumOfLeaves_37 (by decide) (fun b5 => ?_) (fun b5 => ?_)
    · rw [if_neg b5] at h
      refine z_aload_n hC dX3_sumOfLeaves_50 rfl rfl ?_
      refine z_getR hC (q1 + 6) kF_X3_85 hq1.1 rfl dX3_sumOfLeaves_51 ?_
      refine z_iload hC dX3_sumOfLeaves_54 rfl ?_
      obtain ⟨g6, h⟩ := gd_some h
      refine z_iald hC hq1.2.2.2.2.2.2.1 g6 dX3_sumOfLeaves_56 ?_
      refine z_iconst (v := 1) hC dX3_sumOfLeaves_57 (by decide) ?_
      refine z_icmp_ne hC 70 dX3_sumOfLeaves_58 (by decide) (fun b7 => ?_) (fun b7 => ?_)
      · rw [if_neg b7] at h
        refine z_iload hC dX3_sumOfLeaves_70 rfl ?_
        refine z_aload_n hC dX3_sumOfLeaves_72 rfl rfl ?_
        refine z_getR hC 28 kF_X3_9 sh_27 rfl dX3_sumOfLeaves_73 ?_
        refine z_iload hC dX3_sumOfLeaves_76 rfl ?_
        refine z_iload_n hC dX3_sumOfLeaves_78 rfl rfl ?_
        obtain ⟨r8, u8, c8, h⟩ := mB_some h
        refine z_callNI hC kC_X6_placeOf kM_X3_57 (m_X6_placeOf hC.dis (u (q1 + 7) x5.toNatClampNeg) x3 u c8) rfl (Nat.le_of_ble_eq_true rfl) (Nat.le_of_ble_eq_true rfl) (Nat.le_of_ble_eq_true rfl) rfl dX3_sumOfLeaves_79 ?_
        obtain ⟨g9, h⟩ := gd_some h
        refine z_iald hC sh_28 g9 dX3_sumOfLeaves_82 ?_
        refine z_iadd hC dX3_sumOfLeaves_83 ?_
        refine y_istore hC [some (.ref (cS C 27)), some (.ref (cS C q1)), some (.int x2), some (.int x3), some (.int (x4 + (u8 28 r8.toNatClampNeg))), some (.int x5), some (.int (u (q1 + 7) x5.toNatClampNeg))] dX3_sumOfLeaves_84 rfl (Nat.le_of_ble_eq_true rfl) (Nat.le_of_ble_eq_true rfl) rfl ?_
        refine z_mask [true, true, true, true, true, true, false] ?_
        exact s_X3_sumOfLeaves_86 hC hE q1 hq1 x2 x3 k10 hk10 (x4 + (u8 28 r8.toNatClampNeg)) x5 u8 h
      · rw [if_pos b7] at h
        refine z_iload hC dX3_sumOfLeaves_61 rfl ?_
        refine z_iload_n hC dX3_sumOfLeaves_63 rfl rfl ?_
        refine z_iadd hC dX3_sumOfLeaves_64 ?_
        refine y_istore hC [some (.ref (cS C 27)), some (.ref (cS C q1)), some (.int x2), some (.int x3), some (.int (x4 + x3)), some (.int x5), some (.int (u (q1 + 7) x5.toNatClampNeg))] dX3_sumOfLeaves_65 rfl (Nat.le_of_ble_eq_true rfl) (Nat.le_of_ble_eq_true rfl) rfl ?_
        refine z_goto hC 86 dX3_sumOfLeaves_67 (by decide) ?_
        refine z_mask [true, true, true, true, true, true, false] ?_
        exact s_X3_sumOfLeaves_86 hC hE q1 hq1 x2 x3 k10 hk10 (x4 + x3) x5 u h
    · rw [if_pos b5] at h
      refine z_iload hC dX3_sumOfLeaves_40 rfl ?_
      refine z_iload hC dX3_sumOfLeaves_42 rfl ?_
      refine z_iadd hC dX3_sumOfLeaves_44 ?_
      refine y_istore hC [some (.ref (cS C 27)), some (.ref (cS C q1)), some (.int x2), some (.int x3), some (.int (x4 + (u (q1 + 7) x5.toNatClampNeg))), some (.int x5), some (.int (u (q1 + 7) x5.toNatClampNeg))] dX3_sumOfLeaves_45 rfl (Nat.le_of_ble_eq_true rfl) (Nat.le_of_ble_eq_true rfl) rfl ?_
      refine z_goto hC 86 dX3_sumOfLeaves_47 (by decide) ?_
      refine z_mask [true, true, true, true, true, true, false] ?_
      exact s_X3_sumOfLeaves_86 hC hE q1 hq1 x2 x3 k10 hk10 (x4 + (u (q1 + 7) x5.toNatClampNeg)) x5 u h
set_option maxHeartbeats 4000000 in
set_option maxRecDepth 100000 in
theorem t_X3_sumOfLeaves_10 {C : mCtx} (hC : mOK cX3_sumOfLeaves RX3 7 1 21 C) {res : Int32 × MU} (hE : mEndI C .int res.1 res.2) (q1 : Nat) (hq1 : okX5 q1) (x2 : Int32) (x3 : Int32) : ∀ (n : Nat) (x4 : Int32) (x5 : Int32) (u : MU), l_X3_sumOfLeaves_10 q1 x2 x3 n x4 x5 u = some res → wat C u 10 [some (.ref (cS C 27)), some (.ref (cS C q1)), some (.int x2), some (.int x3), some (.int x4), some (.int x5), none] [] := by
  intro n
  induction n with
  | zero => intro x4 x5 u h; exact absurd h (by simp [l_X3_sumOfLeaves_10])
  | succ n ih =>
    intro x4 x5 u h
    exact s_X3_sumOfLeaves_10 hC hE q1 hq1 x2 x3 (fun x4 x5 u => l_X3_sumOfLeaves_10 q1 x2 x3 n x4 x5 u) ih x4 x5 u h
set_option maxHeartbeats 4000000 in
set_option maxRecDepth 100000 in
theorem s_X3_sumOfLeaves_0 {C : mCtx} (hC : mOK cX3_sumOfLeaves RX3 7 1 21 C) {res : Int32 × MU} (hE : mEndI C .int res.1 res.2) (q1 : Nat) (hq1 : okX5 q1) (x2 : Int32) (x3 : Int32) (u : MU) (h : f_X3_sumOfLeaves q1 x2 x3 u = some res) : wat C u 0 [some (.ref (cS C 27)), some (.ref (cS C q1)), some (.int x2), some (.int x3), none, none, none] [] := by
  unfold f_X3_sumOfLeaves at h
  refine z_iconst (v := 0) hC dX3_sumOfLeaves_0 (by decide) ?_
  refine y_istore hC [some (.ref (cS C 27)), some (.ref (cS C q1)), some (.int x2), some (.int x3), some (.int 0), none, none] dX3_sumOfLeaves_1 rfl (Nat.le_of_ble_eq_true rfl) (Nat.le_of_ble_eq_true rfl) rfl ?_
  refine z_aload_n hC dX3_sumOfLeaves_3 rfl rfl ?_
  refine z_iload_n hC dX3_sumOfLeaves_4 rfl rfl ?_
  obtain ⟨r1, u1, c1, h⟩ := mB_some h
  refine z_callI hC kC_X5_leafStart kM_X3_75 hq1.1 TX5 12 rfl (m_X5_leafStart hC.dis q1 hq1 x2 u c1) rfl (Nat.le_of_ble_eq_true rfl) (Nat.le_of_ble_eq_true rfl) (Nat.le_of_ble_eq_true rfl) rfl dX3_sumOfLeaves_5 ?_
  refine y_istore hC [some (.ref (cS C 27)), some (.ref (cS C q1)), some (.int x2), some (.int x3), some (.int 0), some (.int r1), none] dX3_sumOfLeaves_8 rfl (Nat.le_of_ble_eq_true rfl) (Nat.le_of_ble_eq_true rfl) rfl ?_
  exact t_X3_sumOfLeaves_10 hC hE q1 hq1 x2 x3 FU 0 r1 u1 h
theorem m_X3_sumOfLeaves {l : Launch} {dC : Nat → ClassId} {dI : Nat → Nat → Nat} {dA : Nat → ClassId} {as : Nat → Nat} (hD : mDis as) (q1 : Nat) (hq1 : okX5 q1) (x2 : Int32) (x3 : Int32) (u : MU) {r : Int32} {v : MU} (h : f_X3_sumOfLeaves q1 x2 x3 u = some (r, v)) : mMI l dC dI dA as yX3_sumOfLeaves cX3_sumOfLeaves 7 .int 1 21 [.ref (as 27), .ref (as q1), .int x2, .int x3] u r v := mMIof RX3 [some (.ref (as 27)), some (.ref (as q1)), some (.int x2), some (.int x3), none, none, none] hD (by decide +kernel) rfl (Nat.le_of_ble_eq_true rfl) rfl (fun C e1 e2 e3 e4 e5 hC hE => by subst e5; exact s_X3_sumOfLeaves_0 hC (res := (r, v)) hE q1 hq1 x2 x3 u h)
set_option maxHeartbeats 4000000 in
set_option maxRecDepth 100000 in
theorem s_X3_doSimple_0 {C : mCtx} (hC : mOK cX3_doSimple RX3 5 2 47 C) {res : Int32 × MU} (hE : mEndI C .int res.1 res.2) (q1 : Nat) (hq1 : okX5 q1) (x2 : Int32) (x3 : Int32) (x4 : Int32) (u : MU) (h : f_X3_doSimple q1 x2 x3 x4 u = some res) : wat C u 0 [some (.ref (cS C 27)), some (.ref (cS C q1)), some (.int x2), some (.int x3), some (.int x4)] [] := by
  unfold f_X3_doSimple at h
  refine z_aload_n hC dX3_doSimple_0 rfl rfl ?_
  refine z_getR hC (q1 + 2) kF_X3_61 hq1.1 rfl dX3_doSimple_1 ?_
  refine z_iload_n hC dX3_doSimple_4 rfl rfl ?_
  obtain ⟨g1, h⟩ := gd_some h
  refine z_iald hC hq1.2.2.1 g1 dX3_doSimple_5 ?_
  by_cases b2 : (u (q1 + 2) x2.toNatClampNeg) = 0
  · rw [if_pos b2] at h
    refine z_look hC (off := 26) 32 dX3_doSimple_6 (by decide) (by rw [b2]; decide) (by decide) ?_
    refine z_aload_n hC dX3_doSimple_32 rfl rfl ?_
    refine z_getR hC 28 kF_X3_9 sh_27 rfl dX3_doSimple_33 ?_
    refine z_iload_n hC dX3_doSimple_36 rfl rfl ?_
    refine z_aload_n hC dX3_doSimple_37 rfl rfl ?_
    refine z_aload_n hC dX3_doSimple_38 rfl rfl ?_
    refine z_iload_n hC dX3_doSimple_39 rfl rfl ?_
    refine z_iload hC dX3_doSimple_40 rfl ?_
    obtain ⟨r3, u3, c3, h⟩ := mB_some h
    refine z_callI hC kC_X3_sumOfLeaves kM_X3_71 sh_27 TX3 5 rfl (m_X3_sumOfLeaves hC.dis q1 hq1 x2 x4 u c3) rfl (Nat.le_of_ble_eq_true rfl) (Nat.le_of_ble_eq_true rfl) (Nat.le_of_ble_eq_true rfl) rfl dX3_doSimple_42 ?_
    refine z_bipush (v := nI 100) hC dX3_doSimple_45 (by decide) ?_
    refine y_irem hC dX3_doSimple_47 (by decide) ?_
    obtain ⟨g4, h⟩ := gd_some h
    obtain ⟨u5, e5, h⟩ := mS_some h
    refine y_iast hC sh_28 g4 dX3_doSimple_48 e5 ?_
    refine z_iconst (v := 0) hC dX3_doSimple_49 (by decide) ?_
    obtain rfl := Option.some.inj h
    exact z_iret hC hE dX3_doSimple_50
  · rw [if_neg b2] at h
    by_cases b6 : (u (q1 + 2) x2.toNatClampNeg) = 1
    · rw [if_pos b6] at h
      refine z_look hC (off := 45) 51 dX3_doSimple_6 (by decide) (by rw [b6]; decide) (by decide) ?_
      refine z_aload_n hC dX3_doSimple_51 rfl rfl ?_
      refine z_getR hC 28 kF_X3_9 sh_27 rfl dX3_doSimple_52 ?_
      refine z_iload_n hC dX3_doSimple_55 rfl rfl ?_
      refine z_aload_n hC dX3_doSimple_56 rfl rfl ?_
      refine z_getR hC 28 kF_X3_9 sh_27 rfl dX3_doSimple_57 ?_
      refine z_iload_n hC dX3_doSimple_60 rfl rfl ?_
      obtain ⟨g7, h⟩ := gd_some h
      refine z_iald hC sh_28 g7 dX3_doSimple_61 ?_
      refine z_aload_n hC dX3_doSimple_62 rfl rfl ?_
      refine z_aload_n hC dX3_doSimple_63 rfl rfl ?_
      refine z_iload_n hC dX3_doSimple_64 rfl rfl ?_
      refine z_iload hC dX3_doSimple_65 rfl ?_
      obtain ⟨r8, u8, c8, h⟩ := mB_some h
      refine z_callI hC kC_X3_sumOfLeaves kM_X3_71 sh_27 TX3 5 rfl (m_X3_sumOfLeaves hC.dis q1 hq1 x2 x4 u c8) rfl (Nat.le_of_ble_eq_true rfl) (Nat.le_of_ble_eq_true rfl) (Nat.le_of_ble_eq_true rfl) rfl dX3_doSimple_67 ?_
      refine z_iadd hC dX3_doSimple_70 ?_
      refine z_bipush (v := nI 100) hC dX3_doSimple_71 (by decide) ?_
      refine y_irem hC dX3_doSimple_73 (by decide) ?_
      obtain ⟨g9, h⟩ := gd_some h
      obtain ⟨u10, e10, h⟩ := mS_some h
      refine y_iast hC sh_28 g9 dX3_doSimple_74 e10 ?_
      refine z_iconst (v := 0) hC dX3_doSimple_75 (by decide) ?_
      obtain rfl := Option.some.inj h
      exact z_iret hC hE dX3_doSimple_76
    · rw [if_neg b6] at h
      refine z_look hC (off := 71) 77 dX3_doSimple_6 (by decide) ((lv_osw b2 (by decide)).trans ((lv_osw b6 (by decide)).trans rfl)) (by decide) ?_
      refine z_aload_n hC dX3_doSimple_77 rfl rfl ?_
      refine z_getR hC 28 kF_X3_9 sh_27 rfl dX3_doSimple_78 ?_
      refine z_iload_n hC dX3_doSimple_81 rfl rfl ?_
      obtain ⟨g11, h⟩ := gd_some h
      refine z_iald hC sh_28 g11 dX3_doSimple_82 ?_
      refine z_if_ne hC 90 dX3_doSimple_83 (by decide) (fun b12 => ?_) (fun b12 => ?_)
      · rw [if_neg b12] at h
        refine z_iconst (v := 0) hC dX3_doSimple_90 (by decide) ?_
        obtain rfl := Option.some.inj h
        exact z_iret hC hE dX3_doSimple_91
      · rw [if_pos b12] at h
        refine z_iconst (v := 1) hC dX3_doSimple_86 (by decide) ?_
        refine z_goto hC 91 dX3_doSimple_87 (by decide) ?_
        obtain rfl := Option.some.inj h
        exact z_iret hC hE dX3_doSimple_91
theorem m_X3_doSimple {l : Launch} {dC : Nat → ClassId} {dI : Nat → Nat → Nat} {dA : Nat → ClassId} {as : Nat → Nat} (hD : mDis as) (q1 : Nat) (hq1 : okX5 q1) (x2 : Int32) (x3 : Int32) (x4 : Int32) (u : MU) {r : Int32} {v : MU} (h : f_X3_doSimple q1 x2 x3 x4 u = some (r, v)) : mMI l dC dI dA as yX3_doSimple cX3_doSimple 5 .int 2 47 [.ref (as 27), .ref (as q1), .int x2, .int x3, .int x4] u r v := mMIof RX3 [some (.ref (as 27)), some (.ref (as q1)), some (.int x2), some (.int x3), some (.int x4)] hD (by decide +kernel) rfl (Nat.le_of_ble_eq_true rfl) rfl (fun C e1 e2 e3 e4 e5 hC hE => by subst e5; exact s_X3_doSimple_0 hC (res := (r, v)) hE q1 hq1 x2 x3 x4 u h)
set_option maxHeartbeats 4000000 in
set_option maxRecDepth 100000 in
theorem s_X3_doRoutine_111 {C : mCtx} {fr lo : Nat} (hC : mOK cX3_doRoutine RX3 9 fr lo C) {res : Int32 × MU} (hE : mEndI C .int res.1 res.2) (self : Int32 → Int32 → Int32 → MU → mR) {fr1 lo1 : Nat} (hself : ∀ (x2 : Int32) (x3 : Int32) (x4 : Int32) (u : MU) {r : Int32} {v : MU}, self x2 x3 x4 u = some (r, v) → mMI (cL C) (cC C) (cI C) (cA C) (cS C) yX3_doRoutine cX3_doRoutine 9 .int fr1 lo1 [.ref (cS C 27), .ref (cS C 1), .int x2, .int x3, .int x4] u r v) (hself1 : fr1 + 1 ≤ fr) (hself2 : 8 + (9 + 11) + lo1 ≤ lo) (hself3 : 3 ≤ fr) (hself4 : 71 ≤ lo) (x3 : Int32) (x4 : Int32) (k17 : Nat → Int32 → MU → mR) (hk17 : ∀ (q5 : Nat) (x6 : Int32) (u : MU), okX5 q5 → k17 q5 x6 u = some res → wat C u 17 [some (.ref (cS C 27)), some (.ref (cS C 1)), none, some (.int x3), some (.int x4), some (.ref (cS C q5)), some (.int x6), none, none] []) (q5 : Nat) (x6 : Int32) (s0 : Int32) (hq5 : okX5 q5) (u : MU) (h : b_X3_doRoutine_111 self k17 x3 x4 q5 x6 s0 u = some res) : wat C u 111 [some (.ref (cS C 27)), some (.ref (cS C 1)), none, some (.int x3), some (.int x4), some (.ref (cS C q5)), some (.int x6), none, none] [(.int s0)] := by
  unfold b_X3_doRoutine_111 at h
  refine y_istore hC [some (.ref (cS C 27)), some (.ref (cS C 1)), none, some (.int x3), some (.int x4), some (.ref (cS C q5)), some (.int x6), none, some (.int s0)] dX3_doRoutine_111 rfl (Nat.le_of_ble_eq_true rfl) (Nat.le_of_ble_eq_true rfl) rfl ?_
  refine z_iload hC dX3_doRoutine_113 rfl ?_
  refine z_if_eq hC 121 dX3_doRoutine_115 (by decide) (fun b1 => ?_) (fun b1 => ?_)
  · rw [if_pos b1] at h
    refine y_iinc hC (x6 + 1) [some (.ref (cS C 27)), some (.ref (cS C 1)), none, some (.int x3), some (.int x4), some (.ref (cS C q5)), some (.int (x6 + 1)), none, some (.int s0)] dX3_doRoutine_121 rfl rfl rfl (Nat.le_of_ble_eq_true rfl) rfl ?_
    refine z_goto hC 17 dX3_doRoutine_124 (by decide) ?_
    refine z_mask [true, true, false, true, true, true, true, false, false] ?_
    exact hk17 q5 (x6 + 1) u hq5 h
  · rw [if_neg b1] at h
    refine z_iload hC dX3_doRoutine_118 rfl ?_
    obtain rfl := Option.some.inj h
    exact z_iret hC hE dX3_doRoutine_120
set_option maxHeartbeats 4000000 in
set_option maxRecDepth 100000 in
theorem s_X3_doRoutine_17 {C : mCtx} {fr lo : Nat} (hC : mOK cX3_doRoutine RX3 9 fr lo C) {res : Int32 × MU} (hE : mEndI C .int res.1 res.2) (self : Int32 → Int32 → Int32 → MU → mR) {fr1 lo1 : Nat} (hself : ∀ (x2 : Int32) (x3 : Int32) (x4 : Int32) (u : MU) {r : Int32} {v : MU}, self x2 x3 x4 u = some (r, v) → mMI (cL C) (cC C) (cI C) (cA C) (cS C) yX3_doRoutine cX3_doRoutine 9 .int fr1 lo1 [.ref (cS C 27), .ref (cS C 1), .int x2, .int x3, .int x4] u r v) (hself1 : fr1 + 1 ≤ fr) (hself2 : 8 + (9 + 11) + lo1 ≤ lo) (hself3 : 3 ≤ fr) (hself4 : 71 ≤ lo) (x3 : Int32) (x4 : Int32) (k17 : Nat → Int32 → MU → mR) (hk17 : ∀ (q5 : Nat) (x6 : Int32) (u : MU), okX5 q5 → k17 q5 x6 u = some res → wat C u 17 [some (.ref (cS C 27)), some (.ref (cS C 1)), none, some (.int x3), some (.int x4), some (.ref (cS C q5)), some (.int x6), none, none] []) (q5 : Nat) (x6 : Int32) (hq5 : okX5 q5) (u : MU) (h : b_X3_doRoutine_17 self k17 x3 x4 q5 x6 u = some res) : wat C u 17 [some (.ref (cS C 27)), some (.ref (cS C 1)), none, some (.int x3), some (.int x4), some (.ref (cS C q5)), some (.int x6), none, none] [] := by
  unfold b_X3_doRoutine_17 at h
  refine z_iload hC dX3_doRoutine_17 rfl ?_
  refine z_aload hC dX3_doRoutine_19 rfl ?_
  refine z_getI hC kF_X3_49 hq5.1 rfl dX3_doRoutine_21 ?_
  refine z_icmp_ge hC 127 dX3_doRoutine_24 (by decide) (fun b1 => ?_) (fun b1 => ?_)
  · rw [if_pos b1] at h
    refine z_iconst (v := 0) hC dX3_doRoutine_127 (by decide) ?_
    obtain rfl := Option.some.inj h
    exact z_iret hC hE dX3_doRoutine_128
  · rw [if_neg b1] at h
    refine z_aload_n hC dX3_doRoutine_27 rfl rfl ?_
    refine z_getI hC kF_X3_25 sh_27 rfl dX3_doRoutine_28 ?_
    refine z_sipush (v := nI 200) hC dX3_doRoutine_31 (by decide) ?_
    refine z_icmp_lt hC 39 dX3_doRoutine_34 (by decide) (fun b2 => ?_) (fun b2 => ?_)
    · rw [if_pos b2] at h
      refine z_aload_n hC dX3_doRoutine_39 rfl rfl ?_
      refine z_dup hC dX3_doRoutine_40 rfl ?_
      refine z_getI hC kF_X3_25 sh_27 rfl dX3_doRoutine_41 ?_
      refine z_iconst (v := 1) hC dX3_doRoutine_44 (by decide) ?_
      refine z_iadd hC dX3_doRoutine_45 ?_
      obtain ⟨u3, e3, h⟩ := mS_some h
      refine y_putI hC kP_X3_25 sh_27 rfl dX3_doRoutine_46 e3 ?_
      refine z_aload hC dX3_doRoutine_49 rfl ?_
      refine z_getR hC (q5 + 3) kF_X3_54 hq5.1 rfl dX3_doRoutine_51 ?_
      refine z_iload hC dX3_doRoutine_54 rfl ?_
      obtain ⟨g4, h⟩ := gd_some h
      refine z_iald hC hq5.2.2.2.1 g4 dX3_doRoutine_56 ?_
      refine z_iload_n hC dX3_doRoutine_57 rfl rfl ?_
      obtain ⟨r5, u5, c5, h⟩ := mB_some h
      refine z_callNI hC kC_X6_placeOf kM_X3_57 (m_X6_placeOf hC.dis (u3 (q5 + 3) x6.toNatClampNeg) x3 u3 c5) rfl (Nat.le_trans (Nat.le_of_ble_eq_true rfl) hself3) (Nat.le_trans (Nat.le_of_ble_eq_true rfl) hself4) (Nat.le_of_ble_eq_true rfl) rfl dX3_doRoutine_58 ?_
      refine y_istore hC [some (.ref (cS C 27)), some (.ref (cS C 1)), none, some (.int x3), some (.int x4), some (.ref (cS C q5)), some (.int x6), some (.int r5), none] dX3_doRoutine_61 rfl (Nat.le_of_ble_eq_true rfl) (Nat.le_of_ble_eq_true rfl) rfl ?_
      refine z_aload hC dX3_doRoutine_63 rfl ?_
      refine z_getR hC (q5 + 2) kF_X3_61 hq5.1 rfl dX3_doRoutine_65 ?_
      refine z_iload hC dX3_doRoutine_68 rfl ?_
      obtain ⟨g6, h⟩ := gd_some h
      refine z_iald hC hq5.2.2.1 g6 dX3_doRoutine_70 ?_
      refine z_iconst (v := nI 3) hC dX3_doRoutine_71 (by decide) ?_
      refine z_icmp_ne hC 100 dX3_doRoutine_72 (by decide) (fun b7 => ?_) (fun b7 => ?_)
      · rw [if_neg b7] at h
        refine z_aload_n hC dX3_doRoutine_100 rfl rfl ?_
        refine z_aload hC dX3_doRoutine_101 rfl ?_
        refine z_iload hC dX3_doRoutine_103 rfl ?_
        refine z_iload hC dX3_doRoutine_105 rfl ?_
        refine z_iload_n hC dX3_doRoutine_107 rfl rfl ?_
        obtain ⟨r8, u8, c8, h⟩ := mB_some h
        refine z_callI hC kC_X3_doSimple kM_X3_67 sh_27 TX3 5 rfl (m_X3_doSimple hC.dis q5 hq5 x6 r5 x3 u5 c8) rfl (Nat.le_trans (Nat.le_of_ble_eq_true rfl) hself3) (Nat.le_trans (Nat.le_of_ble_eq_true rfl) hself4) (Nat.le_of_ble_eq_true rfl) rfl dX3_doRoutine_108 ?_
        refine z_mask [true, true, false, true, true, true, true, false, false] ?_
        exact s_X3_doRoutine_111 hC hE self hself hself1 hself2 hself3 hself4 x3 x4 k17 hk17 q5 x6 r8 hq5 u8 h
      · rw [if_pos b7] at h
        refine z_aload_n hC dX3_doRoutine_75 rfl rfl ?_
        refine z_aload_n hC dX3_doRoutine_76 rfl rfl ?_
        refine z_aload hC dX3_doRoutine_77 rfl ?_
        refine z_getR hC (q5 + 4) kF_X3_64 hq5.1 rfl dX3_doRoutine_79 ?_
        refine z_iload hC dX3_doRoutine_82 rfl ?_
        obtain ⟨g9, h⟩ := gd_some h
        refine z_iald hC hq5.2.2.2.2.1 g9 dX3_doRoutine_84 ?_
        refine z_iload hC dX3_doRoutine_85 rfl ?_
        refine z_bipush (v := nI 6) hC dX3_doRoutine_87 (by decide) ?_
        refine z_isub hC dX3_doRoutine_89 ?_
        refine z_iload hC dX3_doRoutine_90 rfl ?_
        refine z_iconst (v := 1) hC dX3_doRoutine_92 (by decide) ?_
        refine z_iadd hC dX3_doRoutine_93 ?_
        obtain ⟨r10, u10, c10, h⟩ := mB_some h
        refine z_callI hC kC_X3_doRoutine kM_X3_45 sh_27 TX3 5 rfl (hself (u5 (q5 + 4) x6.toNatClampNeg) (r5 - (nI 6)) (x4 + 1) u5 c10) rfl hself1 hself2 (Nat.le_of_ble_eq_true rfl) rfl dX3_doRoutine_94 ?_
        refine z_goto hC 111 dX3_doRoutine_97 (by decide) ?_
        refine z_mask [true, true, false, true, true, true, true, false, false] ?_
        exact s_X3_doRoutine_111 hC hE self hself hself1 hself2 hself3 hself4 x3 x4 k17 hk17 q5 x6 r10 hq5 u10 h
    · rw [if_neg b2] at h
      refine z_iconst (v := nI 2) hC dX3_doRoutine_37 (by decide) ?_
      obtain rfl := Option.some.inj h
      exact z_iret hC hE dX3_doRoutine_38
set_option maxHeartbeats 4000000 in
set_option maxRecDepth 100000 in
theorem t_X3_doRoutine_17 {C : mCtx} {fr lo : Nat} (hC : mOK cX3_doRoutine RX3 9 fr lo C) {res : Int32 × MU} (hE : mEndI C .int res.1 res.2) (self : Int32 → Int32 → Int32 → MU → mR) {fr1 lo1 : Nat} (hself : ∀ (x2 : Int32) (x3 : Int32) (x4 : Int32) (u : MU) {r : Int32} {v : MU}, self x2 x3 x4 u = some (r, v) → mMI (cL C) (cC C) (cI C) (cA C) (cS C) yX3_doRoutine cX3_doRoutine 9 .int fr1 lo1 [.ref (cS C 27), .ref (cS C 1), .int x2, .int x3, .int x4] u r v) (hself1 : fr1 + 1 ≤ fr) (hself2 : 8 + (9 + 11) + lo1 ≤ lo) (hself3 : 3 ≤ fr) (hself4 : 71 ≤ lo) (x3 : Int32) (x4 : Int32) : ∀ (n : Nat) (q5 : Nat) (x6 : Int32) (u : MU), okX5 q5 → l_X3_doRoutine_17 self x3 x4 n q5 x6 u = some res → wat C u 17 [some (.ref (cS C 27)), some (.ref (cS C 1)), none, some (.int x3), some (.int x4), some (.ref (cS C q5)), some (.int x6), none, none] [] := by
  intro n
  induction n with
  | zero => intro q5 x6 u hq5 h; exact absurd h (by simp [l_X3_doRoutine_17])
  | succ n ih =>
    intro q5 x6 u hq5 h
    exact s_X3_doRoutine_17 hC hE self hself hself1 hself2 hself3 hself4 x3 x4 (fun q5 x6 u => l_X3_doRoutine_17 self x3 x4 n q5 x6 u) ih q5 x6 hq5 u h
set_option maxHeartbeats 4000000 in
set_option maxRecDepth 100000 in
theorem s_X3_doRoutine_0 {C : mCtx} {fr lo : Nat} (hC : mOK cX3_doRoutine RX3 9 fr lo C) {res : Int32 × MU} (hE : mEndI C .int res.1 res.2) (self : Int32 → Int32 → Int32 → MU → mR) {fr1 lo1 : Nat} (hself : ∀ (x2 : Int32) (x3 : Int32) (x4 : Int32) (u : MU) {r : Int32} {v : MU}, self x2 x3 x4 u = some (r, v) → mMI (cL C) (cC C) (cI C) (cA C) (cS C) yX3_doRoutine cX3_doRoutine 9 .int fr1 lo1 [.ref (cS C 27), .ref (cS C 1), .int x2, .int x3, .int x4] u r v) (hself1 : fr1 + 1 ≤ fr) (hself2 : 8 + (9 + 11) + lo1 ≤ lo) (hself3 : 3 ≤ fr) (hself4 : 71 ≤ lo) (x2 : Int32) (x3 : Int32) (x4 : Int32) (u : MU) (h : g_X3_doRoutine self x2 x3 x4 u = some res) : wat C u 0 [some (.ref (cS C 27)), some (.ref (cS C 1)), some (.int x2), some (.int x3), some (.int x4), none, none, none, none] [] := by
  unfold g_X3_doRoutine at h
  refine z_iload hC dX3_doRoutine_0 rfl ?_
  refine z_bipush (v := nI 20) hC dX3_doRoutine_2 (by decide) ?_
  refine z_icmp_le hC 9 dX3_doRoutine_4 (by decide) (fun b1 => ?_) (fun b1 => ?_)
  · rw [if_pos b1] at h
    refine z_aload_n hC dX3_doRoutine_9 rfl rfl ?_
    refine z_iload_n hC dX3_doRoutine_10 rfl rfl ?_
    obtain ⟨g2, h⟩ := gd_some h
    refine z_aald hC (rtn x2) sh_1 (fun _ => rfl) g2 (rtn_at g2) dX3_doRoutine_11 ?_
    refine y_astore hC [some (.ref (cS C 27)), some (.ref (cS C 1)), some (.int x2), some (.int x3), some (.int x4), some (.ref (cS C (rtn x2))), none, none, none] dX3_doRoutine_12 rfl (Nat.le_of_ble_eq_true rfl) (Nat.le_of_ble_eq_true rfl) rfl ?_
    refine z_iconst (v := 0) hC dX3_doRoutine_14 (by decide) ?_
    refine y_istore hC [some (.ref (cS C 27)), some (.ref (cS C 1)), some (.int x2), some (.int x3), some (.int x4), some (.ref (cS C (rtn x2))), some (.int 0), none, none] dX3_doRoutine_15 rfl (Nat.le_of_ble_eq_true rfl) (Nat.le_of_ble_eq_true rfl) rfl ?_
    refine z_mask [true, true, false, true, true, true, true, false, false] ?_
    exact t_X3_doRoutine_17 hC hE self hself hself1 hself2 hself3 hself4 x3 x4 FU (rtn x2) 0 u ((rtn_ok g2)) h
  · rw [if_neg b1] at h
    refine z_iconst (v := nI 2) hC dX3_doRoutine_7 (by decide) ?_
    obtain rfl := Option.some.inj h
    exact z_iret hC hE dX3_doRoutine_8
set_option maxHeartbeats 4000000 in
set_option maxRecDepth 100000 in
theorem m_X3_doRoutine (n : Nat) {l : Launch} {dC : Nat → ClassId} {dI : Nat → Nat → Nat} {dA : Nat → ClassId} {as : Nat → Nat} (hD : mDis as) : ∀ (x2 : Int32) (x3 : Int32) (x4 : Int32) (u : MU) {r : Int32} {v : MU}, f_X3_doRoutine n x2 x3 x4 u = some (r, v) → mMI l dC dI dA as yX3_doRoutine cX3_doRoutine 9 .int (3 + n) (71 + n * 28) [.ref (as 27), .ref (as 1), .int x2, .int x3, .int x4] u r v := by
  induction n with
  | zero => intro x2 x3 x4 u r v h; exact absurd h (by simp [f_X3_doRoutine])
  | succ n ih =>
    intro x2 x3 x4 u r v h
    exact mMIof RX3 [some (.ref (as 27)), some (.ref (as 1)), some (.int x2), some (.int x3), some (.int x4), none, none, none, none] hD (by decide +kernel) rfl (Nat.le_of_ble_eq_true rfl) rfl (fun C e1 e2 e3 e4 e5 hC hE => by subst e1; subst e2; subst e3; subst e4; subst e5; exact s_X3_doRoutine_0 hC (res := (r, v)) hE (fun x2 x3 x4 u => f_X3_doRoutine n x2 x3 x4 u) ih (by omega) (by omega) (by omega) (by omega) x2 x3 x4 u h)
