set_option maxHeartbeats 4000000 in
set_option maxRecDepth 100000 in
theorem s_X7_leaf_164 {C : mCtx} (hC : mOK cX7_leaf RX7 4 2 43 C) {res : Int32 × MU} (hE : mEndI C .boolean res.1 res.2) (s2 : Int32) (s1 : Int32) (u : MU) (h : b_X7_leaf_164 s2 s1 u = some res) : wat C u 164 [none, none, none, none] [(.int s2), (.int s1), (.ref (cS C 88))] := by
  unfold b_X7_leaf_164 at h
  refine z_ior hC dX7_leaf_164 ?_
  obtain ⟨u1, e1, h⟩ := mS_some h
  refine y_putI hC kP_X7_115 sh_88 rfl dX7_leaf_165 e1 ?_
  refine z_iconst (v := 1) hC dX7_leaf_168 (by decide) ?_
  obtain rfl := Option.some.inj h
  exact z_zret hC hE rfl dX7_leaf_169
set_option maxHeartbeats 4000000 in
set_option maxRecDepth 100000 in
theorem s_X7_leaf_138 {C : mCtx} (hC : mOK cX7_leaf RX7 4 2 43 C) {res : Int32 × MU} (hE : mEndI C .boolean res.1 res.2) (x2 : Int32) (s2 : Int32) (s1 : Int32) (u : MU) (h : b_X7_leaf_138 x2 s2 s1 u = some res) : wat C u 138 [some (.ref (cS C 88)), none, some (.int x2), none] [(.int s2), (.int s1), (.ref (cS C 88))] := by
  unfold b_X7_leaf_138 at h
  refine z_iadd hC dX7_leaf_138 ?_
  obtain ⟨u1, e1, h⟩ := mS_some h
  refine y_putI hC kP_X7_112 sh_88 rfl dX7_leaf_139 e1 ?_
  refine z_aload_n hC dX7_leaf_142 rfl rfl ?_
  refine z_dup hC dX7_leaf_143 rfl ?_
  refine z_getI hC kF_X7_115 sh_88 rfl dX7_leaf_144 ?_
  refine z_iload_n hC dX7_leaf_147 rfl rfl ?_
  obtain ⟨r2, u2, c2, h⟩ := mB_some h
  refine z_callSI hC kC_X7_isLetter kM_X7_118 (m_X7_isLetter hC.dis x2 u1 c2) rfl (Nat.le_of_ble_eq_true rfl) (Nat.le_of_ble_eq_true rfl) (Nat.le_of_ble_eq_true rfl) rfl dX7_leaf_148 ?_
  refine z_if_eq hC 163 dX7_leaf_151 (by decide) (fun b3 => ?_) (fun b3 => ?_)
  · rw [if_pos b3] at h
    refine z_iconst (v := 0) hC dX7_leaf_163 (by decide) ?_
    refine z_mask [false, false, false, false] ?_
    exact s_X7_leaf_164 hC hE 0 (u1 88 9) u2 h
  · rw [if_neg b3] at h
    refine z_iconst (v := 1) hC dX7_leaf_154 (by decide) ?_
    refine z_iload_n hC dX7_leaf_155 rfl rfl ?_
    refine z_bipush (v := nI 97) hC dX7_leaf_156 (by decide) ?_
    refine z_isub hC dX7_leaf_158 ?_
    refine z_ishl hC dX7_leaf_159 ?_
    refine z_goto hC 164 dX7_leaf_160 (by decide) ?_
    refine z_mask [false, false, false, false] ?_
    exact s_X7_leaf_164 hC hE (1 <<< ((x2 - (nI 97)) &&& 31)) (u1 88 9) u2 h
set_option maxHeartbeats 4000000 in
set_option maxRecDepth 100000 in
theorem s_X7_leaf_90 {C : mCtx} (hC : mOK cX7_leaf RX7 4 2 43 C) {res : Int32 × MU} (hE : mEndI C .boolean res.1 res.2) (x1 : Int32) (x2 : Int32) (u : MU) (h : b_X7_leaf_90 x1 x2 u = some res) : wat C u 90 [some (.ref (cS C 88)), some (.int x1), some (.int x2), none] [] := by
  unfold b_X7_leaf_90 at h
  refine z_aload_n hC dX7_leaf_90 rfl rfl ?_
  refine z_dup hC dX7_leaf_91 rfl ?_
  refine z_getI hC kF_X7_95 sh_88 rfl dX7_leaf_92 ?_
  refine z_iconst (v := 1) hC dX7_leaf_95 (by decide) ?_
  refine z_iadd hC dX7_leaf_96 ?_
  obtain ⟨u1, e1, h⟩ := mS_some h
  refine y_putI hC kP_X7_95 sh_88 rfl dX7_leaf_97 e1 ?_
  refine z_aload_n hC dX7_leaf_100 rfl rfl ?_
  refine z_dup hC dX7_leaf_101 rfl ?_
  refine z_getI hC kF_X7_112 sh_88 rfl dX7_leaf_102 ?_
  refine z_iload_n hC dX7_leaf_105 rfl rfl ?_
  obtain ⟨r2, u2, c2, h⟩ := mB_some h
  refine z_callSI hC kC_X7_isFigure kM_X7_105 (m_X7_isFigure hC.dis x2 u1 c2) rfl (Nat.le_of_ble_eq_true rfl) (Nat.le_of_ble_eq_true rfl) (Nat.le_of_ble_eq_true rfl) rfl dX7_leaf_106 ?_
  refine z_if_eq hC 119 dX7_leaf_109 (by decide) (fun b3 => ?_) (fun b3 => ?_)
  · rw [if_pos b3] at h
    refine z_iload_n hC dX7_leaf_119 rfl rfl ?_
    refine z_bipush (v := nI 112) hC dX7_leaf_120 (by decide) ?_
    refine z_icmp_ne hC 129 dX7_leaf_122 (by decide) (fun b4 => ?_) (fun b4 => ?_)
    · rw [if_neg b4] at h
      refine z_aload_n hC dX7_leaf_129 rfl rfl ?_
      refine z_getR hC 99 kF_X7_40 sh_88 rfl dX7_leaf_130 ?_
      refine z_iload_n hC dX7_leaf_133 rfl rfl ?_
      refine z_bipush (v := nI 97) hC dX7_leaf_134 (by decide) ?_
      refine z_isub hC dX7_leaf_136 ?_
      obtain ⟨g5, h⟩ := gd_some h
      refine z_iald hC sh_99 g5 dX7_leaf_137 ?_
      refine z_mask [true, false, true, false] ?_
      exact s_X7_leaf_138 hC hE x2 (u2 99 (x2 - (nI 97)).toNatClampNeg) (u1 88 8) u2 h
    · rw [if_pos b4] at h
      refine z_iload_n hC dX7_leaf_125 rfl rfl ?_
      refine z_goto hC 138 dX7_leaf_126 (by decide) ?_
      refine z_mask [true, false, true, false] ?_
      exact s_X7_leaf_138 hC hE x2 x1 (u1 88 8) u2 h
  · rw [if_neg b3] at h
    refine z_iload_n hC dX7_leaf_112 rfl rfl ?_
    refine z_bipush (v := nI 48) hC dX7_leaf_113 (by decide) ?_
    refine z_isub hC dX7_leaf_115 ?_
    refine z_goto hC 138 dX7_leaf_116 (by decide) ?_
    refine z_mask [true, false, true, false] ?_
    exact s_X7_leaf_138 hC hE x2 (x2 - (nI 48)) (u1 88 8) u2 h
set_option maxHeartbeats 4000000 in
set_option maxRecDepth 100000 in
theorem s_X7_leaf_0 {C : mCtx} (hC : mOK cX7_leaf RX7 4 2 43 C) {res : Int32 × MU} (hE : mEndI C .boolean res.1 res.2) (x1 : Int32) (u : MU) (h : f_X7_leaf x1 u = some res) : wat C u 0 [some (.ref (cS C 88)), some (.int x1), none, none] [] := by
  unfold f_X7_leaf at h
  refine z_aload_n hC dX7_leaf_0 rfl rfl ?_
  obtain ⟨r1, u1, c1, h⟩ := mB_some h
  refine z_callI hC kC_X7_here kM_X7_101 sh_88 TX7 39 rfl (m_X7_here hC.dis u c1) rfl (Nat.le_of_ble_eq_true rfl) (Nat.le_of_ble_eq_true rfl) (Nat.le_of_ble_eq_true rfl) rfl dX7_leaf_1 ?_
  refine y_istore_n hC [some (.ref (cS C 88)), some (.int x1), some (.int r1), none] dX7_leaf_4 rfl rfl (Nat.le_of_ble_eq_true rfl) (Nat.le_of_ble_eq_true rfl) rfl ?_
  refine z_iload_n hC dX7_leaf_5 rfl rfl ?_
  refine z_bipush (v := nI 64) hC dX7_leaf_6 (by decide) ?_
  refine z_icmp_ne hC 68 dX7_leaf_8 (by decide) (fun b2 => ?_) (fun b2 => ?_)
  · rw [if_neg b2] at h
    refine z_iload_n hC dX7_leaf_68 rfl rfl ?_
    obtain ⟨r3, u3, c3, h⟩ := mB_some h
    refine z_callSI hC kC_X7_isFigure kM_X7_105 (m_X7_isFigure hC.dis r1 u1 c3) rfl (Nat.le_of_ble_eq_true rfl) (Nat.le_of_ble_eq_true rfl) (Nat.le_of_ble_eq_true rfl) rfl dX7_leaf_69 ?_
    refine z_if_ne hC 90 dX7_leaf_72 (by decide) (fun b4 => ?_) (fun b4 => ?_)
    · rw [if_neg b4] at h
      exact s_X7_leaf_90 hC hE x1 r1 u3 h
    · rw [if_pos b4] at h
      refine z_iload_n hC dX7_leaf_75 rfl rfl ?_
      obtain ⟨r5, u5, c5, h⟩ := mB_some h
      refine z_callSI hC kC_X7_isLetter kM_X7_118 (m_X7_isLetter hC.dis r1 u3 c5) rfl (Nat.le_of_ble_eq_true rfl) (Nat.le_of_ble_eq_true rfl) (Nat.le_of_ble_eq_true rfl) rfl dX7_leaf_76 ?_
      refine z_if_ne hC 90 dX7_leaf_79 (by decide) (fun b6 => ?_) (fun b6 => ?_)
      · rw [if_neg b6] at h
        exact s_X7_leaf_90 hC hE x1 r1 u5 h
      · rw [if_pos b6] at h
        refine z_iload_n hC dX7_leaf_82 rfl rfl ?_
        refine z_bipush (v := nI 112) hC dX7_leaf_83 (by decide) ?_
        refine z_icmp_eq hC 90 dX7_leaf_85 (by decide) (fun b7 => ?_) (fun b7 => ?_)
        · rw [if_pos b7] at h
          exact s_X7_leaf_90 hC hE x1 r1 u5 h
        · rw [if_neg b7] at h
          refine z_iconst (v := 0) hC dX7_leaf_88 (by decide) ?_
          obtain rfl := Option.some.inj h
          exact z_zret hC hE rfl dX7_leaf_89
  · rw [if_pos b2] at h
    refine z_aload_n hC dX7_leaf_11 rfl rfl ?_
    refine z_dup hC dX7_leaf_12 rfl ?_
    refine z_getI hC kF_X7_95 sh_88 rfl dX7_leaf_13 ?_
    refine z_iconst (v := 1) hC dX7_leaf_16 (by decide) ?_
    refine z_iadd hC dX7_leaf_17 ?_
    obtain ⟨u8, e8, h⟩ := mS_some h
    refine y_putI hC kP_X7_95 sh_88 rfl dX7_leaf_18 e8 ?_
    refine z_aload_n hC dX7_leaf_21 rfl rfl ?_
    refine z_iload_n hC dX7_leaf_22 rfl rfl ?_
    obtain ⟨r9, u9, c9, h⟩ := mB_some h
    refine z_callI hC kC_X7_index kM_X7_108 sh_88 TX7 39 rfl (m_X7_index hC.dis x1 u8 c9) rfl (Nat.le_of_ble_eq_true rfl) (Nat.le_of_ble_eq_true rfl) (Nat.le_of_ble_eq_true rfl) rfl dX7_leaf_23 ?_
    refine y_istore_n hC [some (.ref (cS C 88)), some (.int x1), some (.int r1), some (.int r9)] dX7_leaf_26 rfl rfl (Nat.le_of_ble_eq_true rfl) (Nat.le_of_ble_eq_true rfl) rfl ?_
    refine z_iload_n hC dX7_leaf_27 rfl rfl ?_
    refine z_if_ge hC 33 dX7_leaf_28 (by decide) (fun b10 => ?_) (fun b10 => ?_)
    · rw [if_pos b10] at h
      refine z_aload_n hC dX7_leaf_33 rfl rfl ?_
      refine z_dup hC dX7_leaf_34 rfl ?_
      refine z_getI hC kF_X7_112 sh_88 rfl dX7_leaf_35 ?_
      refine z_aload_n hC dX7_leaf_38 rfl rfl ?_
      refine z_getR hC 99 kF_X7_40 sh_88 rfl dX7_leaf_39 ?_
      refine z_bipush (v := nI 6) hC dX7_leaf_42 (by decide) ?_
      refine z_iload_n hC dX7_leaf_44 rfl rfl ?_
      refine z_iadd hC dX7_leaf_45 ?_
      obtain ⟨g11, h⟩ := gd_some h
      refine z_iald hC sh_99 g11 dX7_leaf_46 ?_
      refine z_iadd hC dX7_leaf_47 ?_
      obtain ⟨u12, e12, h⟩ := mS_some h
      refine y_putI hC kP_X7_112 sh_88 rfl dX7_leaf_48 e12 ?_
      refine z_aload_n hC dX7_leaf_51 rfl rfl ?_
      refine z_dup hC dX7_leaf_52 rfl ?_
      refine z_getI hC kF_X7_115 sh_88 rfl dX7_leaf_53 ?_
      refine z_iconst (v := 1) hC dX7_leaf_56 (by decide) ?_
      refine z_bipush (v := nI 6) hC dX7_leaf_57 (by decide) ?_
      refine z_iload_n hC dX7_leaf_59 rfl rfl ?_
      refine z_iadd hC dX7_leaf_60 ?_
      refine z_ishl hC dX7_leaf_61 ?_
      refine z_ior hC dX7_leaf_62 ?_
      obtain ⟨u13, e13, h⟩ := mS_some h
      refine y_putI hC kP_X7_115 sh_88 rfl dX7_leaf_63 e13 ?_
      refine z_iconst (v := 1) hC dX7_leaf_66 (by decide) ?_
      obtain rfl := Option.some.inj h
      exact z_zret hC hE rfl dX7_leaf_67
    · rw [if_neg b10] at h
      refine z_iconst (v := 0) hC dX7_leaf_31 (by decide) ?_
      obtain rfl := Option.some.inj h
      exact z_zret hC hE rfl dX7_leaf_32
theorem m_X7_leaf {l : Launch} {dC : Nat → ClassId} {dI : Nat → Nat → Nat} {dA : Nat → ClassId} {as : Nat → Nat} (hD : mDis as) (x1 : Int32) (u : MU) {r : Int32} {v : MU} (h : f_X7_leaf x1 u = some (r, v)) : mMI l dC dI dA as yX7_leaf cX7_leaf 4 .boolean 2 43 [.ref (as 88), .int x1] u r v := mMIof RX7 [some (.ref (as 88)), some (.int x1), none, none] hD (by decide +kernel) rfl (Nat.le_of_ble_eq_true rfl) rfl (fun C e1 e2 e3 e4 e5 hC hE => by subst e5; exact s_X7_leaf_0 hC (res := (r, v)) hE x1 u h)
set_option maxHeartbeats 4000000 in
set_option maxRecDepth 100000 in
theorem s_X7_term_12 {C : mCtx} (hC : mOK cX7_term RX7 3 3 66 C) {res : Int32 × MU} (hE : mEndI C .boolean res.1 res.2) (x1 : Int32) (k12 : Int32 → MU → mR) (hk12 : ∀ (x2 : Int32) (u : MU), k12 x2 u = some res → wat C u 12 [some (.ref (cS C 88)), some (.int x1), some (.int x2)] []) (x2 : Int32) (u : MU) (h : b_X7_term_12 k12 x1 x2 u = some res) : wat C u 12 [some (.ref (cS C 88)), some (.int x1), some (.int x2)] [] := by
  unfold b_X7_term_12 at h
  refine z_iload_n hC dX7_term_12 rfl rfl ?_
  refine z_if_le hC 57 dX7_term_13 (by decide) (fun b1 => ?_) (fun b1 => ?_)
  · rw [if_pos b1] at h
    refine z_aload_n hC dX7_term_57 rfl rfl ?_
    refine z_dup hC dX7_term_58 rfl ?_
    refine z_getI hC kF_X7_112 sh_88 rfl dX7_term_59 ?_
    refine z_bipush (v := nI 100) hC dX7_term_62 (by decide) ?_
    refine y_irem hC dX7_term_64 (by decide) ?_
    obtain ⟨u2, e2, h⟩ := mS_some h
    refine y_putI hC kP_X7_112 sh_88 rfl dX7_term_65 e2 ?_
    refine z_iconst (v := 1) hC dX7_term_68 (by decide) ?_
    obtain rfl := Option.some.inj h
    exact z_zret hC hE rfl dX7_term_69
  · rw [if_neg b1] at h
    refine z_aload_n hC dX7_term_16 rfl rfl ?_
    obtain ⟨r3, u3, c3, h⟩ := mB_some h
    refine z_callI hC kC_X7_here kM_X7_101 sh_88 TX7 39 rfl (m_X7_here hC.dis u c3) rfl (Nat.le_of_ble_eq_true rfl) (Nat.le_of_ble_eq_true rfl) (Nat.le_of_ble_eq_true rfl) rfl dX7_term_17 ?_
    refine z_bipush (v := nI 126) hC dX7_term_20 (by decide) ?_
    refine z_icmp_ne hC 41 dX7_term_22 (by decide) (fun b4 => ?_) (fun b4 => ?_)
    · rw [if_neg b4] at h
      refine z_aload_n hC dX7_term_41 rfl rfl ?_
      refine z_iload_n hC dX7_term_42 rfl rfl ?_
      obtain ⟨r5, u5, c5, h⟩ := mB_some h
      refine z_callI hC kC_X7_leaf kM_X7_121 sh_88 TX7 39 rfl (m_X7_leaf hC.dis x1 u3 c5) rfl (Nat.le_of_ble_eq_true rfl) (Nat.le_of_ble_eq_true rfl) (Nat.le_of_ble_eq_true rfl) rfl dX7_term_43 ?_
      refine z_if_eq hC 55 dX7_term_46 (by decide) (fun b6 => ?_) (fun b6 => ?_)
      · rw [if_pos b6] at h
        refine z_iconst (v := 0) hC dX7_term_55 (by decide) ?_
        obtain rfl := Option.some.inj h
        exact z_zret hC hE rfl dX7_term_56
      · rw [if_neg b6] at h
        refine y_iinc hC (x2 + (-1)) [some (.ref (cS C 88)), some (.int x1), some (.int (x2 + (-1)))] dX7_term_49 rfl rfl rfl (Nat.le_of_ble_eq_true rfl) rfl ?_
        refine z_goto hC 12 dX7_term_52 (by decide) ?_
        exact hk12 (x2 + (-1)) u5 h
    · rw [if_pos b4] at h
      refine z_aload_n hC dX7_term_25 rfl rfl ?_
      refine z_dup hC dX7_term_26 rfl ?_
      refine z_getI hC kF_X7_95 sh_88 rfl dX7_term_27 ?_
      refine z_iconst (v := 1) hC dX7_term_30 (by decide) ?_
      refine z_iadd hC dX7_term_31 ?_
      obtain ⟨u7, e7, h⟩ := mS_some h
      refine y_putI hC kP_X7_95 sh_88 rfl dX7_term_32 e7 ?_
      refine y_iinc hC (x2 + 1) [some (.ref (cS C 88)), some (.int x1), some (.int (x2 + 1))] dX7_term_35 rfl rfl rfl (Nat.le_of_ble_eq_true rfl) rfl ?_
      refine z_goto hC 12 dX7_term_38 (by decide) ?_
      exact hk12 (x2 + 1) u7 h
set_option maxHeartbeats 4000000 in
set_option maxRecDepth 100000 in
theorem t_X7_term_12 {C : mCtx} (hC : mOK cX7_term RX7 3 3 66 C) {res : Int32 × MU} (hE : mEndI C .boolean res.1 res.2) (x1 : Int32) : ∀ (n : Nat) (x2 : Int32) (u : MU), l_X7_term_12 x1 n x2 u = some res → wat C u 12 [some (.ref (cS C 88)), some (.int x1), some (.int x2)] [] := by
  intro n
  induction n with
  | zero => intro x2 u h; exact absurd h (by simp [l_X7_term_12])
  | succ n ih =>
    intro x2 u h
    exact s_X7_term_12 hC hE x1 (fun x2 u => l_X7_term_12 x1 n x2 u) ih x2 u h
set_option maxHeartbeats 4000000 in
set_option maxRecDepth 100000 in
theorem s_X7_term_0 {C : mCtx} (hC : mOK cX7_term RX7 3 3 66 C) {res : Int32 × MU} (hE : mEndI C .boolean res.1 res.2) (x1 : Int32) (u : MU) (h : f_X7_term x1 u = some res) : wat C u 0 [some (.ref (cS C 88)), some (.int x1), none] [] := by
  unfold f_X7_term at h
  refine z_aload_n hC dX7_term_0 rfl rfl ?_
  refine z_iconst (v := 0) hC dX7_term_1 (by decide) ?_
  obtain ⟨u1, e1, h⟩ := mS_some h
  refine y_putI hC kP_X7_112 sh_88 rfl dX7_term_2 e1 ?_
  refine z_aload_n hC dX7_term_5 rfl rfl ?_
  refine z_iconst (v := 0) hC dX7_term_6 (by decide) ?_
  obtain ⟨u2, e2, h⟩ := mS_some h
  refine y_putI hC kP_X7_115 sh_88 rfl dX7_term_7 e2 ?_
  refine z_iconst (v := 1) hC dX7_term_10 (by decide) ?_
  refine y_istore_n hC [some (.ref (cS C 88)), some (.int x1), some (.int 1)] dX7_term_11 rfl rfl (Nat.le_of_ble_eq_true rfl) (Nat.le_of_ble_eq_true rfl) rfl ?_
  exact t_X7_term_12 hC hE x1 FU 1 u2 h
theorem m_X7_term {l : Launch} {dC : Nat → ClassId} {dI : Nat → Nat → Nat} {dA : Nat → ClassId} {as : Nat → Nat} (hD : mDis as) (x1 : Int32) (u : MU) {r : Int32} {v : MU} (h : f_X7_term x1 u = some (r, v)) : mMI l dC dI dA as yX7_term cX7_term 3 .boolean 3 66 [.ref (as 88), .int x1] u r v := mMIof RX7 [some (.ref (as 88)), some (.int x1), none] hD (by decide +kernel) rfl (Nat.le_of_ble_eq_true rfl) rfl (fun C e1 e2 e3 e4 e5 hC hE => by subst e5; exact s_X7_term_0 hC (res := (r, v)) hE x1 u h)
set_option maxHeartbeats 4000000 in
set_option maxRecDepth 100000 in
theorem s_X7_numberHere_31 {C : mCtx} (hC : mOK cX7_numberHere RX7 1 1 25 C) {res : Int32 × MU} (hE : mEndI C .boolean res.1 res.2) (s2 : Int32) (s1 : Int32) (u : MU) (h : b_X7_numberHere_31 s2 s1 u = some res) : wat C u 31 [some (.ref (cS C 88))] [(.int s2), (.int s1), (.ref (cS C 88))] := by
  unfold b_X7_numberHere_31 at h
  refine z_iadd hC dX7_numberHere_31 ?_
  obtain ⟨u1, e1, h⟩ := mS_some h
  refine y_putI hC kP_X7_95 sh_88 rfl dX7_numberHere_32 e1 ?_
  refine z_aload_n hC dX7_numberHere_35 rfl rfl ?_
  refine z_getI hC kF_X7_124 sh_88 rfl dX7_numberHere_36 ?_
  refine z_i2l hC dX7_numberHere_39 ?_
  refine z_lconst (v := 0) hC dX7_numberHere_40 (by decide) ?_
  refine z_ldc2 hC kN_X7_77 dX7_numberHere_41 ?_
  obtain ⟨r2, u2, c2, h⟩ := mB_some h
  refine z_callSI hC kC_X7_in kM_X7_79 (m_X7_in hC.dis ((u1 88 11).toInt64) 0 5 u1 c2) rfl (Nat.le_of_ble_eq_true rfl) (Nat.le_of_ble_eq_true rfl) (Nat.le_of_ble_eq_true rfl) rfl dX7_numberHere_44 ?_
  obtain ⟨g3, h⟩ := gd_some h
  obtain rfl := Option.some.inj h
  exact z_zret hC hE g3 dX7_numberHere_47
set_option maxHeartbeats 4000000 in
set_option maxRecDepth 100000 in
theorem s_X7_numberHere_0 {C : mCtx} (hC : mOK cX7_numberHere RX7 1 1 25 C) {res : Int32 × MU} (hE : mEndI C .boolean res.1 res.2) (u : MU) (h : f_X7_numberHere u = some res) : wat C u 0 [some (.ref (cS C 88))] [] := by
  unfold f_X7_numberHere at h
  refine z_aload_n hC dX7_numberHere_0 rfl rfl ?_
  refine z_aload_n hC dX7_numberHere_1 rfl rfl ?_
  obtain ⟨r1, u1, c1, h⟩ := mB_some h
  refine z_callI hC kC_X7_here kM_X7_101 sh_88 TX7 39 rfl (m_X7_here hC.dis u c1) rfl (Nat.le_of_ble_eq_true rfl) (Nat.le_of_ble_eq_true rfl) (Nat.le_of_ble_eq_true rfl) rfl dX7_numberHere_2 ?_
  refine z_bipush (v := nI 97) hC dX7_numberHere_5 (by decide) ?_
  refine z_isub hC dX7_numberHere_7 ?_
  obtain ⟨u2, e2, h⟩ := mS_some h
  refine y_putI hC kP_X7_124 sh_88 rfl dX7_numberHere_8 e2 ?_
  refine z_aload_n hC dX7_numberHere_11 rfl rfl ?_
  refine z_dup hC dX7_numberHere_12 rfl ?_
  refine z_getI hC kF_X7_95 sh_88 rfl dX7_numberHere_13 ?_
  refine z_aload_n hC dX7_numberHere_16 rfl rfl ?_
  obtain ⟨r3, u3, c3, h⟩ := mB_some h
  refine z_callI hC kC_X7_here kM_X7_101 sh_88 TX7 39 rfl (m_X7_here hC.dis u2 c3) rfl (Nat.le_of_ble_eq_true rfl) (Nat.le_of_ble_eq_true rfl) (Nat.le_of_ble_eq_true rfl) rfl dX7_numberHere_17 ?_
  obtain ⟨r4, u4, c4, h⟩ := mB_some h
  refine z_callSI hC kC_X7_isLetter kM_X7_118 (m_X7_isLetter hC.dis r3 u3 c4) rfl (Nat.le_of_ble_eq_true rfl) (Nat.le_of_ble_eq_true rfl) (Nat.le_of_ble_eq_true rfl) rfl dX7_numberHere_20 ?_
  refine z_if_eq hC 30 dX7_numberHere_23 (by decide) (fun b5 => ?_) (fun b5 => ?_)
  · rw [if_pos b5] at h
    refine z_iconst (v := 0) hC dX7_numberHere_30 (by decide) ?_
    exact s_X7_numberHere_31 hC hE 0 (u2 88 6) u4 h
  · rw [if_neg b5] at h
    refine z_iconst (v := 1) hC dX7_numberHere_26 (by decide) ?_
    refine z_goto hC 31 dX7_numberHere_27 (by decide) ?_
    exact s_X7_numberHere_31 hC hE 1 (u2 88 6) u4 h
theorem m_X7_numberHere {l : Launch} {dC : Nat → ClassId} {dI : Nat → Nat → Nat} {dA : Nat → ClassId} {as : Nat → Nat} (hD : mDis as) (u : MU) {r : Int32} {v : MU} (h : f_X7_numberHere u = some (r, v)) : mMI l dC dI dA as yX7_numberHere cX7_numberHere 1 .boolean 1 25 [.ref (as 88)] u r v := mMIof RX7 [some (.ref (as 88))] hD (by decide +kernel) rfl (Nat.le_of_ble_eq_true rfl) rfl (fun C e1 e2 e3 e4 e5 hC hE => by subst e5; exact s_X7_numberHere_0 hC (res := (r, v)) hE u h)
set_option maxHeartbeats 4000000 in
set_option maxRecDepth 100000 in
theorem s_X7_cellHere_0 {C : mCtx} (hC : mOK cX7_cellHere RX7 3 2 43 C) {res : Int32 × MU} (hE : mEndI C .boolean res.1 res.2) (x1 : Int32) (u : MU) (h : f_X7_cellHere x1 u = some res) : wat C u 0 [some (.ref (cS C 88)), some (.int x1), none] [] := by
  unfold f_X7_cellHere at h
  refine z_aload_n hC dX7_cellHere_0 rfl rfl ?_
  refine z_iload_n hC dX7_cellHere_1 rfl rfl ?_
  obtain ⟨r1, u1, c1, h⟩ := mB_some h
  refine z_callI hC kC_X7_index kM_X7_108 sh_88 TX7 39 rfl (m_X7_index hC.dis x1 u c1) rfl (Nat.le_of_ble_eq_true rfl) (Nat.le_of_ble_eq_true rfl) (Nat.le_of_ble_eq_true rfl) rfl dX7_cellHere_2 ?_
  refine y_istore_n hC [some (.ref (cS C 88)), some (.int x1), some (.int r1)] dX7_cellHere_5 rfl rfl (Nat.le_of_ble_eq_true rfl) (Nat.le_of_ble_eq_true rfl) rfl ?_
  refine z_aload_n hC dX7_cellHere_6 rfl rfl ?_
  refine z_bipush (v := nI 6) hC dX7_cellHere_7 (by decide) ?_
  refine z_iload_n hC dX7_cellHere_9 rfl rfl ?_
  refine z_iadd hC dX7_cellHere_10 ?_
  obtain ⟨u2, e2, h⟩ := mS_some h
  refine y_putI hC kP_X7_124 sh_88 rfl dX7_cellHere_11 e2 ?_
  refine z_iload_n hC dX7_cellHere_14 rfl rfl ?_
  refine z_if_lt hC 22 dX7_cellHere_15 (by decide) (fun b3 => ?_) (fun b3 => ?_)
  · rw [if_pos b3] at h
    refine z_iconst (v := 0) hC dX7_cellHere_22 (by decide) ?_
    obtain rfl := Option.some.inj h
    exact z_zret hC hE rfl dX7_cellHere_23
  · rw [if_neg b3] at h
    refine z_iconst (v := 1) hC dX7_cellHere_18 (by decide) ?_
    refine z_goto hC 23 dX7_cellHere_19 (by decide) ?_
    obtain rfl := Option.some.inj h
    exact z_zret hC hE rfl dX7_cellHere_23
theorem m_X7_cellHere {l : Launch} {dC : Nat → ClassId} {dI : Nat → Nat → Nat} {dA : Nat → ClassId} {as : Nat → Nat} (hD : mDis as) (x1 : Int32) (u : MU) {r : Int32} {v : MU} (h : f_X7_cellHere x1 u = some (r, v)) : mMI l dC dI dA as yX7_cellHere cX7_cellHere 3 .boolean 2 43 [.ref (as 88), .int x1] u r v := mMIof RX7 [some (.ref (as 88)), some (.int x1), none] hD (by decide +kernel) rfl (Nat.le_of_ble_eq_true rfl) rfl (fun C e1 e2 e3 e4 e5 hC hE => by subst e5; exact s_X7_cellHere_0 hC (res := (r, v)) hE x1 u h)
set_option maxHeartbeats 4000000 in
set_option maxRecDepth 100000 in
theorem s_X7_callHere_0 {C : mCtx} (hC : mOK cX7_callHere RX7 2 2 45 C) {res : Int32 × MU} (hE : mEndI C .boolean res.1 res.2) (x1 : Int32) (u : MU) (h : f_X7_callHere x1 u = some res) : wat C u 0 [some (.ref (cS C 88)), some (.int x1)] [] := by
  unfold f_X7_callHere at h
  refine z_aload_n hC dX7_callHere_0 rfl rfl ?_
  refine z_aload_n hC dX7_callHere_1 rfl rfl ?_
  obtain ⟨r1, u1, c1, h⟩ := mB_some h
  refine z_callI hC kC_X7_here kM_X7_101 sh_88 TX7 39 rfl (m_X7_here hC.dis u c1) rfl (Nat.le_of_ble_eq_true rfl) (Nat.le_of_ble_eq_true rfl) (Nat.le_of_ble_eq_true rfl) rfl dX7_callHere_2 ?_
  refine z_bipush (v := nI 48) hC dX7_callHere_5 (by decide) ?_
  refine z_isub hC dX7_callHere_7 ?_
  obtain ⟨u2, e2, h⟩ := mS_some h
  refine y_putI hC kP_X7_127 sh_88 rfl dX7_callHere_8 e2 ?_
  refine z_aload_n hC dX7_callHere_11 rfl rfl ?_
  refine z_getI hC kF_X7_127 sh_88 rfl dX7_callHere_12 ?_
  obtain ⟨r3, u3, c3, h⟩ := mB_some h
  refine z_callSI hC kC_X7_isRoutine kM_X7_87 (m_X7_isRoutine hC.dis (u2 88 12) u2 c3) rfl (Nat.le_of_ble_eq_true rfl) (Nat.le_of_ble_eq_true rfl) (Nat.le_of_ble_eq_true rfl) rfl dX7_callHere_15 ?_
  refine z_if_ne hC 23 dX7_callHere_18 (by decide) (fun b4 => ?_) (fun b4 => ?_)
  · rw [if_neg b4] at h
    refine z_aload_n hC dX7_callHere_23 rfl rfl ?_
    refine z_dup hC dX7_callHere_24 rfl ?_
    refine z_getI hC kF_X7_95 sh_88 rfl dX7_callHere_25 ?_
    refine z_iconst (v := 1) hC dX7_callHere_28 (by decide) ?_
    refine z_iadd hC dX7_callHere_29 ?_
    obtain ⟨u5, e5, h⟩ := mS_some h
    refine y_putI hC kP_X7_95 sh_88 rfl dX7_callHere_30 e5 ?_
    refine z_aload_n hC dX7_callHere_33 rfl rfl ?_
    refine z_aload_n hC dX7_callHere_34 rfl rfl ?_
    refine z_iload_n hC dX7_callHere_35 rfl rfl ?_
    obtain ⟨r6, u6, c6, h⟩ := mB_some h
    refine z_callI hC kC_X7_index kM_X7_108 sh_88 TX7 39 rfl (m_X7_index hC.dis x1 u5 c6) rfl (Nat.le_of_ble_eq_true rfl) (Nat.le_of_ble_eq_true rfl) (Nat.le_of_ble_eq_true rfl) rfl dX7_callHere_36 ?_
    obtain ⟨u7, e7, h⟩ := mS_some h
    refine y_putI hC kP_X7_130 sh_88 rfl dX7_callHere_39 e7 ?_
    refine z_aload_n hC dX7_callHere_42 rfl rfl ?_
    refine z_getI hC kF_X7_130 sh_88 rfl dX7_callHere_43 ?_
    refine z_if_lt hC 53 dX7_callHere_46 (by decide) (fun b8 => ?_) (fun b8 => ?_)
    · rw [if_pos b8] at h
      refine z_iconst (v := 0) hC dX7_callHere_53 (by decide) ?_
      obtain rfl := Option.some.inj h
      exact z_zret hC hE rfl dX7_callHere_54
    · rw [if_neg b8] at h
      refine z_iconst (v := 1) hC dX7_callHere_49 (by decide) ?_
      refine z_goto hC 54 dX7_callHere_50 (by decide) ?_
      obtain rfl := Option.some.inj h
      exact z_zret hC hE rfl dX7_callHere_54
  · rw [if_pos b4] at h
    refine z_iconst (v := 0) hC dX7_callHere_21 (by decide) ?_
    obtain rfl := Option.some.inj h
    exact z_zret hC hE rfl dX7_callHere_22
theorem m_X7_callHere {l : Launch} {dC : Nat → ClassId} {dI : Nat → Nat → Nat} {dA : Nat → ClassId} {as : Nat → Nat} (hD : mDis as) (x1 : Int32) (u : MU) {r : Int32} {v : MU} (h : f_X7_callHere x1 u = some (r, v)) : mMI l dC dI dA as yX7_callHere cX7_callHere 2 .boolean 2 45 [.ref (as 88), .int x1] u r v := mMIof RX7 [some (.ref (as 88)), some (.int x1)] hD (by decide +kernel) rfl (Nat.le_of_ble_eq_true rfl) rfl (fun C e1 e2 e3 e4 e5 hC hE => by subst e5; exact s_X7_callHere_0 hC (res := (r, v)) hE x1 u h)
set_option maxHeartbeats 4000000 in
set_option maxRecDepth 100000 in
theorem s_X7_statement_145 {C : mCtx} (hC : mOK cX7_statement RX7 4 4 88 C) {res : Int32 × MU} (hE : mEndI C .boolean res.1 res.2) (x1 : Int32) (u : MU) (h : b_X7_statement_145 x1 u = some res) : wat C u 145 [some (.ref (cS C 88)), some (.int x1), none, none] [] := by
  unfold b_X7_statement_145 at h
  refine z_aload_n hC dX7_statement_145 rfl rfl ?_
  refine z_iload_n hC dX7_statement_146 rfl rfl ?_
  obtain ⟨r1, u1, c1, h⟩ := mB_some h
  refine z_callI hC kC_X7_term kM_X7_146 sh_88 TX7 39 rfl (m_X7_term hC.dis x1 u c1) rfl (Nat.le_of_ble_eq_true rfl) (Nat.le_of_ble_eq_true rfl) (Nat.le_of_ble_eq_true rfl) rfl dX7_statement_147 ?_
  refine z_if_eq hC 157 dX7_statement_150 (by decide) (fun b2 => ?_) (fun b2 => ?_)
  · rw [if_pos b2] at h
    refine z_iconst (v := 0) hC dX7_statement_157 (by decide) ?_
    obtain rfl := Option.some.inj h
    exact z_zret hC hE rfl dX7_statement_158
  · rw [if_neg b2] at h
    refine z_iconst (v := 1) hC dX7_statement_153 (by decide) ?_
    refine z_goto hC 158 dX7_statement_154 (by decide) ?_
    obtain rfl := Option.some.inj h
    exact z_zret hC hE rfl dX7_statement_158
set_option maxHeartbeats 4000000 in
set_option maxRecDepth 100000 in
theorem s_X7_statement_84 {C : mCtx} (hC : mOK cX7_statement RX7 4 4 88 C) {res : Int32 × MU} (hE : mEndI C .boolean res.1 res.2) (x1 : Int32) (x2 : Int32) (u : MU) (h : b_X7_statement_84 x1 x2 u = some res) : wat C u 84 [some (.ref (cS C 88)), some (.int x1), some (.int x2), none] [] := by
  unfold b_X7_statement_84 at h
  refine z_aload_n hC dX7_statement_84 rfl rfl ?_
  refine z_dup hC dX7_statement_85 rfl ?_
  refine z_getI hC kF_X7_95 sh_88 rfl dX7_statement_86 ?_
  refine z_iconst (v := 1) hC dX7_statement_89 (by decide) ?_
  refine z_iadd hC dX7_statement_90 ?_
  obtain ⟨u1, e1, h⟩ := mS_some h
  refine y_putI hC kP_X7_95 sh_88 rfl dX7_statement_91 e1 ?_
  refine z_aload_n hC dX7_statement_94 rfl rfl ?_
  refine z_getI hC kF_X7_133 sh_88 rfl dX7_statement_95 ?_
  refine z_bipush (v := nI 99) hC dX7_statement_98 (by decide) ?_
  refine z_icmp_ne hC 109 dX7_statement_100 (by decide) (fun b2 => ?_) (fun b2 => ?_)
  · rw [if_neg b2] at h
    refine z_aload_n hC dX7_statement_109 rfl rfl ?_
    refine z_getI hC kF_X7_133 sh_88 rfl dX7_statement_110 ?_
    refine z_bipush (v := nI 63) hC dX7_statement_113 (by decide) ?_
    refine z_icmp_ne hC 123 dX7_statement_115 (by decide) (fun b3 => ?_) (fun b3 => ?_)
    · rw [if_neg b3] at h
      refine z_iload_n hC dX7_statement_123 rfl rfl ?_
      refine z_if_eq hC 137 dX7_statement_124 (by decide) (fun b4 => ?_) (fun b4 => ?_)
      · rw [if_pos b4] at h
        refine z_aload_n hC dX7_statement_137 rfl rfl ?_
        refine z_iload_n hC dX7_statement_138 rfl rfl ?_
        obtain ⟨r5, u5, c5, h⟩ := mB_some h
        refine z_callI hC kC_X7_cellHere kM_X7_143 sh_88 TX7 39 rfl (m_X7_cellHere hC.dis x1 u1 c5) rfl (Nat.le_of_ble_eq_true rfl) (Nat.le_of_ble_eq_true rfl) (Nat.le_of_ble_eq_true rfl) rfl dX7_statement_139 ?_
        refine z_if_eq hC 157 dX7_statement_142 (by decide) (fun b6 => ?_) (fun b6 => ?_)
        · rw [if_pos b6] at h
          refine z_iconst (v := 0) hC dX7_statement_157 (by decide) ?_
          obtain rfl := Option.some.inj h
          exact z_zret hC hE rfl dX7_statement_158
        · rw [if_neg b6] at h
          refine z_mask [true, true, false, false] ?_
          exact s_X7_statement_145 hC hE x1 u5 h
      · rw [if_neg b4] at h
        refine z_aload_n hC dX7_statement_127 rfl rfl ?_
        obtain ⟨r7, u7, c7, h⟩ := mB_some h
        refine z_callI hC kC_X7_numberHere kM_X7_139 sh_88 TX7 39 rfl (m_X7_numberHere hC.dis u1 c7) rfl (Nat.le_of_ble_eq_true rfl) (Nat.le_of_ble_eq_true rfl) (Nat.le_of_ble_eq_true rfl) rfl dX7_statement_128 ?_
        refine z_if_eq hC 157 dX7_statement_131 (by decide) (fun b8 => ?_) (fun b8 => ?_)
        · rw [if_pos b8] at h
          refine z_iconst (v := 0) hC dX7_statement_157 (by decide) ?_
          obtain rfl := Option.some.inj h
          exact z_zret hC hE rfl dX7_statement_158
        · rw [if_neg b8] at h
          refine z_goto hC 145 dX7_statement_134 (by decide) ?_
          refine z_mask [true, true, false, false] ?_
          exact s_X7_statement_145 hC hE x1 u7 h
    · rw [if_pos b3] at h
      refine z_aload_n hC dX7_statement_118 rfl rfl ?_
      obtain ⟨r9, u9, c9, h⟩ := mB_some h
      refine z_callI hC kC_X7_numberHere kM_X7_139 sh_88 TX7 39 rfl (m_X7_numberHere hC.dis u1 c9) rfl (Nat.le_of_ble_eq_true rfl) (Nat.le_of_ble_eq_true rfl) (Nat.le_of_ble_eq_true rfl) rfl dX7_statement_119 ?_
      obtain ⟨g10, h⟩ := gd_some h
      obtain rfl := Option.some.inj h
      exact z_zret hC hE g10 dX7_statement_122
  · rw [if_pos b2] at h
    refine z_aload_n hC dX7_statement_103 rfl rfl ?_
    refine z_iload_n hC dX7_statement_104 rfl rfl ?_
    obtain ⟨r11, u11, c11, h⟩ := mB_some h
    refine z_callI hC kC_X7_callHere kM_X7_136 sh_88 TX7 39 rfl (m_X7_callHere hC.dis x1 u1 c11) rfl (Nat.le_of_ble_eq_true rfl) (Nat.le_of_ble_eq_true rfl) (Nat.le_of_ble_eq_true rfl) rfl dX7_statement_105 ?_
    obtain ⟨g12, h⟩ := gd_some h
    obtain rfl := Option.some.inj h
    exact z_zret hC hE g12 dX7_statement_108
set_option maxHeartbeats 4000000 in
set_option maxRecDepth 100000 in
theorem s_X7_statement_55 {C : mCtx} (hC : mOK cX7_statement RX7 4 4 88 C) {res : Int32 × MU} (hE : mEndI C .boolean res.1 res.2) (x1 : Int32) (x2 : Int32) (s0 : Int32) (u : MU) (h : b_X7_statement_55 x1 x2 s0 u = some res) : wat C u 55 [some (.ref (cS C 88)), some (.int x1), some (.int x2), none] [(.int s0)] := by
  unfold b_X7_statement_55 at h
  refine y_istore_n hC [some (.ref (cS C 88)), some (.int x1), some (.int x2), some (.int s0)] dX7_statement_55 rfl rfl (Nat.le_of_ble_eq_true rfl) (Nat.le_of_ble_eq_true rfl) rfl ?_
  refine z_iload_n hC dX7_statement_56 rfl rfl ?_
  refine z_if_ne hC 84 dX7_statement_57 (by decide) (fun b1 => ?_) (fun b1 => ?_)
  · rw [if_neg b1] at h
    refine z_mask [true, true, true, false] ?_
    exact s_X7_statement_84 hC hE x1 x2 u h
  · rw [if_pos b1] at h
    refine z_iload_n hC dX7_statement_60 rfl rfl ?_
    refine z_if_ne hC 84 dX7_statement_61 (by decide) (fun b2 => ?_) (fun b2 => ?_)
    · rw [if_neg b2] at h
      refine z_mask [true, true, true, false] ?_
      exact s_X7_statement_84 hC hE x1 x2 u h
    · rw [if_pos b2] at h
      refine z_aload_n hC dX7_statement_64 rfl rfl ?_
      refine z_getI hC kF_X7_133 sh_88 rfl dX7_statement_65 ?_
      refine z_bipush (v := nI 63) hC dX7_statement_68 (by decide) ?_
      refine z_icmp_eq hC 84 dX7_statement_70 (by decide) (fun b3 => ?_) (fun b3 => ?_)
      · rw [if_pos b3] at h
        refine z_mask [true, true, true, false] ?_
        exact s_X7_statement_84 hC hE x1 x2 u h
      · rw [if_neg b3] at h
        refine z_aload_n hC dX7_statement_73 rfl rfl ?_
        refine z_getI hC kF_X7_133 sh_88 rfl dX7_statement_74 ?_
        refine z_bipush (v := nI 99) hC dX7_statement_77 (by decide) ?_
        refine z_icmp_eq hC 84 dX7_statement_79 (by decide) (fun b4 => ?_) (fun b4 => ?_)
        · rw [if_pos b4] at h
          refine z_mask [true, true, true, false] ?_
          exact s_X7_statement_84 hC hE x1 x2 u h
        · rw [if_neg b4] at h
          refine z_iconst (v := 0) hC dX7_statement_82 (by decide) ?_
          obtain rfl := Option.some.inj h
          exact z_zret hC hE rfl dX7_statement_83
set_option maxHeartbeats 4000000 in
set_option maxRecDepth 100000 in
theorem s_X7_statement_50 {C : mCtx} (hC : mOK cX7_statement RX7 4 4 88 C) {res : Int32 × MU} (hE : mEndI C .boolean res.1 res.2) (x1 : Int32) (x2 : Int32) (u : MU) (h : b_X7_statement_50 x1 x2 u = some res) : wat C u 50 [some (.ref (cS C 88)), some (.int x1), some (.int x2), none] [] := by
  unfold b_X7_statement_50 at h
  refine z_iconst (v := 1) hC dX7_statement_50 (by decide) ?_
  refine z_goto hC 55 dX7_statement_51 (by decide) ?_
  exact s_X7_statement_55 hC hE x1 x2 1 u h
set_option maxHeartbeats 4000000 in
set_option maxRecDepth 100000 in
theorem s_X7_statement_31 {C : mCtx} (hC : mOK cX7_statement RX7 4 4 88 C) {res : Int32 × MU} (hE : mEndI C .boolean res.1 res.2) (x1 : Int32) (s0 : Int32) (u : MU) (h : b_X7_statement_31 x1 s0 u = some res) : wat C u 31 [some (.ref (cS C 88)), some (.int x1), none, none] [(.int s0)] := by
  unfold b_X7_statement_31 at h
  refine y_istore_n hC [some (.ref (cS C 88)), some (.int x1), some (.int s0), none] dX7_statement_31 rfl rfl (Nat.le_of_ble_eq_true rfl) (Nat.le_of_ble_eq_true rfl) rfl ?_
  refine z_aload_n hC dX7_statement_32 rfl rfl ?_
  refine z_getI hC kF_X7_133 sh_88 rfl dX7_statement_33 ?_
  refine z_bipush (v := nI 35) hC dX7_statement_36 (by decide) ?_
  refine z_icmp_eq hC 50 dX7_statement_38 (by decide) (fun b1 => ?_) (fun b1 => ?_)
  · rw [if_pos b1] at h
    exact s_X7_statement_50 hC hE x1 s0 u h
  · rw [if_neg b1] at h
    refine z_aload_n hC dX7_statement_41 rfl rfl ?_
    refine z_getI hC kF_X7_133 sh_88 rfl dX7_statement_42 ?_
    refine z_bipush (v := nI 94) hC dX7_statement_45 (by decide) ?_
    refine z_icmp_ne hC 54 dX7_statement_47 (by decide) (fun b2 => ?_) (fun b2 => ?_)
    · rw [if_neg b2] at h
      refine z_iconst (v := 0) hC dX7_statement_54 (by decide) ?_
      exact s_X7_statement_55 hC hE x1 s0 0 u h
    · rw [if_pos b2] at h
      exact s_X7_statement_50 hC hE x1 s0 u h
set_option maxHeartbeats 4000000 in
set_option maxRecDepth 100000 in
theorem s_X7_statement_26 {C : mCtx} (hC : mOK cX7_statement RX7 4 4 88 C) {res : Int32 × MU} (hE : mEndI C .boolean res.1 res.2) (x1 : Int32) (u : MU) (h : b_X7_statement_26 x1 u = some res) : wat C u 26 [some (.ref (cS C 88)), some (.int x1), none, none] [] := by
  unfold b_X7_statement_26 at h
  refine z_iconst (v := 1) hC dX7_statement_26 (by decide) ?_
  refine z_goto hC 31 dX7_statement_27 (by decide) ?_
  exact s_X7_statement_31 hC hE x1 1 u h
set_option maxHeartbeats 4000000 in
set_option maxRecDepth 100000 in
theorem s_X7_statement_0 {C : mCtx} (hC : mOK cX7_statement RX7 4 4 88 C) {res : Int32 × MU} (hE : mEndI C .boolean res.1 res.2) (x1 : Int32) (u : MU) (h : f_X7_statement x1 u = some res) : wat C u 0 [some (.ref (cS C 88)), some (.int x1), none, none] [] := by
  unfold f_X7_statement at h
  refine z_aload_n hC dX7_statement_0 rfl rfl ?_
  refine z_aload_n hC dX7_statement_1 rfl rfl ?_
  obtain ⟨r1, u1, c1, h⟩ := mB_some h
  refine z_callI hC kC_X7_here kM_X7_101 sh_88 TX7 39 rfl (m_X7_here hC.dis u c1) rfl (Nat.le_of_ble_eq_true rfl) (Nat.le_of_ble_eq_true rfl) (Nat.le_of_ble_eq_true rfl) rfl dX7_statement_2 ?_
  obtain ⟨u2, e2, h⟩ := mS_some h
  refine y_putI hC kP_X7_133 sh_88 rfl dX7_statement_5 e2 ?_
  refine z_aload_n hC dX7_statement_8 rfl rfl ?_
  refine z_getI hC kF_X7_133 sh_88 rfl dX7_statement_9 ?_
  refine z_bipush (v := nI 61) hC dX7_statement_12 (by decide) ?_
  refine z_icmp_eq hC 26 dX7_statement_14 (by decide) (fun b3 => ?_) (fun b3 => ?_)
  · rw [if_pos b3] at h
    exact s_X7_statement_26 hC hE x1 u2 h
  · rw [if_neg b3] at h
    refine z_aload_n hC dX7_statement_17 rfl rfl ?_
    refine z_getI hC kF_X7_133 sh_88 rfl dX7_statement_18 ?_
    refine z_bipush (v := nI 43) hC dX7_statement_21 (by decide) ?_
    refine z_icmp_ne hC 30 dX7_statement_23 (by decide) (fun b4 => ?_) (fun b4 => ?_)
    · rw [if_neg b4] at h
      refine z_iconst (v := 0) hC dX7_statement_30 (by decide) ?_
      exact s_X7_statement_31 hC hE x1 0 u2 h
    · rw [if_pos b4] at h
      exact s_X7_statement_26 hC hE x1 u2 h
theorem m_X7_statement {l : Launch} {dC : Nat → ClassId} {dI : Nat → Nat → Nat} {dA : Nat → ClassId} {as : Nat → Nat} (hD : mDis as) (x1 : Int32) (u : MU) {r : Int32} {v : MU} (h : f_X7_statement x1 u = some (r, v)) : mMI l dC dI dA as yX7_statement cX7_statement 4 .boolean 4 88 [.ref (as 88), .int x1] u r v := mMIof RX7 [some (.ref (as 88)), some (.int x1), none, none] hD (by decide +kernel) rfl (Nat.le_of_ble_eq_true rfl) rfl (fun C e1 e2 e3 e4 e5 hC hE => by subst e5; exact s_X7_statement_0 hC (res := (r, v)) hE x1 u h)
set_option maxHeartbeats 4000000 in
set_option maxRecDepth 100000 in
theorem s_X7_begin_0 {C : mCtx} (hC : mOK cX7_begin RX7 2 0 0 C) {res : Int32 × MU} (hE : mEndV C res.2) (x1 : Int32) (u : MU) (h : f_X7_begin x1 u = some res) : wat C u 0 [some (.ref (cS C 88)), some (.int x1)] [] := by
  unfold f_X7_begin at h
  refine z_aload_n hC dX7_begin_0 rfl rfl ?_
  refine z_iload_n hC dX7_begin_1 rfl rfl ?_
  obtain ⟨u1, e1, h⟩ := mS_some h
  refine y_putI hC kP_X7_99 sh_88 rfl dX7_begin_2 e1 ?_
  refine z_aload_n hC dX7_begin_5 rfl rfl ?_
  refine z_iconst (v := 0) hC dX7_begin_6 (by decide) ?_
  obtain ⟨u2, e2, h⟩ := mS_some h
  refine y_putI hC kP_X7_95 sh_88 rfl dX7_begin_7 e2 ?_
  obtain rfl := Option.some.inj h
  exact z_vret hC hE dX7_begin_10
theorem m_X7_begin {l : Launch} {dC : Nat → ClassId} {dI : Nat → Nat → Nat} {dA : Nat → ClassId} {as : Nat → Nat} (hD : mDis as) (x1 : Int32) (u : MU) {r : Int32} {v : MU} (h : f_X7_begin x1 u = some (r, v)) : mMV l dC dI dA as yX7_begin cX7_begin 2 0 0 [.ref (as 88), .int x1] u v := mMVof RX7 [some (.ref (as 88)), some (.int x1)] hD (by decide +kernel) rfl (Nat.le_of_ble_eq_true rfl) rfl (fun C e1 e2 e3 e4 e5 hC hE => by subst e5; exact s_X7_begin_0 hC (res := (r, v)) hE x1 u h)
set_option maxHeartbeats 4000000 in
set_option maxRecDepth 100000 in
theorem s_X7_isMore_0 {C : mCtx} (hC : mOK cX7_isMore RX7 1 0 0 C) {res : Int32 × MU} (hE : mEndI C .boolean res.1 res.2) (u : MU) (h : f_X7_isMore u = some res) : wat C u 0 [some (.ref (cS C 88))] [] := by
  unfold f_X7_isMore at h
  refine z_aload_n hC dX7_isMore_0 rfl rfl ?_
  refine z_getI hC kF_X7_95 sh_88 rfl dX7_isMore_1 ?_
  refine z_aload_n hC dX7_isMore_4 rfl rfl ?_
  refine z_getR hC 90 kF_X7_13 sh_88 rfl dX7_isMore_5 ?_
  refine z_aload_n hC dX7_isMore_8 rfl rfl ?_
  refine z_getI hC kF_X7_99 sh_88 rfl dX7_isMore_9 ?_
  obtain ⟨g1, h⟩ := gd_some h
  refine z_iald hC sh_90 g1 dX7_isMore_12 ?_
  refine z_icmp_ge hC 20 dX7_isMore_13 (by decide) (fun b2 => ?_) (fun b2 => ?_)
  · rw [if_pos b2] at h
    refine z_iconst (v := 0) hC dX7_isMore_20 (by decide) ?_
    obtain rfl := Option.some.inj h
    exact z_zret hC hE rfl dX7_isMore_21
  · rw [if_neg b2] at h
    refine z_iconst (v := 1) hC dX7_isMore_16 (by decide) ?_
    refine z_goto hC 21 dX7_isMore_17 (by decide) ?_
    obtain rfl := Option.some.inj h
    exact z_zret hC hE rfl dX7_isMore_21
theorem m_X7_isMore {l : Launch} {dC : Nat → ClassId} {dI : Nat → Nat → Nat} {dA : Nat → ClassId} {as : Nat → Nat} (hD : mDis as) (u : MU) {r : Int32} {v : MU} (h : f_X7_isMore u = some (r, v)) : mMI l dC dI dA as yX7_isMore cX7_isMore 1 .boolean 0 0 [.ref (as 88)] u r v := mMIof RX7 [some (.ref (as 88))] hD (by decide +kernel) rfl (Nat.le_of_ble_eq_true rfl) rfl (fun C e1 e2 e3 e4 e5 hC hE => by subst e5; exact s_X7_isMore_0 hC (res := (r, v)) hE u h)
set_option maxHeartbeats 4000000 in
set_option maxRecDepth 100000 in
theorem s_X7_faultOf_5 {C : mCtx} (hC : mOK cX7_faultOf RX7 2 5 111 C) {res : Int32 × MU} (hE : mEndI C .int res.1 res.2) (k5 : MU → mR) (hk5 : ∀ (u : MU), k5 u = some res → wat C u 5 [some (.ref (cS C 88)), none] []) (u : MU) (h : b_X7_faultOf_5 k5 u = some res) : wat C u 5 [some (.ref (cS C 88)), none] [] := by
  unfold b_X7_faultOf_5 at h
  refine z_aload_n hC dX7_faultOf_5 rfl rfl ?_
  obtain ⟨r1, u1, c1, h⟩ := mB_some h
  refine z_callI hC kC_X7_isMore kM_X7_153 sh_88 TX7 39 rfl (m_X7_isMore hC.dis u c1) rfl (Nat.le_of_ble_eq_true rfl) (Nat.le_of_ble_eq_true rfl) (Nat.le_of_ble_eq_true rfl) rfl dX7_faultOf_6 ?_
  refine z_if_eq hC 25 dX7_faultOf_9 (by decide) (fun b2 => ?_) (fun b2 => ?_)
  · rw [if_pos b2] at h
    refine z_bipush (v := (-6)) hC dX7_faultOf_25 (by decide) ?_
    obtain rfl := Option.some.inj h
    exact z_iret hC hE dX7_faultOf_27
  · rw [if_neg b2] at h
    refine z_aload_n hC dX7_faultOf_12 rfl rfl ?_
    refine z_iconst (v := 0) hC dX7_faultOf_13 (by decide) ?_
    obtain ⟨r3, u3, c3, h⟩ := mB_some h
    refine z_callI hC kC_X7_statement kM_X7_156 sh_88 TX7 39 rfl (m_X7_statement hC.dis 0 u1 c3) rfl (Nat.le_of_ble_eq_true rfl) (Nat.le_of_ble_eq_true rfl) (Nat.le_of_ble_eq_true rfl) rfl dX7_faultOf_14 ?_
    refine z_if_ne hC 5 dX7_faultOf_17 (by decide) (fun b4 => ?_) (fun b4 => ?_)
    · rw [if_neg b4] at h
      exact hk5 u3 h
    · rw [if_pos b4] at h
      refine z_aload_n hC dX7_faultOf_20 rfl rfl ?_
      refine z_getI hC kF_X7_95 sh_88 rfl dX7_faultOf_21 ?_
      obtain rfl := Option.some.inj h
      exact z_iret hC hE dX7_faultOf_24
set_option maxHeartbeats 4000000 in
set_option maxRecDepth 100000 in
theorem t_X7_faultOf_5 {C : mCtx} (hC : mOK cX7_faultOf RX7 2 5 111 C) {res : Int32 × MU} (hE : mEndI C .int res.1 res.2) : ∀ (n : Nat) (u : MU), l_X7_faultOf_5 n u = some res → wat C u 5 [some (.ref (cS C 88)), none] [] := by
  intro n
  induction n with
  | zero => intro u h; exact absurd h (by simp [l_X7_faultOf_5])
  | succ n ih =>
    intro u h
    exact s_X7_faultOf_5 hC hE (fun u => l_X7_faultOf_5 n u) ih u h
set_option maxHeartbeats 4000000 in
set_option maxRecDepth 100000 in
theorem s_X7_faultOf_0 {C : mCtx} (hC : mOK cX7_faultOf RX7 2 5 111 C) {res : Int32 × MU} (hE : mEndI C .int res.1 res.2) (x1 : Int32) (u : MU) (h : f_X7_faultOf x1 u = some res) : wat C u 0 [some (.ref (cS C 88)), some (.int x1)] [] := by
  unfold f_X7_faultOf at h
  refine z_aload_n hC dX7_faultOf_0 rfl rfl ?_
  refine z_iload_n hC dX7_faultOf_1 rfl rfl ?_
  obtain ⟨r1, u1, c1, h⟩ := mB_some h
  refine z_callV hC kC_X7_begin kM_X7_149 sh_88 TX7 39 rfl (m_X7_begin hC.dis x1 u c1) rfl (Nat.le_of_ble_eq_true rfl) (Nat.le_of_ble_eq_true rfl) (Nat.le_of_ble_eq_true rfl) rfl dX7_faultOf_2 ?_
  refine z_mask [true, false] ?_
  exact t_X7_faultOf_5 hC hE FU u1 h
theorem m_X7_faultOf {l : Launch} {dC : Nat → ClassId} {dI : Nat → Nat → Nat} {dA : Nat → ClassId} {as : Nat → Nat} (hD : mDis as) (x1 : Int32) (u : MU) {r : Int32} {v : MU} (h : f_X7_faultOf x1 u = some (r, v)) : mMI l dC dI dA as yX7_faultOf cX7_faultOf 2 .int 5 111 [.ref (as 88), .int x1] u r v := mMIof RX7 [some (.ref (as 88)), some (.int x1)] hD (by decide +kernel) rfl (Nat.le_of_ble_eq_true rfl) rfl (fun C e1 e2 e3 e4 e5 hC hE => by subst e5; exact s_X7_faultOf_0 hC (res := (r, v)) hE x1 u h)
set_option maxHeartbeats 4000000 in
set_option maxRecDepth 100000 in
theorem s_X7_fault_0 {C : mCtx} (hC : mOK cX7_fault RX7 2 6 132 C) {res : Int32 × MU} (hE : mEndI C .int res.1 res.2) (x1 : Int32) (u : MU) (h : f_X7_fault x1 u = some res) : wat C u 0 [some (.ref (cS C 88)), some (.int x1)] [] := by
  unfold f_X7_fault at h
  refine z_iload_n hC dX7_fault_0 rfl rfl ?_
  obtain ⟨r1, u1, c1, h⟩ := mB_some h
  refine z_callSI hC kC_X7_isRoutine kM_X7_87 (m_X7_isRoutine hC.dis x1 u c1) rfl (Nat.le_of_ble_eq_true rfl) (Nat.le_of_ble_eq_true rfl) (Nat.le_of_ble_eq_true rfl) rfl dX7_fault_1 ?_
  refine z_if_eq hC 15 dX7_fault_4 (by decide) (fun b2 => ?_) (fun b2 => ?_)
  · rw [if_pos b2] at h
    refine z_iconst (v := (-1)) hC dX7_fault_15 (by decide) ?_
    obtain rfl := Option.some.inj h
    exact z_iret hC hE dX7_fault_16
  · rw [if_neg b2] at h
    refine z_aload_n hC dX7_fault_7 rfl rfl ?_
    refine z_iload_n hC dX7_fault_8 rfl rfl ?_
    obtain ⟨r3, u3, c3, h⟩ := mB_some h
    refine z_callI hC kC_X7_faultOf kM_X7_159 sh_88 TX7 39 rfl (m_X7_faultOf hC.dis x1 u1 c3) rfl (Nat.le_of_ble_eq_true rfl) (Nat.le_of_ble_eq_true rfl) (Nat.le_of_ble_eq_true rfl) rfl dX7_fault_9 ?_
    refine z_goto hC 16 dX7_fault_12 (by decide) ?_
    obtain rfl := Option.some.inj h
    exact z_iret hC hE dX7_fault_16
theorem m_X7_fault {l : Launch} {dC : Nat → ClassId} {dI : Nat → Nat → Nat} {dA : Nat → ClassId} {as : Nat → Nat} (hD : mDis as) (x1 : Int32) (u : MU) {r : Int32} {v : MU} (h : f_X7_fault x1 u = some (r, v)) : mMI l dC dI dA as yX7_fault cX7_fault 2 .int 6 132 [.ref (as 88), .int x1] u r v := mMIof RX7 [some (.ref (as 88)), some (.int x1)] hD (by decide +kernel) rfl (Nat.le_of_ble_eq_true rfl) rfl (fun C e1 e2 e3 e4 e5 hC hE => by subst e5; exact s_X7_fault_0 hC (res := (r, v)) hE x1 u h)
set_option maxHeartbeats 4000000 in
set_option maxRecDepth 100000 in
theorem s_X7_set_0 {C : mCtx} (hC : mOK cX7_set RX7 4 2 45 C) {res : Int32 × MU} (hE : mEndI C .int res.1 res.2) (x1 : Int32) (x2 : Int32) (u : MU) (h : f_X7_set x1 x2 u = some res) : wat C u 0 [some (.ref (cS C 88)), some (.int x1), some (.int x2), none] [] := by
  unfold f_X7_set at h
  refine z_iload_n hC dX7_set_0 rfl rfl ?_
  obtain ⟨r1, u1, c1, h⟩ := mB_some h
  refine z_callSI hC kC_X7_isPlace kM_X7_162 (m_X7_isPlace hC.dis x1 u c1) rfl (Nat.le_of_ble_eq_true rfl) (Nat.le_of_ble_eq_true rfl) (Nat.le_of_ble_eq_true rfl) rfl dX7_set_1 ?_
  refine z_if_ne hC 9 dX7_set_4 (by decide) (fun b2 => ?_) (fun b2 => ?_)
  · rw [if_neg b2] at h
    refine z_iload_n hC dX7_set_9 rfl rfl ?_
    refine z_i2l hC dX7_set_10 ?_
    refine z_lconst (v := 0) hC dX7_set_11 (by decide) ?_
    refine z_ldc2 hC kN_X7_165 dX7_set_12 ?_
    obtain ⟨r3, u3, c3, h⟩ := mB_some h
    refine z_callSI hC kC_X7_in kM_X7_79 (m_X7_in hC.dis x2.toInt64 0 99 u1 c3) rfl (Nat.le_of_ble_eq_true rfl) (Nat.le_of_ble_eq_true rfl) (Nat.le_of_ble_eq_true rfl) rfl dX7_set_15 ?_
    refine z_if_ne hC 24 dX7_set_18 (by decide) (fun b4 => ?_) (fun b4 => ?_)
    · rw [if_neg b4] at h
      refine z_aload_n hC dX7_set_24 rfl rfl ?_
      refine z_getR hC 91 kF_X7_16 sh_88 rfl dX7_set_25 ?_
      refine z_iload_n hC dX7_set_28 rfl rfl ?_
      obtain ⟨g5, h⟩ := gd_some h
      refine z_iald hC sh_91 g5 dX7_set_29 ?_
      refine y_istore_n hC [some (.ref (cS C 88)), some (.int x1), some (.int x2), some (.int (u3 91 x1.toNatClampNeg))] dX7_set_30 rfl rfl (Nat.le_of_ble_eq_true rfl) (Nat.le_of_ble_eq_true rfl) rfl ?_
      refine z_aload_n hC dX7_set_31 rfl rfl ?_
      refine z_getR hC 91 kF_X7_16 sh_88 rfl dX7_set_32 ?_
      refine z_iload_n hC dX7_set_35 rfl rfl ?_
      refine z_iload_n hC dX7_set_36 rfl rfl ?_
      obtain ⟨g6, h⟩ := gd_some h
      obtain ⟨u7, e7, h⟩ := mS_some h
      refine y_iast hC sh_91 g6 dX7_set_37 e7 ?_
      refine z_iload_n hC dX7_set_38 rfl rfl ?_
      obtain rfl := Option.some.inj h
      exact z_iret hC hE dX7_set_39
    · rw [if_pos b4] at h
      refine z_bipush (v := (-2)) hC dX7_set_21 (by decide) ?_
      obtain rfl := Option.some.inj h
      exact z_iret hC hE dX7_set_23
  · rw [if_pos b2] at h
    refine z_iconst (v := (-1)) hC dX7_set_7 (by decide) ?_
    obtain rfl := Option.some.inj h
    exact z_iret hC hE dX7_set_8
theorem m_X7_set {l : Launch} {dC : Nat → ClassId} {dI : Nat → Nat → Nat} {dA : Nat → ClassId} {as : Nat → Nat} (hD : mDis as) (x1 : Int32) (x2 : Int32) (u : MU) {r : Int32} {v : MU} (h : f_X7_set x1 x2 u = some (r, v)) : mMI l dC dI dA as yX7_set cX7_set 4 .int 2 45 [.ref (as 88), .int x1, .int x2] u r v := mMIof RX7 [some (.ref (as 88)), some (.int x1), some (.int x2), none] hD (by decide +kernel) rfl (Nat.le_of_ble_eq_true rfl) rfl (fun C e1 e2 e3 e4 e5 hC hE => by subst e5; exact s_X7_set_0 hC (res := (r, v)) hE x1 x2 u h)
set_option maxHeartbeats 4000000 in
set_option maxRecDepth 100000 in
theorem s_X7_get_0 {C : mCtx} (hC : mOK cX7_get RX7 2 2 45 C) {res : Int32 × MU} (hE : mEndI C .int res.1 res.2) (x1 : Int32) (u : MU) (h : f_X7_get x1 u = some res) : wat C u 0 [some (.ref (cS C 88)), some (.int x1)] [] := by
  unfold f_X7_get at h
  refine z_iload_n hC dX7_get_0 rfl rfl ?_
  obtain ⟨r1, u1, c1, h⟩ := mB_some h
  refine z_callSI hC kC_X7_isPlace kM_X7_162 (m_X7_isPlace hC.dis x1 u c1) rfl (Nat.le_of_ble_eq_true rfl) (Nat.le_of_ble_eq_true rfl) (Nat.le_of_ble_eq_true rfl) rfl dX7_get_1 ?_
  refine z_if_eq hC 16 dX7_get_4 (by decide) (fun b2 => ?_) (fun b2 => ?_)
  · rw [if_pos b2] at h
    refine z_iconst (v := (-1)) hC dX7_get_16 (by decide) ?_
    obtain rfl := Option.some.inj h
    exact z_iret hC hE dX7_get_17
  · rw [if_neg b2] at h
    refine z_aload_n hC dX7_get_7 rfl rfl ?_
    refine z_getR hC 91 kF_X7_16 sh_88 rfl dX7_get_8 ?_
    refine z_iload_n hC dX7_get_11 rfl rfl ?_
    obtain ⟨g3, h⟩ := gd_some h
    refine z_iald hC sh_91 g3 dX7_get_12 ?_
    refine z_goto hC 17 dX7_get_13 (by decide) ?_
    obtain rfl := Option.some.inj h
    exact z_iret hC hE dX7_get_17
theorem m_X7_get {l : Launch} {dC : Nat → ClassId} {dI : Nat → Nat → Nat} {dA : Nat → ClassId} {as : Nat → Nat} (hD : mDis as) (x1 : Int32) (u : MU) {r : Int32} {v : MU} (h : f_X7_get x1 u = some (r, v)) : mMI l dC dI dA as yX7_get cX7_get 2 .int 2 45 [.ref (as 88), .int x1] u r v := mMIof RX7 [some (.ref (as 88)), some (.int x1)] hD (by decide +kernel) rfl (Nat.le_of_ble_eq_true rfl) rfl (fun C e1 e2 e3 e4 e5 hC hE => by subst e5; exact s_X7_get_0 hC (res := (r, v)) hE x1 u h)
set_option maxHeartbeats 4000000 in
set_option maxRecDepth 100000 in
theorem s_X7_callsOf_42 {C : mCtx} (hC : mOK cX7_callsOf RX7 3 5 111 C) {res : Int32 × MU} (hE : mEndI C .int res.1 res.2) (k7 : Int32 → MU → mR) (hk7 : ∀ (x2 : Int32) (u : MU), k7 x2 u = some res → wat C u 7 [some (.ref (cS C 88)), none, some (.int x2)] []) (s1 : Int32) (s0 : Int32) (u : MU) (h : b_X7_callsOf_42 k7 s1 s0 u = some res) : wat C u 42 [some (.ref (cS C 88)), none, none] [(.int s1), (.int s0)] := by
  unfold b_X7_callsOf_42 at h
  refine z_ior hC dX7_callsOf_42 ?_
  refine y_istore_n hC [some (.ref (cS C 88)), none, some (.int (s0 ||| s1))] dX7_callsOf_43 rfl rfl (Nat.le_of_ble_eq_true rfl) (Nat.le_of_ble_eq_true rfl) rfl ?_
  refine z_goto hC 7 dX7_callsOf_44 (by decide) ?_
  exact hk7 (s0 ||| s1) u h
set_option maxHeartbeats 4000000 in
set_option maxRecDepth 100000 in
theorem s_X7_callsOf_7 {C : mCtx} (hC : mOK cX7_callsOf RX7 3 5 111 C) {res : Int32 × MU} (hE : mEndI C .int res.1 res.2) (k7 : Int32 → MU → mR) (hk7 : ∀ (x2 : Int32) (u : MU), k7 x2 u = some res → wat C u 7 [some (.ref (cS C 88)), none, some (.int x2)] []) (x2 : Int32) (u : MU) (h : b_X7_callsOf_7 k7 x2 u = some res) : wat C u 7 [some (.ref (cS C 88)), none, some (.int x2)] [] := by
  unfold b_X7_callsOf_7 at h
  refine z_aload_n hC dX7_callsOf_7 rfl rfl ?_
  obtain ⟨r1, u1, c1, h⟩ := mB_some h
  refine z_callI hC kC_X7_isMore kM_X7_153 sh_88 TX7 39 rfl (m_X7_isMore hC.dis u c1) rfl (Nat.le_of_ble_eq_true rfl) (Nat.le_of_ble_eq_true rfl) (Nat.le_of_ble_eq_true rfl) rfl dX7_callsOf_8 ?_
  refine z_if_eq hC 47 dX7_callsOf_11 (by decide) (fun b2 => ?_) (fun b2 => ?_)
  · rw [if_pos b2] at h
    refine z_iload_n hC dX7_callsOf_47 rfl rfl ?_
    obtain rfl := Option.some.inj h
    exact z_iret hC hE dX7_callsOf_48
  · rw [if_neg b2] at h
    refine z_aload_n hC dX7_callsOf_14 rfl rfl ?_
    refine z_iconst (v := 0) hC dX7_callsOf_15 (by decide) ?_
    obtain ⟨r3, u3, c3, h⟩ := mB_some h
    refine z_callI hC kC_X7_statement kM_X7_156 sh_88 TX7 39 rfl (m_X7_statement hC.dis 0 u1 c3) rfl (Nat.le_of_ble_eq_true rfl) (Nat.le_of_ble_eq_true rfl) (Nat.le_of_ble_eq_true rfl) rfl dX7_callsOf_16 ?_
    refine z_if_eq hC 47 dX7_callsOf_19 (by decide) (fun b4 => ?_) (fun b4 => ?_)
    · rw [if_pos b4] at h
      refine z_iload_n hC dX7_callsOf_47 rfl rfl ?_
      obtain rfl := Option.some.inj h
      exact z_iret hC hE dX7_callsOf_48
    · rw [if_neg b4] at h
      refine z_iload_n hC dX7_callsOf_22 rfl rfl ?_
      refine z_aload_n hC dX7_callsOf_23 rfl rfl ?_
      refine z_getI hC kF_X7_133 sh_88 rfl dX7_callsOf_24 ?_
      refine z_bipush (v := nI 99) hC dX7_callsOf_27 (by decide) ?_
      refine z_icmp_ne hC 41 dX7_callsOf_29 (by decide) (fun b5 => ?_) (fun b5 => ?_)
      · rw [if_neg b5] at h
        refine z_iconst (v := 0) hC dX7_callsOf_41 (by decide) ?_
        refine z_mask [true, false, false] ?_
        exact s_X7_callsOf_42 hC hE k7 hk7 0 x2 u3 h
      · rw [if_pos b5] at h
        refine z_iconst (v := 1) hC dX7_callsOf_32 (by decide) ?_
        refine z_aload_n hC dX7_callsOf_33 rfl rfl ?_
        refine z_getI hC kF_X7_127 sh_88 rfl dX7_callsOf_34 ?_
        refine z_ishl hC dX7_callsOf_37 ?_
        refine z_goto hC 42 dX7_callsOf_38 (by decide) ?_
        refine z_mask [true, false, false] ?_
        exact s_X7_callsOf_42 hC hE k7 hk7 (1 <<< ((u3 88 12) &&& 31)) x2 u3 h
set_option maxHeartbeats 4000000 in
set_option maxRecDepth 100000 in
theorem t_X7_callsOf_7 {C : mCtx} (hC : mOK cX7_callsOf RX7 3 5 111 C) {res : Int32 × MU} (hE : mEndI C .int res.1 res.2) : ∀ (n : Nat) (x2 : Int32) (u : MU), l_X7_callsOf_7 n x2 u = some res → wat C u 7 [some (.ref (cS C 88)), none, some (.int x2)] [] := by
  intro n
  induction n with
  | zero => intro x2 u h; exact absurd h (by simp [l_X7_callsOf_7])
  | succ n ih =>
    intro x2 u h
    exact s_X7_callsOf_7 hC hE (fun x2 u => l_X7_callsOf_7 n x2 u) ih x2 u h
set_option maxHeartbeats 4000000 in
set_option maxRecDepth 100000 in
theorem s_X7_callsOf_0 {C : mCtx} (hC : mOK cX7_callsOf RX7 3 5 111 C) {res : Int32 × MU} (hE : mEndI C .int res.1 res.2) (x1 : Int32) (u : MU) (h : f_X7_callsOf x1 u = some res) : wat C u 0 [some (.ref (cS C 88)), some (.int x1), none] [] := by
  unfold f_X7_callsOf at h
  refine z_iconst (v := 0) hC dX7_callsOf_0 (by decide) ?_
  refine y_istore_n hC [some (.ref (cS C 88)), some (.int x1), some (.int 0)] dX7_callsOf_1 rfl rfl (Nat.le_of_ble_eq_true rfl) (Nat.le_of_ble_eq_true rfl) rfl ?_
  refine z_aload_n hC dX7_callsOf_2 rfl rfl ?_
  refine z_iload_n hC dX7_callsOf_3 rfl rfl ?_
  obtain ⟨r1, u1, c1, h⟩ := mB_some h
  refine z_callV hC kC_X7_begin kM_X7_149 sh_88 TX7 39 rfl (m_X7_begin hC.dis x1 u c1) rfl (Nat.le_of_ble_eq_true rfl) (Nat.le_of_ble_eq_true rfl) (Nat.le_of_ble_eq_true rfl) rfl dX7_callsOf_4 ?_
  refine z_mask [true, false, true] ?_
  exact t_X7_callsOf_7 hC hE FU 0 u1 h
theorem m_X7_callsOf {l : Launch} {dC : Nat → ClassId} {dI : Nat → Nat → Nat} {dA : Nat → ClassId} {as : Nat → Nat} (hD : mDis as) (x1 : Int32) (u : MU) {r : Int32} {v : MU} (h : f_X7_callsOf x1 u = some (r, v)) : mMI l dC dI dA as yX7_callsOf cX7_callsOf 3 .int 5 111 [.ref (as 88), .int x1] u r v := mMIof RX7 [some (.ref (as 88)), some (.int x1), none] hD (by decide +kernel) rfl (Nat.le_of_ble_eq_true rfl) rfl (fun C e1 e2 e3 e4 e5 hC hE => by subst e5; exact s_X7_callsOf_0 hC (res := (r, v)) hE x1 u h)
