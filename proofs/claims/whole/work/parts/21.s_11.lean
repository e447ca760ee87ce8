set_option maxHeartbeats 4000000 in
set_option maxRecDepth 100000 in
theorem s_X7_compared_135 {C : mCtx} (hC : mOK cX7_compared RX7 4 8 177 C) {res : Int32 × MU} (hE : mEndI C .int res.1 res.2) (k99 : Int32 → Int32 → Int32 → MU → mR) (hk99 : ∀ (x1 : Int32) (x2 : Int32) (x3 : Int32) (u : MU), k99 x1 x2 x3 u = some res → wat C u 99 [some (.ref (cS C 88)), some (.int x1), some (.int x2), some (.int x3)] []) (x1 : Int32) (x3 : Int32) (s0 : Int32) (u : MU) (h : b_X7_compared_135 k99 x1 x3 s0 u = some res) : wat C u 135 [some (.ref (cS C 88)), some (.int x1), none, some (.int x3)] [(.int s0)] := by
  unfold b_X7_compared_135 at h
  refine y_istore_n hC [some (.ref (cS C 88)), some (.int x1), some (.int s0), some (.int x3)] dX7_compared_135 rfl rfl (Nat.le_of_ble_eq_true rfl) (Nat.le_of_ble_eq_true rfl) rfl ?_
  refine y_iinc hC (x3 + 1) [some (.ref (cS C 88)), some (.int x1), some (.int s0), some (.int (x3 + 1))] dX7_compared_136 rfl rfl rfl (Nat.le_of_ble_eq_true rfl) rfl ?_
  refine z_goto hC 99 dX7_compared_139 (by decide) ?_
  exact hk99 x1 s0 (x3 + 1) u h
set_option maxHeartbeats 4000000 in
set_option maxRecDepth 100000 in
theorem s_X7_compared_142 {C : mCtx} (hC : mOK cX7_compared RX7 4 8 177 C) {res : Int32 × MU} (hE : mEndI C .int res.1 res.2) (x1 : Int32) (x2 : Int32) (u : MU) (h : b_X7_compared_142 x1 x2 u = some res) : wat C u 142 [some (.ref (cS C 88)), some (.int x1), some (.int x2), none] [] := by
  unfold b_X7_compared_142 at h
  refine z_aload_n hC dX7_compared_142 rfl rfl ?_
  obtain ⟨r1, u1, c1, h⟩ := mB_some h
  refine z_callV hC kC_X7_giveBack kM_X7_245 sh_88 TX7 39 rfl (m_X7_giveBack hC.dis u c1) rfl (Nat.le_of_ble_eq_true rfl) (Nat.le_of_ble_eq_true rfl) (Nat.le_of_ble_eq_true rfl) rfl dX7_compared_143 ?_
  refine z_iload_n hC dX7_compared_146 rfl rfl ?_
  refine z_if_ne hC 155 dX7_compared_147 (by decide) (fun b2 => ?_) (fun b2 => ?_)
  · rw [if_neg b2] at h
    refine z_iload_n hC dX7_compared_155 rfl rfl ?_
    refine z_if_eq hC 163 dX7_compared_156 (by decide) (fun b3 => ?_) (fun b3 => ?_)
    · rw [if_pos b3] at h
      refine z_iconst (v := 0) hC dX7_compared_163 (by decide) ?_
      obtain rfl := Option.some.inj h
      exact z_iret hC hE dX7_compared_164
    · rw [if_neg b3] at h
      refine z_iconst (v := 1) hC dX7_compared_159 (by decide) ?_
      refine z_goto hC 164 dX7_compared_160 (by decide) ?_
      obtain rfl := Option.some.inj h
      exact z_iret hC hE dX7_compared_164
  · rw [if_pos b2] at h
    refine z_bipush (v := (-5)) hC dX7_compared_150 (by decide) ?_
    refine z_goto hC 164 dX7_compared_152 (by decide) ?_
    obtain rfl := Option.some.inj h
    exact z_iret hC hE dX7_compared_164
set_option maxHeartbeats 4000000 in
set_option maxRecDepth 100000 in
theorem s_X7_compared_99 {C : mCtx} (hC : mOK cX7_compared RX7 4 8 177 C) {res : Int32 × MU} (hE : mEndI C .int res.1 res.2) (k99 : Int32 → Int32 → Int32 → MU → mR) (hk99 : ∀ (x1 : Int32) (x2 : Int32) (x3 : Int32) (u : MU), k99 x1 x2 x3 u = some res → wat C u 99 [some (.ref (cS C 88)), some (.int x1), some (.int x2), some (.int x3)] []) (x1 : Int32) (x2 : Int32) (x3 : Int32) (u : MU) (h : b_X7_compared_99 k99 x1 x2 x3 u = some res) : wat C u 99 [some (.ref (cS C 88)), some (.int x1), some (.int x2), some (.int x3)] [] := by
  unfold b_X7_compared_99 at h
  refine z_iload_n hC dX7_compared_99 rfl rfl ?_
  refine z_aload_n hC dX7_compared_100 rfl rfl ?_
  refine z_getI hC kF_X7_203 sh_88 rfl dX7_compared_101 ?_
  refine z_icmp_ge hC 142 dX7_compared_104 (by decide) (fun b1 => ?_) (fun b1 => ?_)
  · rw [if_pos b1] at h
    refine z_mask [true, true, true, false] ?_
    exact s_X7_compared_142 hC hE x1 x2 u h
  · rw [if_neg b1] at h
    refine z_iload_n hC dX7_compared_107 rfl rfl ?_
    refine z_if_eq hC 142 dX7_compared_108 (by decide) (fun b2 => ?_) (fun b2 => ?_)
    · rw [if_pos b2] at h
      refine z_mask [true, true, true, false] ?_
      exact s_X7_compared_142 hC hE x1 x2 u h
    · rw [if_neg b2] at h
      refine z_aload_n hC dX7_compared_111 rfl rfl ?_
      refine z_getR hC 102 kF_X7_49 sh_88 rfl dX7_compared_112 ?_
      refine z_aload_n hC dX7_compared_115 rfl rfl ?_
      refine z_getR hC 101 kF_X7_46 sh_88 rfl dX7_compared_116 ?_
      refine z_iload_n hC dX7_compared_119 rfl rfl ?_
      obtain ⟨g3, h⟩ := gd_some h
      refine z_iald hC sh_101 g3 dX7_compared_120 ?_
      obtain ⟨g4, h⟩ := gd_some h
      refine z_iald hC sh_102 g4 dX7_compared_121 ?_
      refine z_aload_n hC dX7_compared_122 rfl rfl ?_
      refine z_iload_n hC dX7_compared_123 rfl rfl ?_
      obtain ⟨r5, u5, c5, h⟩ := mB_some h
      refine z_callI hC kC_X7_effectOf kM_X7_209 sh_88 TX7 39 rfl (m_X7_effectOf hC.dis x3 u c5) rfl (Nat.le_of_ble_eq_true rfl) (Nat.le_of_ble_eq_true rfl) (Nat.le_of_ble_eq_true rfl) rfl dX7_compared_124 ?_
      refine z_icmp_ne hC 134 dX7_compared_127 (by decide) (fun b6 => ?_) (fun b6 => ?_)
      · rw [if_neg b6] at h
        refine z_iconst (v := 0) hC dX7_compared_134 (by decide) ?_
        refine z_mask [true, true, false, true] ?_
        exact s_X7_compared_135 hC hE k99 hk99 x1 x3 0 u5 h
      · rw [if_pos b6] at h
        refine z_iconst (v := 1) hC dX7_compared_130 (by decide) ?_
        refine z_goto hC 135 dX7_compared_131 (by decide) ?_
        refine z_mask [true, true, false, true] ?_
        exact s_X7_compared_135 hC hE k99 hk99 x1 x3 1 u5 h
set_option maxHeartbeats 4000000 in
set_option maxRecDepth 100000 in
theorem t_X7_compared_99 {C : mCtx} (hC : mOK cX7_compared RX7 4 8 177 C) {res : Int32 × MU} (hE : mEndI C .int res.1 res.2) : ∀ (n : Nat) (x1 : Int32) (x2 : Int32) (x3 : Int32) (u : MU), l_X7_compared_99 n x1 x2 x3 u = some res → wat C u 99 [some (.ref (cS C 88)), some (.int x1), some (.int x2), some (.int x3)] [] := by
  intro n
  induction n with
  | zero => intro x1 x2 x3 u h; exact absurd h (by simp [l_X7_compared_99])
  | succ n ih =>
    intro x1 x2 x3 u h
    exact s_X7_compared_99 hC hE (fun x1 x2 x3 u => l_X7_compared_99 n x1 x2 x3 u) ih x1 x2 x3 u h
set_option maxHeartbeats 4000000 in
set_option maxRecDepth 100000 in
theorem s_X7_compared_97 {C : mCtx} (hC : mOK cX7_compared RX7 4 8 177 C) {res : Int32 × MU} (hE : mEndI C .int res.1 res.2) (x1 : Int32) (x2 : Int32) (u : MU) (h : b_X7_compared_97 x1 x2 u = some res) : wat C u 97 [some (.ref (cS C 88)), some (.int x1), some (.int x2), none] [] := by
  unfold b_X7_compared_97 at h
  refine z_iconst (v := 0) hC dX7_compared_97 (by decide) ?_
  refine y_istore_n hC [some (.ref (cS C 88)), some (.int x1), some (.int x2), some (.int 0)] dX7_compared_98 rfl rfl (Nat.le_of_ble_eq_true rfl) (Nat.le_of_ble_eq_true rfl) rfl ?_
  exact t_X7_compared_99 hC hE FU x1 x2 0 u h
set_option maxHeartbeats 4000000 in
set_option maxRecDepth 100000 in
theorem s_X7_compared_88 {C : mCtx} (hC : mOK cX7_compared RX7 4 8 177 C) {res : Int32 × MU} (hE : mEndI C .int res.1 res.2) (x1 : Int32) (s0 : Int32) (u : MU) (h : b_X7_compared_88 x1 s0 u = some res) : wat C u 88 [some (.ref (cS C 88)), some (.int x1), none, none] [(.int s0)] := by
  unfold b_X7_compared_88 at h
  refine y_istore_n hC [some (.ref (cS C 88)), some (.int x1), some (.int s0), none] dX7_compared_88 rfl rfl (Nat.le_of_ble_eq_true rfl) (Nat.le_of_ble_eq_true rfl) rfl ?_
  refine z_iload_n hC dX7_compared_89 rfl rfl ?_
  refine z_if_eq hC 97 dX7_compared_90 (by decide) (fun b1 => ?_) (fun b1 => ?_)
  · rw [if_pos b1] at h
    exact s_X7_compared_97 hC hE x1 s0 u h
  · rw [if_neg b1] at h
    refine z_aload_n hC dX7_compared_93 rfl rfl ?_
    obtain ⟨r2, u2, c2, h⟩ := mB_some h
    refine z_callV hC kC_X7_findStages kM_X7_223 sh_88 TX7 39 rfl (m_X7_findStages hC.dis u c2) rfl (Nat.le_of_ble_eq_true rfl) (Nat.le_of_ble_eq_true rfl) (Nat.le_of_ble_eq_true rfl) rfl dX7_compared_94 ?_
    exact s_X7_compared_97 hC hE x1 s0 u2 h
set_option maxHeartbeats 4000000 in
set_option maxRecDepth 100000 in
theorem s_X7_compared_87 {C : mCtx} (hC : mOK cX7_compared RX7 4 8 177 C) {res : Int32 × MU} (hE : mEndI C .int res.1 res.2) (x1 : Int32) (u : MU) (h : b_X7_compared_87 x1 u = some res) : wat C u 87 [some (.ref (cS C 88)), some (.int x1), none, none] [] := by
  unfold b_X7_compared_87 at h
  refine z_iconst (v := 0) hC dX7_compared_87 (by decide) ?_
  exact s_X7_compared_88 hC hE x1 0 u h
set_option maxHeartbeats 4000000 in
set_option maxRecDepth 100000 in
theorem s_X7_compared_21 {C : mCtx} (hC : mOK cX7_compared RX7 4 8 177 C) {res : Int32 × MU} (hE : mEndI C .int res.1 res.2) (k21 : Int32 → MU → mR) (hk21 : ∀ (x1 : Int32) (u : MU), k21 x1 u = some res → wat C u 21 [some (.ref (cS C 88)), some (.int x1), none, none] []) (x1 : Int32) (u : MU) (h : b_X7_compared_21 k21 x1 u = some res) : wat C u 21 [some (.ref (cS C 88)), some (.int x1), none, none] [] := by
  unfold b_X7_compared_21 at h
  refine z_iload_n hC dX7_compared_21 rfl rfl ?_
  refine z_bipush (v := nI 16) hC dX7_compared_22 (by decide) ?_
  refine z_icmp_ge hC 63 dX7_compared_24 (by decide) (fun b1 => ?_) (fun b1 => ?_)
  · rw [if_pos b1] at h
    refine z_aload_n hC dX7_compared_63 rfl rfl ?_
    obtain ⟨r2, u2, c2, h⟩ := mB_some h
    refine z_callI hC kC_X7_isAllKnown kM_X7_220 sh_88 TX7 39 rfl (m_X7_isAllKnown hC.dis u c2) rfl (Nat.le_of_ble_eq_true rfl) (Nat.le_of_ble_eq_true rfl) (Nat.le_of_ble_eq_true rfl) rfl dX7_compared_64 ?_
    refine y_istore_n hC [some (.ref (cS C 88)), some (.int r2), none, none] dX7_compared_67 rfl rfl (Nat.le_of_ble_eq_true rfl) (Nat.le_of_ble_eq_true rfl) rfl ?_
    refine z_iload_n hC dX7_compared_68 rfl rfl ?_
    refine z_if_eq hC 87 dX7_compared_69 (by decide) (fun b3 => ?_) (fun b3 => ?_)
    · rw [if_pos b3] at h
      exact s_X7_compared_87 hC hE r2 u2 h
    · rw [if_neg b3] at h
      refine z_aload_n hC dX7_compared_72 rfl rfl ?_
      refine z_getI hC kF_X7_203 sh_88 rfl dX7_compared_73 ?_
      refine z_aload_n hC dX7_compared_76 rfl rfl ?_
      refine z_getI hC kF_X7_236 sh_88 rfl dX7_compared_77 ?_
      refine z_icmp_ne hC 87 dX7_compared_80 (by decide) (fun b4 => ?_) (fun b4 => ?_)
      · rw [if_neg b4] at h
        exact s_X7_compared_87 hC hE r2 u2 h
      · rw [if_pos b4] at h
        refine z_iconst (v := 1) hC dX7_compared_83 (by decide) ?_
        refine z_goto hC 88 dX7_compared_84 (by decide) ?_
        exact s_X7_compared_88 hC hE r2 1 u2 h
  · rw [if_neg b1] at h
    refine z_aload_n hC dX7_compared_27 rfl rfl ?_
    refine z_getR hC 92 kF_X7_19 sh_88 rfl dX7_compared_28 ?_
    refine z_iload_n hC dX7_compared_31 rfl rfl ?_
    refine z_aload_n hC dX7_compared_32 rfl rfl ?_
    refine z_getR hC 109 kF_X7_70 sh_88 rfl dX7_compared_33 ?_
    refine z_bipush (v := nI 18) hC dX7_compared_36 (by decide) ?_
    refine z_iload_n hC dX7_compared_38 rfl rfl ?_
    refine z_iadd hC dX7_compared_39 ?_
    obtain ⟨g5, h⟩ := gd_some h
    refine z_iald hC sh_109 g5 dX7_compared_40 ?_
    obtain ⟨g6, h⟩ := gd_some h
    obtain ⟨u7, e7, h⟩ := mS_some h
    refine y_iast hC sh_92 g6 dX7_compared_41 e7 ?_
    refine z_aload_n hC dX7_compared_42 rfl rfl ?_
    refine z_getR hC 93 kF_X7_22 sh_88 rfl dX7_compared_43 ?_
    refine z_iload_n hC dX7_compared_46 rfl rfl ?_
    refine z_aload_n hC dX7_compared_47 rfl rfl ?_
    refine z_getR hC 109 kF_X7_70 sh_88 rfl dX7_compared_48 ?_
    refine z_bipush (v := nI 34) hC dX7_compared_51 (by decide) ?_
    refine z_iload_n hC dX7_compared_53 rfl rfl ?_
    refine z_iadd hC dX7_compared_54 ?_
    obtain ⟨g8, h⟩ := gd_some h
    refine z_iald hC sh_109 g8 dX7_compared_55 ?_
    obtain ⟨g9, h⟩ := gd_some h
    obtain ⟨u10, e10, h⟩ := mS_some h
    refine y_iast hC sh_93 g9 dX7_compared_56 e10 ?_
    refine y_iinc hC (x1 + 1) [some (.ref (cS C 88)), some (.int (x1 + 1)), none, none] dX7_compared_57 rfl rfl rfl (Nat.le_of_ble_eq_true rfl) rfl ?_
    refine z_goto hC 21 dX7_compared_60 (by decide) ?_
    exact hk21 (x1 + 1) u10 h
set_option maxHeartbeats 4000000 in
set_option maxRecDepth 100000 in
theorem t_X7_compared_21 {C : mCtx} (hC : mOK cX7_compared RX7 4 8 177 C) {res : Int32 × MU} (hE : mEndI C .int res.1 res.2) : ∀ (n : Nat) (x1 : Int32) (u : MU), l_X7_compared_21 n x1 u = some res → wat C u 21 [some (.ref (cS C 88)), some (.int x1), none, none] [] := by
  intro n
  induction n with
  | zero => intro x1 u h; exact absurd h (by simp [l_X7_compared_21])
  | succ n ih =>
    intro x1 u h
    exact s_X7_compared_21 hC hE (fun x1 u => l_X7_compared_21 n x1 u) ih x1 u h
set_option maxHeartbeats 4000000 in
set_option maxRecDepth 100000 in
theorem s_X7_compared_0 {C : mCtx} (hC : mOK cX7_compared RX7 4 8 177 C) {res : Int32 × MU} (hE : mEndI C .int res.1 res.2) (u : MU) (h : f_X7_compared u = some res) : wat C u 0 [some (.ref (cS C 88)), none, none, none] [] := by
  unfold f_X7_compared at h
  refine z_aload_n hC dX7_compared_0 rfl rfl ?_
  obtain ⟨r1, u1, c1, h⟩ := mB_some h
  refine z_callV hC kC_X7_layNormal kM_X7_239 sh_88 TX7 39 rfl (m_X7_layNormal hC.dis u c1) rfl (Nat.le_of_ble_eq_true rfl) (Nat.le_of_ble_eq_true rfl) (Nat.le_of_ble_eq_true rfl) rfl dX7_compared_1 ?_
  refine z_aload_n hC dX7_compared_4 rfl rfl ?_
  obtain ⟨r2, u2, c2, h⟩ := mB_some h
  refine z_callV hC kC_X7_hold kM_X7_242 sh_88 TX7 39 rfl (m_X7_hold hC.dis u1 c2) rfl (Nat.le_of_ble_eq_true rfl) (Nat.le_of_ble_eq_true rfl) (Nat.le_of_ble_eq_true rfl) rfl dX7_compared_5 ?_
  refine z_aload_n hC dX7_compared_8 rfl rfl ?_
  refine z_aload_n hC dX7_compared_9 rfl rfl ?_
  refine z_getR hC 109 kF_X7_70 sh_88 rfl dX7_compared_10 ?_
  refine z_bipush (v := nI 50) hC dX7_compared_13 (by decide) ?_
  obtain ⟨g3, h⟩ := gd_some h
  refine z_iald hC sh_109 g3 dX7_compared_15 ?_
  obtain ⟨u4, e4, h⟩ := mS_some h
  refine y_putI hC kP_X7_203 sh_88 rfl dX7_compared_16 e4 ?_
  refine z_iconst (v := 0) hC dX7_compared_19 (by decide) ?_
  refine y_istore_n hC [some (.ref (cS C 88)), some (.int 0), none, none] dX7_compared_20 rfl rfl (Nat.le_of_ble_eq_true rfl) (Nat.le_of_ble_eq_true rfl) rfl ?_
  exact t_X7_compared_21 hC hE FU 0 u4 h
theorem m_X7_compared {l : Launch} {dC : Nat → ClassId} {dI : Nat → Nat → Nat} {dA : Nat → ClassId} {as : Nat → Nat} (hD : mDis as) (u : MU) {r : Int32} {v : MU} (h : f_X7_compared u = some (r, v)) : mMI l dC dI dA as yX7_compared cX7_compared 4 .int 8 177 [.ref (as 88)] u r v := mMIof RX7 [some (.ref (as 88)), none, none, none] hD (by decide +kernel) rfl (Nat.le_of_ble_eq_true rfl) rfl (fun C e1 e2 e3 e4 e5 hC hE => by subst e5; exact s_X7_compared_0 hC (res := (r, v)) hE u h)
set_option maxHeartbeats 4000000 in
set_option maxRecDepth 100000 in
theorem s_X7_stages_33 {C : mCtx} (hC : mOK cX7_stages RX7 2 9 200 C) {res : Int32 × MU} (hE : mEndI C .int res.1 res.2) (x1 : Int32) (u : MU) (h : b_X7_stages_33 x1 u = some res) : wat C u 33 [some (.ref (cS C 88)), some (.int x1)] [] := by
  unfold b_X7_stages_33 at h
  refine z_aload_n hC dX7_stages_33 rfl rfl ?_
  obtain ⟨r1, u1, c1, h⟩ := mB_some h
  refine z_callI hC kC_X7_isFound kM_X7_226 sh_88 TX7 39 rfl (m_X7_isFound hC.dis u c1) rfl (Nat.le_of_ble_eq_true rfl) (Nat.le_of_ble_eq_true rfl) (Nat.le_of_ble_eq_true rfl) rfl dX7_stages_34 ?_
  refine z_if_ne hC 43 dX7_stages_37 (by decide) (fun b2 => ?_) (fun b2 => ?_)
  · rw [if_neg b2] at h
    refine z_iload_n hC dX7_stages_43 rfl rfl ?_
    by_cases b3 : x1 = 0
    · rw [if_pos b3] at h
      refine z_tin hC 84 dX7_stages_44 (0) b3 (by decide) (by decide) rfl (by decide) ?_
      refine z_aload_n hC dX7_stages_84 rfl rfl ?_
      obtain ⟨r4, u4, c4, h⟩ := mB_some h
      refine z_callI hC kC_X7_stageMany kM_X7_229 sh_88 TX7 39 rfl (m_X7_stageMany hC.dis u1 c4) rfl (Nat.le_of_ble_eq_true rfl) (Nat.le_of_ble_eq_true rfl) (Nat.le_of_ble_eq_true rfl) rfl dX7_stages_85 ?_
      obtain rfl := Option.some.inj h
      exact z_iret hC hE dX7_stages_88
    · rw [if_neg b3] at h
      by_cases b5 : x1 = 1
      · rw [if_pos b5] at h
        refine z_tin hC 89 dX7_stages_44 (1) b5 (by decide) (by decide) rfl (by decide) ?_
        refine z_aload_n hC dX7_stages_89 rfl rfl ?_
        refine z_getI hC kF_X7_203 sh_88 rfl dX7_stages_90 ?_
        refine z_if_ne hC 100 dX7_stages_93 (by decide) (fun b6 => ?_) (fun b6 => ?_)
        · rw [if_neg b6] at h
          refine z_aload_n hC dX7_stages_100 rfl rfl ?_
          refine z_aload_n hC dX7_stages_101 rfl rfl ?_
          obtain ⟨r7, u7, c7, h⟩ := mB_some h
          refine z_callI hC kC_X7_widest kM_X7_250 sh_88 TX7 39 rfl (m_X7_widest hC.dis u1 c7) rfl (Nat.le_of_ble_eq_true rfl) (Nat.le_of_ble_eq_true rfl) (Nat.le_of_ble_eq_true rfl) rfl dX7_stages_102 ?_
          obtain ⟨r8, u8, c8, h⟩ := mB_some h
          refine z_callI hC kC_X7_callsAt kM_X7_232 sh_88 TX7 39 rfl (m_X7_callsAt hC.dis r7 u7 c8) rfl (Nat.le_of_ble_eq_true rfl) (Nat.le_of_ble_eq_true rfl) (Nat.le_of_ble_eq_true rfl) rfl dX7_stages_105 ?_
          obtain rfl := Option.some.inj h
          exact z_iret hC hE dX7_stages_108
        · rw [if_pos b6] at h
          refine z_iconst (v := 0) hC dX7_stages_96 (by decide) ?_
          refine z_goto hC 108 dX7_stages_97 (by decide) ?_
          obtain rfl := Option.some.inj h
          exact z_iret hC hE dX7_stages_108
      · rw [if_neg b5] at h
        by_cases b9 : x1 = nI 2
        · rw [if_pos b9] at h
          refine z_tin hC 109 dX7_stages_44 (nI 2) b9 (by decide) (by decide) rfl (by decide) ?_
          refine z_aload_n hC dX7_stages_109 rfl rfl ?_
          obtain ⟨r10, u10, c10, h⟩ := mB_some h
          refine z_callI hC kC_X7_widest kM_X7_250 sh_88 TX7 39 rfl (m_X7_widest hC.dis u1 c10) rfl (Nat.le_of_ble_eq_true rfl) (Nat.le_of_ble_eq_true rfl) (Nat.le_of_ble_eq_true rfl) rfl dX7_stages_110 ?_
          obtain rfl := Option.some.inj h
          exact z_iret hC hE dX7_stages_113
        · rw [if_neg b9] at h
          by_cases b11 : x1 = nI 3
          · rw [if_pos b11] at h
            refine z_tin hC 114 dX7_stages_44 (nI 3) b11 (by decide) (by decide) rfl (by decide) ?_
            refine z_aload_n hC dX7_stages_114 rfl rfl ?_
            refine z_getI hC kF_X7_203 sh_88 rfl dX7_stages_115 ?_
            refine z_if_ne hC 125 dX7_stages_118 (by decide) (fun b12 => ?_) (fun b12 => ?_)
            · rw [if_neg b12] at h
              refine z_aload_n hC dX7_stages_125 rfl rfl ?_
              refine z_getI hC kF_X7_203 sh_88 rfl dX7_stages_126 ?_
              refine z_aload_n hC dX7_stages_129 rfl rfl ?_
              obtain ⟨r13, u13, c13, h⟩ := mB_some h
              refine z_callI hC kC_X7_stageMany kM_X7_229 sh_88 TX7 39 rfl (m_X7_stageMany hC.dis u1 c13) rfl (Nat.le_of_ble_eq_true rfl) (Nat.le_of_ble_eq_true rfl) (Nat.le_of_ble_eq_true rfl) rfl dX7_stages_130 ?_
              obtain ⟨r14, u14, c14, h⟩ := mB_some h
              refine z_callSI hC kC_X7_single kM_X7_253 (m_X7_single hC.dis (u1 88 5) r13 u13 c14) rfl (Nat.le_of_ble_eq_true rfl) (Nat.le_of_ble_eq_true rfl) (Nat.le_of_ble_eq_true rfl) rfl dX7_stages_133 ?_
              obtain rfl := Option.some.inj h
              exact z_iret hC hE dX7_stages_136
            · rw [if_pos b12] at h
              refine z_iconst (v := 0) hC dX7_stages_121 (by decide) ?_
              refine z_goto hC 136 dX7_stages_122 (by decide) ?_
              obtain rfl := Option.some.inj h
              exact z_iret hC hE dX7_stages_136
          · rw [if_neg b11] at h
            by_cases b15 : x1 = nI 4
            · rw [if_pos b15] at h
              refine z_tin hC 137 dX7_stages_44 (nI 4) b15 (by decide) (by decide) rfl (by decide) ?_
              refine z_aload_n hC dX7_stages_137 rfl rfl ?_
              obtain ⟨r16, u16, c16, h⟩ := mB_some h
              refine z_callI hC kC_X7_freePairs kM_X7_256 sh_88 TX7 39 rfl (m_X7_freePairs hC.dis u1 c16) rfl (Nat.le_of_ble_eq_true rfl) (Nat.le_of_ble_eq_true rfl) (Nat.le_of_ble_eq_true rfl) rfl dX7_stages_138 ?_
              obtain rfl := Option.some.inj h
              exact z_iret hC hE dX7_stages_141
            · rw [if_neg b15] at h
              by_cases b17 : x1 = nI 5
              · rw [if_pos b17] at h
                refine z_tin hC 142 dX7_stages_44 (nI 5) b17 (by decide) (by decide) rfl (by decide) ?_
                refine z_aload_n hC dX7_stages_142 rfl rfl ?_
                obtain ⟨r18, u18, c18, h⟩ := mB_some h
                refine z_callI hC kC_X7_isNormal kM_X7_259 sh_88 TX7 39 rfl (m_X7_isNormal hC.dis u1 c18) rfl (Nat.le_of_ble_eq_true rfl) (Nat.le_of_ble_eq_true rfl) (Nat.le_of_ble_eq_true rfl) rfl dX7_stages_143 ?_
                obtain rfl := Option.some.inj h
                exact z_iret hC hE dX7_stages_146
              · rw [if_neg b17] at h
                refine z_tout hC 147 dX7_stages_44 (tab_out (a := 5) (by intro k hk; match k, hk with | 0, _ => exact b3 | 1, _ => exact b5 | 2, _ => exact b9 | 3, _ => exact b11 | 4, _ => exact b15 | 5, _ => exact b17 | k + 6, hk => omega) (by decide)) (by decide) ?_
                refine z_aload_n hC dX7_stages_147 rfl rfl ?_
                obtain ⟨r19, u19, c19, h⟩ := mB_some h
                refine z_callI hC kC_X7_compared kM_X7_262 sh_88 TX7 39 rfl (m_X7_compared hC.dis u1 c19) rfl (Nat.le_of_ble_eq_true rfl) (Nat.le_of_ble_eq_true rfl) (Nat.le_of_ble_eq_true rfl) rfl dX7_stages_148 ?_
                obtain rfl := Option.some.inj h
                exact z_iret hC hE dX7_stages_151
  · rw [if_pos b2] at h
    refine z_bipush (v := (-5)) hC dX7_stages_40 (by decide) ?_
    obtain rfl := Option.some.inj h
    exact z_iret hC hE dX7_stages_42
set_option maxHeartbeats 4000000 in
set_option maxRecDepth 100000 in
theorem s_X7_stages_0 {C : mCtx} (hC : mOK cX7_stages RX7 2 9 200 C) {res : Int32 × MU} (hE : mEndI C .int res.1 res.2) (x1 : Int32) (u : MU) (h : f_X7_stages x1 u = some res) : wat C u 0 [some (.ref (cS C 88)), some (.int x1)] [] := by
  unfold f_X7_stages at h
  refine z_iload_n hC dX7_stages_0 rfl rfl ?_
  refine z_i2l hC dX7_stages_1 ?_
  refine z_lconst (v := 0) hC dX7_stages_2 (by decide) ?_
  refine z_ldc2 hC kN_X7_248 dX7_stages_3 ?_
  obtain ⟨r1, u1, c1, h⟩ := mB_some h
  refine z_callSI hC kC_X7_in kM_X7_79 (m_X7_in hC.dis x1.toInt64 0 6 u c1) rfl (Nat.le_of_ble_eq_true rfl) (Nat.le_of_ble_eq_true rfl) (Nat.le_of_ble_eq_true rfl) rfl dX7_stages_6 ?_
  refine z_if_ne hC 15 dX7_stages_9 (by decide) (fun b2 => ?_) (fun b2 => ?_)
  · rw [if_neg b2] at h
    refine z_iload_n hC dX7_stages_15 rfl rfl ?_
    refine z_bipush (v := nI 6) hC dX7_stages_16 (by decide) ?_
    refine z_icmp_ne hC 33 dX7_stages_18 (by decide) (fun b3 => ?_) (fun b3 => ?_)
    · rw [if_neg b3] at h
      exact s_X7_stages_33 hC hE x1 u1 h
    · rw [if_pos b3] at h
      refine z_aload_n hC dX7_stages_21 rfl rfl ?_
      refine z_getR hC 110 kF_X7_73 sh_88 rfl dX7_stages_22 ?_
      refine z_iconst (v := 0) hC dX7_stages_25 (by decide) ?_
      obtain ⟨g4, h⟩ := gd_some h
      refine z_zald hC sh_110 g4 dX7_stages_26 ?_
      refine z_if_ne hC 33 dX7_stages_27 (by decide) (fun b5 => ?_) (fun b5 => ?_)
      · rw [if_neg b5] at h
        exact s_X7_stages_33 hC hE x1 u1 h
      · rw [if_pos b5] at h
        refine z_bipush (v := (-3)) hC dX7_stages_30 (by decide) ?_
        obtain rfl := Option.some.inj h
        exact z_iret hC hE dX7_stages_32
  · rw [if_pos b2] at h
    refine z_bipush (v := (-2)) hC dX7_stages_12 (by decide) ?_
    obtain rfl := Option.some.inj h
    exact z_iret hC hE dX7_stages_14
theorem m_X7_stages {l : Launch} {dC : Nat → ClassId} {dI : Nat → Nat → Nat} {dA : Nat → ClassId} {as : Nat → Nat} (hD : mDis as) (x1 : Int32) (u : MU) {r : Int32} {v : MU} (h : f_X7_stages x1 u = some (r, v)) : mMI l dC dI dA as yX7_stages cX7_stages 2 .int 9 200 [.ref (as 88), .int x1] u r v := mMIof RX7 [some (.ref (as 88)), some (.int x1)] hD (by decide +kernel) rfl (Nat.le_of_ble_eq_true rfl) rfl (fun C e1 e2 e3 e4 e5 hC hE => by subst e5; exact s_X7_stages_0 hC (res := (r, v)) hE x1 u h)
set_option maxHeartbeats 4000000 in
set_option maxRecDepth 100000 in
theorem s_X7_push_0 {C : mCtx} (hC : mOK cX7_push RX7 3 0 0 C) {res : Int32 × MU} (hE : mEndV C res.2) (x1 : Int32) (x2 : Int32) (u : MU) (h : f_X7_push x1 x2 u = some res) : wat C u 0 [some (.ref (cS C 88)), some (.int x1), some (.int x2)] [] := by
  unfold f_X7_push at h
  refine z_aload_n hC dX7_push_0 rfl rfl ?_
  refine z_getR hC 105 kF_X7_58 sh_88 rfl dX7_push_1 ?_
  refine z_aload_n hC dX7_push_4 rfl rfl ?_
  refine z_getI hC kF_X7_265 sh_88 rfl dX7_push_5 ?_
  refine z_iload_n hC dX7_push_8 rfl rfl ?_
  obtain ⟨g1, h⟩ := gd_some h
  obtain ⟨u2, e2, h⟩ := mS_some h
  refine y_iast hC sh_105 g1 dX7_push_9 e2 ?_
  refine z_aload_n hC dX7_push_10 rfl rfl ?_
  refine z_getR hC 106 kF_X7_61 sh_88 rfl dX7_push_11 ?_
  refine z_aload_n hC dX7_push_14 rfl rfl ?_
  refine z_getI hC kF_X7_265 sh_88 rfl dX7_push_15 ?_
  refine z_iconst (v := 0) hC dX7_push_18 (by decide) ?_
  obtain ⟨g3, h⟩ := gd_some h
  obtain ⟨u4, e4, h⟩ := mS_some h
  refine y_iast hC sh_106 g3 dX7_push_19 e4 ?_
  refine z_aload_n hC dX7_push_20 rfl rfl ?_
  refine z_getR hC 107 kF_X7_64 sh_88 rfl dX7_push_21 ?_
  refine z_aload_n hC dX7_push_24 rfl rfl ?_
  refine z_getI hC kF_X7_265 sh_88 rfl dX7_push_25 ?_
  refine z_iload_n hC dX7_push_28 rfl rfl ?_
  obtain ⟨g5, h⟩ := gd_some h
  obtain ⟨u6, e6, h⟩ := mS_some h
  refine y_iast hC sh_107 g5 dX7_push_29 e6 ?_
  refine z_aload_n hC dX7_push_30 rfl rfl ?_
  refine z_dup hC dX7_push_31 rfl ?_
  refine z_getI hC kF_X7_265 sh_88 rfl dX7_push_32 ?_
  refine z_iconst (v := 1) hC dX7_push_35 (by decide) ?_
  refine z_iadd hC dX7_push_36 ?_
  obtain ⟨u7, e7, h⟩ := mS_some h
  refine y_putI hC kP_X7_265 sh_88 rfl dX7_push_37 e7 ?_
  obtain rfl := Option.some.inj h
  exact z_vret hC hE dX7_push_40
theorem m_X7_push {l : Launch} {dC : Nat → ClassId} {dI : Nat → Nat → Nat} {dA : Nat → ClassId} {as : Nat → Nat} (hD : mDis as) (x1 : Int32) (x2 : Int32) (u : MU) {r : Int32} {v : MU} (h : f_X7_push x1 x2 u = some (r, v)) : mMV l dC dI dA as yX7_push cX7_push 3 0 0 [.ref (as 88), .int x1, .int x2] u v := mMVof RX7 [some (.ref (as 88)), some (.int x1), some (.int x2)] hD (by decide +kernel) rfl (Nat.le_of_ble_eq_true rfl) rfl (fun C e1 e2 e3 e4 e5 hC hE => by subst e5; exact s_X7_push_0 hC (res := (r, v)) hE x1 x2 u h)
set_option maxHeartbeats 4000000 in
set_option maxRecDepth 100000 in
theorem s_X7_isThrowing_77 {C : mCtx} (hC : mOK cX7_isThrowing RX7 1 0 0 C) {res : Int32 × MU} (hE : mEndI C .boolean res.1 res.2) (s2 : Int32) (s1 : Int32) (u : MU) (h : b_X7_isThrowing_77 s2 s1 u = some res) : wat C u 77 [none] [(.int s2), (.int s1), (.ref (cS C 99))] := by
  unfold b_X7_isThrowing_77 at h
  obtain ⟨g1, h⟩ := gd_some h
  obtain ⟨u2, e2, h⟩ := mS_some h
  refine y_iast hC sh_99 g1 dX7_isThrowing_77 e2 ?_
  refine z_iconst (v := 0) hC dX7_isThrowing_78 (by decide) ?_
  obtain rfl := Option.some.inj h
  exact z_zret hC hE rfl dX7_isThrowing_79
set_option maxHeartbeats 4000000 in
set_option maxRecDepth 100000 in
theorem s_X7_isThrowing_53 {C : mCtx} (hC : mOK cX7_isThrowing RX7 1 0 0 C) {res : Int32 × MU} (hE : mEndI C .boolean res.1 res.2) (s1 : Int32) (u : MU) (h : b_X7_isThrowing_53 s1 u = some res) : wat C u 53 [some (.ref (cS C 88))] [(.int s1), (.ref (cS C 99))] := by
  unfold b_X7_isThrowing_53 at h
  refine z_aload_n hC dX7_isThrowing_53 rfl rfl ?_
  refine z_getI hC kF_X7_112 sh_88 rfl dX7_isThrowing_54 ?_
  refine z_goto hC 77 dX7_isThrowing_57 (by decide) ?_
  refine z_mask [false] ?_
  exact s_X7_isThrowing_77 hC hE (u 88 8) s1 u h
set_option maxHeartbeats 4000000 in
set_option maxRecDepth 100000 in
theorem s_X7_isThrowing_0 {C : mCtx} (hC : mOK cX7_isThrowing RX7 1 0 0 C) {res : Int32 × MU} (hE : mEndI C .boolean res.1 res.2) (u : MU) (h : f_X7_isThrowing u = some res) : wat C u 0 [some (.ref (cS C 88))] [] := by
  unfold f_X7_isThrowing at h
  refine z_aload_n hC dX7_isThrowing_0 rfl rfl ?_
  refine z_getI hC kF_X7_133 sh_88 rfl dX7_isThrowing_1 ?_
  refine z_bipush (v := nI 63) hC dX7_isThrowing_4 (by decide) ?_
  refine z_icmp_ne hC 27 dX7_isThrowing_6 (by decide) (fun b1 => ?_) (fun b1 => ?_)
  · rw [if_neg b1] at h
    refine z_aload_n hC dX7_isThrowing_27 rfl rfl ?_
    refine z_getR hC 99 kF_X7_40 sh_88 rfl dX7_isThrowing_28 ?_
    refine z_aload_n hC dX7_isThrowing_31 rfl rfl ?_
    refine z_getI hC kF_X7_124 sh_88 rfl dX7_isThrowing_32 ?_
    refine z_aload_n hC dX7_isThrowing_35 rfl rfl ?_
    refine z_getI hC kF_X7_133 sh_88 rfl dX7_isThrowing_36 ?_
    refine z_bipush (v := nI 61) hC dX7_isThrowing_39 (by decide) ?_
    refine z_icmp_eq hC 53 dX7_isThrowing_41 (by decide) (fun b2 => ?_) (fun b2 => ?_)
    · rw [if_pos b2] at h
      exact s_X7_isThrowing_53 hC hE (u 88 11) u h
    · rw [if_neg b2] at h
      refine z_aload_n hC dX7_isThrowing_44 rfl rfl ?_
      refine z_getI hC kF_X7_133 sh_88 rfl dX7_isThrowing_45 ?_
      refine z_bipush (v := nI 35) hC dX7_isThrowing_48 (by decide) ?_
      refine z_icmp_ne hC 60 dX7_isThrowing_50 (by decide) (fun b3 => ?_) (fun b3 => ?_)
      · rw [if_neg b3] at h
        refine z_aload_n hC dX7_isThrowing_60 rfl rfl ?_
        refine z_getR hC 99 kF_X7_40 sh_88 rfl dX7_isThrowing_61 ?_
        refine z_aload_n hC dX7_isThrowing_64 rfl rfl ?_
        refine z_getI hC kF_X7_124 sh_88 rfl dX7_isThrowing_65 ?_
        obtain ⟨g4, h⟩ := gd_some h
        refine z_iald hC sh_99 g4 dX7_isThrowing_68 ?_
        refine z_aload_n hC dX7_isThrowing_69 rfl rfl ?_
        refine z_getI hC kF_X7_112 sh_88 rfl dX7_isThrowing_70 ?_
        refine z_iadd hC dX7_isThrowing_73 ?_
        refine z_bipush (v := nI 100) hC dX7_isThrowing_74 (by decide) ?_
        refine y_irem hC dX7_isThrowing_76 (by decide) ?_
        refine z_mask [false] ?_
        exact s_X7_isThrowing_77 hC hE (irm ((u 99 (u 88 11).toNatClampNeg) + (u 88 8)) (nI 100)) (u 88 11) u h
      · rw [if_pos b3] at h
        exact s_X7_isThrowing_53 hC hE (u 88 11) u h
  · rw [if_pos b1] at h
    refine z_aload_n hC dX7_isThrowing_9 rfl rfl ?_
    refine z_getR hC 99 kF_X7_40 sh_88 rfl dX7_isThrowing_10 ?_
    refine z_aload_n hC dX7_isThrowing_13 rfl rfl ?_
    refine z_getI hC kF_X7_124 sh_88 rfl dX7_isThrowing_14 ?_
    obtain ⟨g5, h⟩ := gd_some h
    refine z_iald hC sh_99 g5 dX7_isThrowing_17 ?_
    refine z_if_ne hC 25 dX7_isThrowing_18 (by decide) (fun b6 => ?_) (fun b6 => ?_)
    · rw [if_neg b6] at h
      refine z_iconst (v := 0) hC dX7_isThrowing_25 (by decide) ?_
      obtain rfl := Option.some.inj h
      exact z_zret hC hE rfl dX7_isThrowing_26
    · rw [if_pos b6] at h
      refine z_iconst (v := 1) hC dX7_isThrowing_21 (by decide) ?_
      refine z_goto hC 26 dX7_isThrowing_22 (by decide) ?_
      obtain rfl := Option.some.inj h
      exact z_zret hC hE rfl dX7_isThrowing_26
theorem m_X7_isThrowing {l : Launch} {dC : Nat → ClassId} {dI : Nat → Nat → Nat} {dA : Nat → ClassId} {as : Nat → Nat} (hD : mDis as) (u : MU) {r : Int32} {v : MU} (h : f_X7_isThrowing u = some (r, v)) : mMI l dC dI dA as yX7_isThrowing cX7_isThrowing 1 .boolean 0 0 [.ref (as 88)] u r v := mMIof RX7 [some (.ref (as 88))] hD (by decide +kernel) rfl (Nat.le_of_ble_eq_true rfl) rfl (fun C e1 e2 e3 e4 e5 hC hE => by subst e5; exact s_X7_isThrowing_0 hC (res := (r, v)) hE u h)
set_option maxHeartbeats 4000000 in
set_option maxRecDepth 100000 in
theorem s_X7_doCall_178 {C : mCtx} (hC : mOK cX7_doCall RX7 4 5 111 C) {res : Int32 × MU} (hE : mEndI C .int res.1 res.2) (k26 : MU → mR) (hk26 : ∀ (u : MU), k26 u = some res → wat C u 26 [some (.ref (cS C 88)), none, none, none] []) (u : MU) (h : b_X7_doCall_178 k26 u = some res) : wat C u 178 [some (.ref (cS C 88)), none, none, none] [] := by
  unfold b_X7_doCall_178 at h
  refine z_goto hC 26 dX7_doCall_178 (by decide) ?_
  exact hk26 u h
set_option maxHeartbeats 4000000 in
set_option maxRecDepth 100000 in
theorem s_X7_doCall_145 {C : mCtx} (hC : mOK cX7_doCall RX7 4 5 111 C) {res : Int32 × MU} (hE : mEndI C .int res.1 res.2) (k26 : MU → mR) (hk26 : ∀ (u : MU), k26 u = some res → wat C u 26 [some (.ref (cS C 88)), none, none, none] []) (u : MU) (h : b_X7_doCall_145 k26 u = some res) : wat C u 145 [some (.ref (cS C 88)), none, none, none] [] := by
  unfold b_X7_doCall_145 at h
  refine z_aload_n hC dX7_doCall_145 rfl rfl ?_
  refine z_getI hC kF_X7_133 sh_88 rfl dX7_doCall_146 ?_
  refine z_bipush (v := nI 99) hC dX7_doCall_149 (by decide) ?_
  refine z_icmp_ne hC 169 dX7_doCall_151 (by decide) (fun b1 => ?_) (fun b1 => ?_)
  · rw [if_neg b1] at h
    refine z_aload_n hC dX7_doCall_169 rfl rfl ?_
    obtain ⟨r2, u2, c2, h⟩ := mB_some h
    refine z_callI hC kC_X7_isThrowing kM_X7_274 sh_88 TX7 39 rfl (m_X7_isThrowing hC.dis u c2) rfl (Nat.le_of_ble_eq_true rfl) (Nat.le_of_ble_eq_true rfl) (Nat.le_of_ble_eq_true rfl) rfl dX7_doCall_170 ?_
    refine z_if_eq hC 178 dX7_doCall_173 (by decide) (fun b3 => ?_) (fun b3 => ?_)
    · rw [if_pos b3] at h
      exact s_X7_doCall_178 hC hE k26 hk26 u2 h
    · rw [if_neg b3] at h
      refine z_iconst (v := 1) hC dX7_doCall_176 (by decide) ?_
      obtain rfl := Option.some.inj h
      exact z_iret hC hE dX7_doCall_177
  · rw [if_pos b1] at h
    refine z_aload_n hC dX7_doCall_154 rfl rfl ?_
    refine z_aload_n hC dX7_doCall_155 rfl rfl ?_
    refine z_getI hC kF_X7_127 sh_88 rfl dX7_doCall_156 ?_
    refine z_aload_n hC dX7_doCall_159 rfl rfl ?_
    refine z_getI hC kF_X7_130 sh_88 rfl dX7_doCall_160 ?_
    obtain ⟨r4, u4, c4, h⟩ := mB_some h
    refine z_callV hC kC_X7_push kM_X7_271 sh_88 TX7 39 rfl (m_X7_push hC.dis (u 88 12) (u 88 13) u c4) rfl (Nat.le_of_ble_eq_true rfl) (Nat.le_of_ble_eq_true rfl) (Nat.le_of_ble_eq_true rfl) rfl dX7_doCall_163 ?_
    refine z_goto hC 178 dX7_doCall_166 (by decide) ?_
    exact s_X7_doCall_178 hC hE k26 hk26 u4 h
set_option maxHeartbeats 4000000 in
set_option maxRecDepth 100000 in
theorem s_X7_doCall_26 {C : mCtx} (hC : mOK cX7_doCall RX7 4 5 111 C) {res : Int32 × MU} (hE : mEndI C .int res.1 res.2) (k26 : MU → mR) (hk26 : ∀ (u : MU), k26 u = some res → wat C u 26 [some (.ref (cS C 88)), none, none, none] []) (u : MU) (h : b_X7_doCall_26 k26 u = some res) : wat C u 26 [some (.ref (cS C 88)), none, none, none] [] := by
  unfold b_X7_doCall_26 at h
  refine z_aload_n hC dX7_doCall_26 rfl rfl ?_
  refine z_getI hC kF_X7_265 sh_88 rfl dX7_doCall_27 ?_
  refine z_if_le hC 181 dX7_doCall_30 (by decide) (fun b1 => ?_) (fun b1 => ?_)
  · rw [if_pos b1] at h
    refine z_iconst (v := 0) hC dX7_doCall_181 (by decide) ?_
    obtain rfl := Option.some.inj h
    exact z_iret hC hE dX7_doCall_182
  · rw [if_neg b1] at h
    refine z_aload_n hC dX7_doCall_33 rfl rfl ?_
    refine z_getI hC kF_X7_265 sh_88 rfl dX7_doCall_34 ?_
    refine z_iconst (v := 1) hC dX7_doCall_37 (by decide) ?_
    refine z_isub hC dX7_doCall_38 ?_
    refine y_istore_n hC [some (.ref (cS C 88)), none, some (.int ((u 88 30) - 1)), none] dX7_doCall_39 rfl rfl (Nat.le_of_ble_eq_true rfl) (Nat.le_of_ble_eq_true rfl) rfl ?_
    refine z_aload_n hC dX7_doCall_40 rfl rfl ?_
    refine z_aload_n hC dX7_doCall_41 rfl rfl ?_
    refine z_getR hC 105 kF_X7_58 sh_88 rfl dX7_doCall_42 ?_
    refine z_iload_n hC dX7_doCall_45 rfl rfl ?_
    obtain ⟨g2, h⟩ := gd_some h
    refine z_iald hC sh_105 g2 dX7_doCall_46 ?_
    obtain ⟨u3, e3, h⟩ := mS_some h
    refine y_putI hC kP_X7_99 sh_88 rfl dX7_doCall_47 e3 ?_
    refine z_aload_n hC dX7_doCall_50 rfl rfl ?_
    refine z_aload_n hC dX7_doCall_51 rfl rfl ?_
    refine z_getR hC 106 kF_X7_61 sh_88 rfl dX7_doCall_52 ?_
    refine z_iload_n hC dX7_doCall_55 rfl rfl ?_
    obtain ⟨g4, h⟩ := gd_some h
    refine z_iald hC sh_106 g4 dX7_doCall_56 ?_
    obtain ⟨u5, e5, h⟩ := mS_some h
    refine y_putI hC kP_X7_95 sh_88 rfl dX7_doCall_57 e5 ?_
    refine z_aload_n hC dX7_doCall_60 rfl rfl ?_
    obtain ⟨r6, u6, c6, h⟩ := mB_some h
    refine z_callI hC kC_X7_isMore kM_X7_153 sh_88 TX7 39 rfl (m_X7_isMore hC.dis u5 c6) rfl (Nat.le_of_ble_eq_true rfl) (Nat.le_of_ble_eq_true rfl) (Nat.le_of_ble_eq_true rfl) rfl dX7_doCall_61 ?_
    refine z_if_ne hC 80 dX7_doCall_64 (by decide) (fun b7 => ?_) (fun b7 => ?_)
    · rw [if_neg b7] at h
      refine z_aload_n hC dX7_doCall_80 rfl rfl ?_
      refine z_aload_n hC dX7_doCall_81 rfl rfl ?_
      refine z_getR hC 107 kF_X7_64 sh_88 rfl dX7_doCall_82 ?_
      refine z_iload_n hC dX7_doCall_85 rfl rfl ?_
      obtain ⟨g8, h⟩ := gd_some h
      refine z_iald hC sh_107 g8 dX7_doCall_86 ?_
      obtain ⟨r9, u9, c9, h⟩ := mB_some h
      refine z_callI hC kC_X7_statement kM_X7_156 sh_88 TX7 39 rfl (m_X7_statement hC.dis (u6 107 ((u 88 30) - 1).toNatClampNeg) u6 c9) rfl (Nat.le_of_ble_eq_true rfl) (Nat.le_of_ble_eq_true rfl) (Nat.le_of_ble_eq_true rfl) rfl dX7_doCall_87 ?_
      refine y_istore_n hC [some (.ref (cS C 88)), none, some (.int ((u 88 30) - 1)), some (.int r9)] dX7_doCall_90 rfl rfl (Nat.le_of_ble_eq_true rfl) (Nat.le_of_ble_eq_true rfl) rfl ?_
      refine z_aload_n hC dX7_doCall_91 rfl rfl ?_
      refine z_getR hC 106 kF_X7_61 sh_88 rfl dX7_doCall_92 ?_
      refine z_iload_n hC dX7_doCall_95 rfl rfl ?_
      refine z_aload_n hC dX7_doCall_96 rfl rfl ?_
      refine z_getI hC kF_X7_95 sh_88 rfl dX7_doCall_97 ?_
      obtain ⟨g10, h⟩ := gd_some h
      obtain ⟨u11, e11, h⟩ := mS_some h
      refine y_iast hC sh_106 g10 dX7_doCall_100 e11 ?_
      refine z_aload_n hC dX7_doCall_101 rfl rfl ?_
      refine z_dup hC dX7_doCall_102 rfl ?_
      refine z_getI hC kF_X7_268 sh_88 rfl dX7_doCall_103 ?_
      refine z_iconst (v := 1) hC dX7_doCall_106 (by decide) ?_
      refine z_iadd hC dX7_doCall_107 ?_
      obtain ⟨u12, e12, h⟩ := mS_some h
      refine y_putI hC kP_X7_268 sh_88 rfl dX7_doCall_108 e12 ?_
      refine z_iload_n hC dX7_doCall_111 rfl rfl ?_
      refine z_if_eq hC 143 dX7_doCall_112 (by decide) (fun b13 => ?_) (fun b13 => ?_)
      · rw [if_pos b13] at h
        refine z_iconst (v := nI 2) hC dX7_doCall_143 (by decide) ?_
        obtain rfl := Option.some.inj h
        exact z_iret hC hE dX7_doCall_144
      · rw [if_neg b13] at h
        refine z_aload_n hC dX7_doCall_115 rfl rfl ?_
        refine z_getI hC kF_X7_268 sh_88 rfl dX7_doCall_116 ?_
        refine z_sipush (v := nI 200) hC dX7_doCall_119 (by decide) ?_
        refine z_icmp_gt hC 143 dX7_doCall_122 (by decide) (fun b14 => ?_) (fun b14 => ?_)
        · rw [if_pos b14] at h
          refine z_iconst (v := nI 2) hC dX7_doCall_143 (by decide) ?_
          obtain rfl := Option.some.inj h
          exact z_iret hC hE dX7_doCall_144
        · rw [if_neg b14] at h
          refine z_aload_n hC dX7_doCall_125 rfl rfl ?_
          refine z_getI hC kF_X7_133 sh_88 rfl dX7_doCall_126 ?_
          refine z_bipush (v := nI 99) hC dX7_doCall_129 (by decide) ?_
          refine z_icmp_ne hC 145 dX7_doCall_131 (by decide) (fun b15 => ?_) (fun b15 => ?_)
          · rw [if_neg b15] at h
            refine z_mask [true, false, false, false] ?_
            exact s_X7_doCall_145 hC hE k26 hk26 u12 h
          · rw [if_pos b15] at h
            refine z_aload_n hC dX7_doCall_134 rfl rfl ?_
            refine z_getI hC kF_X7_265 sh_88 rfl dX7_doCall_135 ?_
            refine z_bipush (v := nI 20) hC dX7_doCall_138 (by decide) ?_
            refine z_icmp_ne hC 145 dX7_doCall_140 (by decide) (fun b16 => ?_) (fun b16 => ?_)
            · rw [if_neg b16] at h
              refine z_mask [true, false, false, false] ?_
              exact s_X7_doCall_145 hC hE k26 hk26 u12 h
            · rw [if_pos b16] at h
              refine z_iconst (v := nI 2) hC dX7_doCall_143 (by decide) ?_
              obtain rfl := Option.some.inj h
              exact z_iret hC hE dX7_doCall_144
    · rw [if_pos b7] at h
      refine z_aload_n hC dX7_doCall_67 rfl rfl ?_
      refine z_dup hC dX7_doCall_68 rfl ?_
      refine z_getI hC kF_X7_265 sh_88 rfl dX7_doCall_69 ?_
      refine z_iconst (v := 1) hC dX7_doCall_72 (by decide) ?_
      refine z_isub hC dX7_doCall_73 ?_
      obtain ⟨u17, e17, h⟩ := mS_some h
      refine y_putI hC kP_X7_265 sh_88 rfl dX7_doCall_74 e17 ?_
      refine z_goto hC 178 dX7_doCall_77 (by decide) ?_
      refine z_mask [true, false, false, false] ?_
      exact s_X7_doCall_178 hC hE k26 hk26 u17 h
set_option maxHeartbeats 4000000 in
set_option maxRecDepth 100000 in
theorem t_X7_doCall_26 {C : mCtx} (hC : mOK cX7_doCall RX7 4 5 111 C) {res : Int32 × MU} (hE : mEndI C .int res.1 res.2) : ∀ (n : Nat) (u : MU), l_X7_doCall_26 n u = some res → wat C u 26 [some (.ref (cS C 88)), none, none, none] [] := by
  intro n
  induction n with
  | zero => intro u h; exact absurd h (by simp [l_X7_doCall_26])
  | succ n ih =>
    intro u h
    exact s_X7_doCall_26 hC hE (fun u => l_X7_doCall_26 n u) ih u h
set_option maxHeartbeats 4000000 in
set_option maxRecDepth 100000 in
theorem s_X7_doCall_0 {C : mCtx} (hC : mOK cX7_doCall RX7 4 5 111 C) {res : Int32 × MU} (hE : mEndI C .int res.1 res.2) (x1 : Int32) (u : MU) (h : f_X7_doCall x1 u = some res) : wat C u 0 [some (.ref (cS C 88)), some (.int x1), none, none] [] := by
  unfold f_X7_doCall at h
  refine z_aload_n hC dX7_doCall_0 rfl rfl ?_
  refine z_iconst (v := 0) hC dX7_doCall_1 (by decide) ?_
  obtain ⟨u1, e1, h⟩ := mS_some h
  refine y_putI hC kP_X7_265 sh_88 rfl dX7_doCall_2 e1 ?_
  refine z_aload_n hC dX7_doCall_5 rfl rfl ?_
  refine z_iconst (v := 0) hC dX7_doCall_6 (by decide) ?_
  obtain ⟨u2, e2, h⟩ := mS_some h
  refine y_putI hC kP_X7_268 sh_88 rfl dX7_doCall_7 e2 ?_
  refine z_aload_n hC dX7_doCall_10 rfl rfl ?_
  refine z_aload_n hC dX7_doCall_11 rfl rfl ?_
  refine z_getR hC 92 kF_X7_19 sh_88 rfl dX7_doCall_12 ?_
  refine z_iload_n hC dX7_doCall_15 rfl rfl ?_
  obtain ⟨g3, h⟩ := gd_some h
  refine z_iald hC sh_92 g3 dX7_doCall_16 ?_
  refine z_aload_n hC dX7_doCall_17 rfl rfl ?_
  refine z_getR hC 93 kF_X7_22 sh_88 rfl dX7_doCall_18 ?_
  refine z_iload_n hC dX7_doCall_21 rfl rfl ?_
  obtain ⟨g4, h⟩ := gd_some h
  refine z_iald hC sh_93 g4 dX7_doCall_22 ?_
  obtain ⟨r5, u5, c5, h⟩ := mB_some h
  refine z_callV hC kC_X7_push kM_X7_271 sh_88 TX7 39 rfl (m_X7_push hC.dis (u2 92 x1.toNatClampNeg) (u2 93 x1.toNatClampNeg) u2 c5) rfl (Nat.le_of_ble_eq_true rfl) (Nat.le_of_ble_eq_true rfl) (Nat.le_of_ble_eq_true rfl) rfl dX7_doCall_23 ?_
  refine z_mask [true, false, false, false] ?_
  exact t_X7_doCall_26 hC hE FU u5 h
theorem m_X7_doCall {l : Launch} {dC : Nat → ClassId} {dI : Nat → Nat → Nat} {dA : Nat → ClassId} {as : Nat → Nat} (hD : mDis as) (x1 : Int32) (u : MU) {r : Int32} {v : MU} (h : f_X7_doCall x1 u = some (r, v)) : mMI l dC dI dA as yX7_doCall cX7_doCall 4 .int 5 111 [.ref (as 88), .int x1] u r v := mMIof RX7 [some (.ref (as 88)), some (.int x1), none, none] hD (by decide +kernel) rfl (Nat.le_of_ble_eq_true rfl) rfl (fun C e1 e2 e3 e4 e5 hC hE => by subst e5; exact s_X7_doCall_0 hC (res := (r, v)) hE x1 u h)
set_option maxHeartbeats 4000000 in
set_option maxRecDepth 100000 in
theorem s_X7_kth_129 {C : mCtx} (hC : mOK cX7_kth RX7 7 0 0 C) {res : Int32 × MU} (hE : mEndI C .int res.1 res.2) (x1 : Int32) (x2 : Int32) (k2 : Int32 → MU → mR) (hk2 : ∀ (x3 : Int32) (u : MU), k2 x3 u = some res → wat C u 2 [some (.ref (cS C 88)), some (.int x1), some (.int x2), some (.int x3), none, none, none] []) (k16 : Int32 → Int32 → Int32 → MU → mR) (hk16 : ∀ (x3 : Int32) (x4 : Int32) (x5 : Int32) (u : MU), k16 x3 x4 x5 u = some res → wat C u 16 [some (.ref (cS C 88)), some (.int x1), some (.int x2), some (.int x3), some (.int x4), some (.int x5), none] []) (x3 : Int32) (x5 : Int32) (s1 : Int32) (s0 : Int32) (u : MU) (h : b_X7_kth_129 k2 k16 x1 x2 x3 x5 s1 s0 u = some res) : wat C u 129 [some (.ref (cS C 88)), some (.int x1), some (.int x2), some (.int x3), none, some (.int x5), none] [(.int s1), (.int s0)] := by
  unfold b_X7_kth_129 at h
  refine z_iadd hC dX7_kth_129 ?_
  refine y_istore hC [some (.ref (cS C 88)), some (.int x1), some (.int x2), some (.int x3), some (.int (s0 + s1)), some (.int x5), none] dX7_kth_130 rfl (Nat.le_of_ble_eq_true rfl) (Nat.le_of_ble_eq_true rfl) rfl ?_
  refine y_iinc hC (x5 + 1) [some (.ref (cS C 88)), some (.int x1), some (.int x2), some (.int x3), some (.int (s0 + s1)), some (.int (x5 + 1)), none] dX7_kth_132 rfl rfl rfl (Nat.le_of_ble_eq_true rfl) rfl ?_
  refine z_goto hC 16 dX7_kth_135 (by decide) ?_
  exact hk16 x3 (s0 + s1) (x5 + 1) u h
set_option maxHeartbeats 4000000 in
set_option maxRecDepth 100000 in
theorem s_X7_kth_68 {C : mCtx} (hC : mOK cX7_kth RX7 7 0 0 C) {res : Int32 × MU} (hE : mEndI C .int res.1 res.2) (x1 : Int32) (x2 : Int32) (k2 : Int32 → MU → mR) (hk2 : ∀ (x3 : Int32) (u : MU), k2 x3 u = some res → wat C u 2 [some (.ref (cS C 88)), some (.int x1), some (.int x2), some (.int x3), none, none, none] []) (k16 : Int32 → Int32 → Int32 → MU → mR) (hk16 : ∀ (x3 : Int32) (x4 : Int32) (x5 : Int32) (u : MU), k16 x3 x4 x5 u = some res → wat C u 16 [some (.ref (cS C 88)), some (.int x1), some (.int x2), some (.int x3), some (.int x4), some (.int x5), none] []) (x3 : Int32) (x4 : Int32) (x5 : Int32) (s0 : Int32) (u : MU) (h : b_X7_kth_68 k2 k16 x1 x2 x3 x4 x5 s0 u = some res) : wat C u 68 [some (.ref (cS C 88)), some (.int x1), some (.int x2), some (.int x3), some (.int x4), some (.int x5), none] [(.int s0)] := by
  unfold b_X7_kth_68 at h
  refine y_istore hC [some (.ref (cS C 88)), some (.int x1), some (.int x2), some (.int x3), some (.int x4), some (.int x5), some (.int s0)] dX7_kth_68 rfl (Nat.le_of_ble_eq_true rfl) (Nat.le_of_ble_eq_true rfl) rfl ?_
  refine z_iload hC dX7_kth_70 rfl ?_
  refine z_iload_n hC dX7_kth_72 rfl rfl ?_
  refine z_if_ne hC 90 dX7_kth_73 (by decide) (fun b1 => ?_) (fun b1 => ?_)
  · rw [if_neg b1] at h
    refine z_iload_n hC dX7_kth_90 rfl rfl ?_
    refine z_iconst (v := 1) hC dX7_kth_91 (by decide) ?_
    refine z_icmp_ne hC 108 dX7_kth_92 (by decide) (fun b2 => ?_) (fun b2 => ?_)
    · rw [if_neg b2] at h
      refine z_aload_n hC dX7_kth_108 rfl rfl ?_
      refine z_getR hC 101 kF_X7_46 sh_88 rfl dX7_kth_109 ?_
      refine z_iload hC dX7_kth_112 rfl ?_
      obtain ⟨g3, h⟩ := gd_some h
      refine z_iald hC sh_101 g3 dX7_kth_114 ?_
      refine z_aload_n hC dX7_kth_115 rfl rfl ?_
      refine z_getR hC 101 kF_X7_46 sh_88 rfl dX7_kth_116 ?_
      refine z_iload_n hC dX7_kth_119 rfl rfl ?_
      obtain ⟨g4, h⟩ := gd_some h
      refine z_iald hC sh_101 g4 dX7_kth_120 ?_
      refine z_icmp_ge hC 128 dX7_kth_121 (by decide) (fun b5 => ?_) (fun b5 => ?_)
      · rw [if_pos b5] at h
        refine z_iconst (v := 0) hC dX7_kth_128 (by decide) ?_
        refine z_mask [true, true, true, true, false, true, false] ?_
        exact s_X7_kth_129 hC hE x1 x2 k2 hk2 k16 hk16 x3 x5 0 x4 u h
      · rw [if_neg b5] at h
        refine z_iconst (v := 1) hC dX7_kth_124 (by decide) ?_
        refine z_goto hC 129 dX7_kth_125 (by decide) ?_
        refine z_mask [true, true, true, true, false, true, false] ?_
        exact s_X7_kth_129 hC hE x1 x2 k2 hk2 k16 hk16 x3 x5 1 x4 u h
    · rw [if_pos b2] at h
      refine z_iload hC dX7_kth_95 rfl ?_
      refine z_if_eq hC 104 dX7_kth_97 (by decide) (fun b6 => ?_) (fun b6 => ?_)
      · rw [if_pos b6] at h
        refine z_iconst (v := 0) hC dX7_kth_104 (by decide) ?_
        refine z_goto hC 129 dX7_kth_105 (by decide) ?_
        refine z_mask [true, true, true, true, false, true, false] ?_
        exact s_X7_kth_129 hC hE x1 x2 k2 hk2 k16 hk16 x3 x5 0 x4 u h
      · rw [if_neg b6] at h
        refine z_iconst (v := 1) hC dX7_kth_100 (by decide) ?_
        refine z_goto hC 129 dX7_kth_101 (by decide) ?_
        refine z_mask [true, true, true, true, false, true, false] ?_
        exact s_X7_kth_129 hC hE x1 x2 k2 hk2 k16 hk16 x3 x5 1 x4 u h
  · rw [if_pos b1] at h
    refine z_iload hC dX7_kth_76 rfl ?_
    refine z_iload_n hC dX7_kth_78 rfl rfl ?_
    refine z_icmp_ge hC 86 dX7_kth_79 (by decide) (fun b7 => ?_) (fun b7 => ?_)
    · rw [if_pos b7] at h
      refine z_iconst (v := 0) hC dX7_kth_86 (by decide) ?_
      refine z_goto hC 129 dX7_kth_87 (by decide) ?_
      refine z_mask [true, true, true, true, false, true, false] ?_
      exact s_X7_kth_129 hC hE x1 x2 k2 hk2 k16 hk16 x3 x5 0 x4 u h
    · rw [if_neg b7] at h
      refine z_iconst (v := 1) hC dX7_kth_82 (by decide) ?_
      refine z_goto hC 129 dX7_kth_83 (by decide) ?_
      refine z_mask [true, true, true, true, false, true, false] ?_
      exact s_X7_kth_129 hC hE x1 x2 k2 hk2 k16 hk16 x3 x5 1 x4 u h
set_option maxHeartbeats 4000000 in
set_option maxRecDepth 100000 in
theorem s_X7_kth_63 {C : mCtx} (hC : mOK cX7_kth RX7 7 0 0 C) {res : Int32 × MU} (hE : mEndI C .int res.1 res.2) (x1 : Int32) (x2 : Int32) (k2 : Int32 → MU → mR) (hk2 : ∀ (x3 : Int32) (u : MU), k2 x3 u = some res → wat C u 2 [some (.ref (cS C 88)), some (.int x1), some (.int x2), some (.int x3), none, none, none] []) (k16 : Int32 → Int32 → Int32 → MU → mR) (hk16 : ∀ (x3 : Int32) (x4 : Int32) (x5 : Int32) (u : MU), k16 x3 x4 x5 u = some res → wat C u 16 [some (.ref (cS C 88)), some (.int x1), some (.int x2), some (.int x3), some (.int x4), some (.int x5), none] []) (x3 : Int32) (x4 : Int32) (x5 : Int32) (u : MU) (h : b_X7_kth_63 k2 k16 x1 x2 x3 x4 x5 u = some res) : wat C u 63 [some (.ref (cS C 88)), some (.int x1), some (.int x2), some (.int x3), some (.int x4), some (.int x5), none] [] := by
  unfold b_X7_kth_63 at h
  refine z_iconst (v := 1) hC dX7_kth_63 (by decide) ?_
  refine z_goto hC 68 dX7_kth_64 (by decide) ?_
  exact s_X7_kth_68 hC hE x1 x2 k2 hk2 k16 hk16 x3 x4 x5 1 u h
set_option maxHeartbeats 4000000 in
set_option maxRecDepth 100000 in
theorem s_X7_kth_67 {C : mCtx} (hC : mOK cX7_kth RX7 7 0 0 C) {res : Int32 × MU} (hE : mEndI C .int res.1 res.2) (x1 : Int32) (x2 : Int32) (k2 : Int32 → MU → mR) (hk2 : ∀ (x3 : Int32) (u : MU), k2 x3 u = some res → wat C u 2 [some (.ref (cS C 88)), some (.int x1), some (.int x2), some (.int x3), none, none, none] []) (k16 : Int32 → Int32 → Int32 → MU → mR) (hk16 : ∀ (x3 : Int32) (x4 : Int32) (x5 : Int32) (u : MU), k16 x3 x4 x5 u = some res → wat C u 16 [some (.ref (cS C 88)), some (.int x1), some (.int x2), some (.int x3), some (.int x4), some (.int x5), none] []) (x3 : Int32) (x4 : Int32) (x5 : Int32) (u : MU) (h : b_X7_kth_67 k2 k16 x1 x2 x3 x4 x5 u = some res) : wat C u 67 [some (.ref (cS C 88)), some (.int x1), some (.int x2), some (.int x3), some (.int x4), some (.int x5), none] [] := by
  unfold b_X7_kth_67 at h
  refine z_iconst (v := 0) hC dX7_kth_67 (by decide) ?_
  exact s_X7_kth_68 hC hE x1 x2 k2 hk2 k16 hk16 x3 x4 x5 0 u h
set_option maxHeartbeats 4000000 in
set_option maxRecDepth 100000 in
theorem s_X7_kth_16 {C : mCtx} (hC : mOK cX7_kth RX7 7 0 0 C) {res : Int32 × MU} (hE : mEndI C .int res.1 res.2) (x1 : Int32) (x2 : Int32) (k2 : Int32 → MU → mR) (hk2 : ∀ (x3 : Int32) (u : MU), k2 x3 u = some res → wat C u 2 [some (.ref (cS C 88)), some (.int x1), some (.int x2), some (.int x3), none, none, none] []) (k16 : Int32 → Int32 → Int32 → MU → mR) (hk16 : ∀ (x3 : Int32) (x4 : Int32) (x5 : Int32) (u : MU), k16 x3 x4 x5 u = some res → wat C u 16 [some (.ref (cS C 88)), some (.int x1), some (.int x2), some (.int x3), some (.int x4), some (.int x5), none] []) (x3 : Int32) (x4 : Int32) (x5 : Int32) (u : MU) (h : b_X7_kth_16 k2 k16 x1 x2 x3 x4 x5 u = some res) : wat C u 16 [some (.ref (cS C 88)), some (.int x1), some (.int x2), some (.int x3), some (.int x4), some (.int x5), none] [] := by
  unfold b_X7_kth_16 at h
  refine z_iload hC dX7_kth_16 rfl ?_
  refine z_aload_n hC dX7_kth_18 rfl rfl ?_
  refine z_getI hC kF_X7_203 sh_88 rfl dX7_kth_19 ?_
  refine z_icmp_ge hC 138 dX7_kth_22 (by decide) (fun b1 => ?_) (fun b1 => ?_)
  · rw [if_pos b1] at h
    refine z_iload hC dX7_kth_138 rfl ?_
    refine z_iload_n hC dX7_kth_140 rfl rfl ?_
    refine z_icmp_ne hC 146 dX7_kth_141 (by decide) (fun b2 => ?_) (fun b2 => ?_)
    · rw [if_neg b2] at h
      refine y_iinc hC (x3 + 1) [some (.ref (cS C 88)), some (.int x1), some (.int x2), some (.int (x3 + 1)), some (.int x4), some (.int x5), none] dX7_kth_146 rfl rfl rfl (Nat.le_of_ble_eq_true rfl) rfl ?_
      refine z_goto hC 2 dX7_kth_149 (by decide) ?_
      refine z_mask [true, true, true, true, false, false, false] ?_
      exact hk2 (x3 + 1) u h
    · rw [if_pos b2] at h
      refine z_iload_n hC dX7_kth_144 rfl rfl ?_
      obtain rfl := Option.some.inj h
      exact z_iret hC hE dX7_kth_145
  · rw [if_neg b1] at h
    refine z_aload_n hC dX7_kth_25 rfl rfl ?_
    refine z_getR hC 100 kF_X7_43 sh_88 rfl dX7_kth_26 ?_
    refine z_iload hC dX7_kth_29 rfl ?_
    obtain ⟨g3, h⟩ := gd_some h
    refine z_iald hC sh_100 g3 dX7_kth_31 ?_
    refine z_aload_n hC dX7_kth_32 rfl rfl ?_
    refine z_getR hC 100 kF_X7_43 sh_88 rfl dX7_kth_33 ?_
    refine z_iload_n hC dX7_kth_36 rfl rfl ?_
    obtain ⟨g4, h⟩ := gd_some h
    refine z_iald hC sh_100 g4 dX7_kth_37 ?_
    refine z_icmp_lt hC 63 dX7_kth_38 (by decide) (fun b5 => ?_) (fun b5 => ?_)
    · rw [if_pos b5] at h
      exact s_X7_kth_63 hC hE x1 x2 k2 hk2 k16 hk16 x3 x4 x5 u h
    · rw [if_neg b5] at h
      refine z_aload_n hC dX7_kth_41 rfl rfl ?_
      refine z_getR hC 100 kF_X7_43 sh_88 rfl dX7_kth_42 ?_
      refine z_iload hC dX7_kth_45 rfl ?_
      obtain ⟨g6, h⟩ := gd_some h
      refine z_iald hC sh_100 g6 dX7_kth_47 ?_
      refine z_aload_n hC dX7_kth_48 rfl rfl ?_
      refine z_getR hC 100 kF_X7_43 sh_88 rfl dX7_kth_49 ?_
      refine z_iload_n hC dX7_kth_52 rfl rfl ?_
      obtain ⟨g7, h⟩ := gd_some h
      refine z_iald hC sh_100 g7 dX7_kth_53 ?_
      refine z_icmp_ne hC 67 dX7_kth_54 (by decide) (fun b8 => ?_) (fun b8 => ?_)
      · rw [if_neg b8] at h
        exact s_X7_kth_67 hC hE x1 x2 k2 hk2 k16 hk16 x3 x4 x5 u h
      · rw [if_pos b8] at h
        refine z_iload hC dX7_kth_57 rfl ?_
        refine z_iload_n hC dX7_kth_59 rfl rfl ?_
        refine z_icmp_le hC 67 dX7_kth_60 (by decide) (fun b9 => ?_) (fun b9 => ?_)
        · rw [if_pos b9] at h
          exact s_X7_kth_67 hC hE x1 x2 k2 hk2 k16 hk16 x3 x4 x5 u h
        · rw [if_neg b9] at h
          exact s_X7_kth_63 hC hE x1 x2 k2 hk2 k16 hk16 x3 x4 x5 u h
set_option maxHeartbeats 4000000 in
set_option maxRecDepth 100000 in
theorem t_X7_kth_16 {C : mCtx} (hC : mOK cX7_kth RX7 7 0 0 C) {res : Int32 × MU} (hE : mEndI C .int res.1 res.2) (x1 : Int32) (x2 : Int32) (k2 : Int32 → MU → mR) (hk2 : ∀ (x3 : Int32) (u : MU), k2 x3 u = some res → wat C u 2 [some (.ref (cS C 88)), some (.int x1), some (.int x2), some (.int x3), none, none, none] []) : ∀ (n : Nat) (x3 : Int32) (x4 : Int32) (x5 : Int32) (u : MU), l_X7_kth_16 k2 x1 x2 n x3 x4 x5 u = some res → wat C u 16 [some (.ref (cS C 88)), some (.int x1), some (.int x2), some (.int x3), some (.int x4), some (.int x5), none] [] := by
  intro n
  induction n with
  | zero => intro x3 x4 x5 u h; exact absurd h (by simp [l_X7_kth_16])
  | succ n ih =>
    intro x3 x4 x5 u h
    exact s_X7_kth_16 hC hE x1 x2 k2 hk2 (fun x3 x4 x5 u => l_X7_kth_16 k2 x1 x2 n x3 x4 x5 u) ih x3 x4 x5 u h
set_option maxHeartbeats 4000000 in
set_option maxRecDepth 100000 in
theorem s_X7_kth_2 {C : mCtx} (hC : mOK cX7_kth RX7 7 0 0 C) {res : Int32 × MU} (hE : mEndI C .int res.1 res.2) (x1 : Int32) (x2 : Int32) (k2 : Int32 → MU → mR) (hk2 : ∀ (x3 : Int32) (u : MU), k2 x3 u = some res → wat C u 2 [some (.ref (cS C 88)), some (.int x1), some (.int x2), some (.int x3), none, none, none] []) (x3 : Int32) (u : MU) (h : b_X7_kth_2 k2 x1 x2 x3 u = some res) : wat C u 2 [some (.ref (cS C 88)), some (.int x1), some (.int x2), some (.int x3), none, none, none] [] := by
  unfold b_X7_kth_2 at h
  refine z_iload_n hC dX7_kth_2 rfl rfl ?_
  refine z_aload_n hC dX7_kth_3 rfl rfl ?_
  refine z_getI hC kF_X7_203 sh_88 rfl dX7_kth_4 ?_
  refine z_icmp_ge hC 152 dX7_kth_7 (by decide) (fun b1 => ?_) (fun b1 => ?_)
  · rw [if_pos b1] at h
    refine z_bipush (v := (-6)) hC dX7_kth_152 (by decide) ?_
    obtain rfl := Option.some.inj h
    exact z_iret hC hE dX7_kth_154
  · rw [if_neg b1] at h
    refine z_iconst (v := 0) hC dX7_kth_10 (by decide) ?_
    refine y_istore hC [some (.ref (cS C 88)), some (.int x1), some (.int x2), some (.int x3), some (.int 0), none, none] dX7_kth_11 rfl (Nat.le_of_ble_eq_true rfl) (Nat.le_of_ble_eq_true rfl) rfl ?_
    refine z_iconst (v := 0) hC dX7_kth_13 (by decide) ?_
    refine y_istore hC [some (.ref (cS C 88)), some (.int x1), some (.int x2), some (.int x3), some (.int 0), some (.int 0), none] dX7_kth_14 rfl (Nat.le_of_ble_eq_true rfl) (Nat.le_of_ble_eq_true rfl) rfl ?_
    exact t_X7_kth_16 hC hE x1 x2 k2 hk2 FU x3 0 0 u h
set_option maxHeartbeats 4000000 in
set_option maxRecDepth 100000 in
theorem t_X7_kth_2 {C : mCtx} (hC : mOK cX7_kth RX7 7 0 0 C) {res : Int32 × MU} (hE : mEndI C .int res.1 res.2) (x1 : Int32) (x2 : Int32) : ∀ (n : Nat) (x3 : Int32) (u : MU), l_X7_kth_2 x1 x2 n x3 u = some res → wat C u 2 [some (.ref (cS C 88)), some (.int x1), some (.int x2), some (.int x3), none, none, none] [] := by
  intro n
  induction n with
  | zero => intro x3 u h; exact absurd h (by simp [l_X7_kth_2])
  | succ n ih =>
    intro x3 u h
    exact s_X7_kth_2 hC hE x1 x2 (fun x3 u => l_X7_kth_2 x1 x2 n x3 u) ih x3 u h
set_option maxHeartbeats 4000000 in
set_option maxRecDepth 100000 in
theorem s_X7_kth_0 {C : mCtx} (hC : mOK cX7_kth RX7 7 0 0 C) {res : Int32 × MU} (hE : mEndI C .int res.1 res.2) (x1 : Int32) (x2 : Int32) (u : MU) (h : f_X7_kth x1 x2 u = some res) : wat C u 0 [some (.ref (cS C 88)), some (.int x1), some (.int x2), none, none, none, none] [] := by
  unfold f_X7_kth at h
  refine z_iconst (v := 0) hC dX7_kth_0 (by decide) ?_
  refine y_istore_n hC [some (.ref (cS C 88)), some (.int x1), some (.int x2), some (.int 0), none, none, none] dX7_kth_1 rfl rfl (Nat.le_of_ble_eq_true rfl) (Nat.le_of_ble_eq_true rfl) rfl ?_
  exact t_X7_kth_2 hC hE x1 x2 FU 0 u h
theorem m_X7_kth {l : Launch} {dC : Nat → ClassId} {dI : Nat → Nat → Nat} {dA : Nat → ClassId} {as : Nat → Nat} (hD : mDis as) (x1 : Int32) (x2 : Int32) (u : MU) {r : Int32} {v : MU} (h : f_X7_kth x1 x2 u = some (r, v)) : mMI l dC dI dA as yX7_kth cX7_kth 7 .int 0 0 [.ref (as 88), .int x1, .int x2] u r v := mMIof RX7 [some (.ref (as 88)), some (.int x1), some (.int x2), none, none, none, none] hD (by decide +kernel) rfl (Nat.le_of_ble_eq_true rfl) rfl (fun C e1 e2 e3 e4 e5 hC hE => by subst e5; exact s_X7_kth_0 hC (res := (r, v)) hE x1 x2 u h)
