set_option maxHeartbeats 4000000 in
set_option maxRecDepth 100000 in
theorem s_X7_isRun_116 {C : mCtx} (hC : mOK cX7_isRun RX7 5 9 197 C) {res : Int32 × MU} (hE : mEndI C .boolean res.1 res.2) (x1 : Int32) (k47 : Int32 → MU → mR) (hk47 : ∀ (x2 : Int32) (u : MU), k47 x2 u = some res → wat C u 47 [some (.ref (cS C 88)), some (.int x1), some (.int x2), none, none] []) (x2 : Int32) (u : MU) (h : b_X7_isRun_116 k47 x1 x2 u = some res) : wat C u 116 [some (.ref (cS C 88)), some (.int x1), some (.int x2), none, none] [] := by
  unfold b_X7_isRun_116 at h
  refine y_iinc hC (x2 + 1) [some (.ref (cS C 88)), some (.int x1), some (.int (x2 + 1)), none, none] dX7_isRun_116 rfl rfl rfl (Nat.le_of_ble_eq_true rfl) rfl ?_
  refine z_goto hC 47 dX7_isRun_119 (by decide) ?_
  exact hk47 (x2 + 1) u h
set_option maxHeartbeats 4000000 in
set_option maxRecDepth 100000 in
theorem s_X7_isRun_47 {C : mCtx} (hC : mOK cX7_isRun RX7 5 9 197 C) {res : Int32 × MU} (hE : mEndI C .boolean res.1 res.2) (x1 : Int32) (k47 : Int32 → MU → mR) (hk47 : ∀ (x2 : Int32) (u : MU), k47 x2 u = some res → wat C u 47 [some (.ref (cS C 88)), some (.int x1), some (.int x2), none, none] []) (x2 : Int32) (u : MU) (h : b_X7_isRun_47 k47 x1 x2 u = some res) : wat C u 47 [some (.ref (cS C 88)), some (.int x1), some (.int x2), none, none] [] := by
  unfold b_X7_isRun_47 at h
  refine z_iload_n hC dX7_isRun_47 rfl rfl ?_
  refine z_aload_n hC dX7_isRun_48 rfl rfl ?_
  refine z_getI hC kF_X7_203 sh_88 rfl dX7_isRun_49 ?_
  refine z_icmp_ge hC 122 dX7_isRun_52 (by decide) (fun b1 => ?_) (fun b1 => ?_)
  · rw [if_pos b1] at h
    refine z_iconst (v := 1) hC dX7_isRun_122 (by decide) ?_
    obtain rfl := Option.some.inj h
    exact z_zret hC hE rfl dX7_isRun_123
  · rw [if_neg b1] at h
    refine z_aload_n hC dX7_isRun_55 rfl rfl ?_
    refine z_iload_n hC dX7_isRun_56 rfl rfl ?_
    refine z_iload_n hC dX7_isRun_57 rfl rfl ?_
    obtain ⟨r2, u2, c2, h⟩ := mB_some h
    refine z_callI hC kC_X7_kth kM_X7_283 sh_88 TX7 39 rfl (m_X7_kth hC.dis x1 x2 u c2) rfl (Nat.le_of_ble_eq_true rfl) (Nat.le_of_ble_eq_true rfl) (Nat.le_of_ble_eq_true rfl) rfl dX7_isRun_58 ?_
    refine y_istore_n hC [some (.ref (cS C 88)), some (.int x1), some (.int x2), some (.int r2), none] dX7_isRun_61 rfl rfl (Nat.le_of_ble_eq_true rfl) (Nat.le_of_ble_eq_true rfl) rfl ?_
    refine z_aload_n hC dX7_isRun_62 rfl rfl ?_
    refine z_iload_n hC dX7_isRun_63 rfl rfl ?_
    obtain ⟨r3, u3, c3, h⟩ := mB_some h
    refine z_callI hC kC_X7_doCall kM_X7_286 sh_88 TX7 39 rfl (m_X7_doCall hC.dis r2 u2 c3) rfl (Nat.le_of_ble_eq_true rfl) (Nat.le_of_ble_eq_true rfl) (Nat.le_of_ble_eq_true rfl) rfl dX7_isRun_64 ?_
    refine y_istore hC [some (.ref (cS C 88)), some (.int x1), some (.int x2), some (.int r2), some (.int r3)] dX7_isRun_67 rfl (Nat.le_of_ble_eq_true rfl) (Nat.le_of_ble_eq_true rfl) rfl ?_
    refine z_iload hC dX7_isRun_69 rfl ?_
    refine z_iconst (v := nI 2) hC dX7_isRun_71 (by decide) ?_
    refine z_icmp_ne hC 77 dX7_isRun_72 (by decide) (fun b4 => ?_) (fun b4 => ?_)
    · rw [if_neg b4] at h
      refine z_aload_n hC dX7_isRun_77 rfl rfl ?_
      refine z_dup hC dX7_isRun_78 rfl ?_
      refine z_getI hC kF_X7_280 sh_88 rfl dX7_isRun_79 ?_
      refine z_aload_n hC dX7_isRun_82 rfl rfl ?_
      refine z_getI hC kF_X7_268 sh_88 rfl dX7_isRun_83 ?_
      refine z_iadd hC dX7_isRun_86 ?_
      obtain ⟨u5, e5, h⟩ := mS_some h
      refine y_putI hC kP_X7_280 sh_88 rfl dX7_isRun_87 e5 ?_
      refine z_iload hC dX7_isRun_90 rfl ?_
      refine z_iconst (v := 1) hC dX7_isRun_92 (by decide) ?_
      refine z_icmp_ne hC 116 dX7_isRun_93 (by decide) (fun b6 => ?_) (fun b6 => ?_)
      · rw [if_neg b6] at h
        refine z_mask [true, true, true, false, false] ?_
        exact s_X7_isRun_116 hC hE x1 k47 hk47 x2 u5 h
      · rw [if_pos b6] at h
        refine z_aload_n hC dX7_isRun_96 rfl rfl ?_
        refine z_getR hC 108 kF_X7_67 sh_88 rfl dX7_isRun_97 ?_
        refine z_aload_n hC dX7_isRun_100 rfl rfl ?_
        refine z_getI hC kF_X7_277 sh_88 rfl dX7_isRun_101 ?_
        refine z_iload_n hC dX7_isRun_104 rfl rfl ?_
        obtain ⟨g7, h⟩ := gd_some h
        obtain ⟨u8, e8, h⟩ := mS_some h
        refine y_iast hC sh_108 g7 dX7_isRun_105 e8 ?_
        refine z_aload_n hC dX7_isRun_106 rfl rfl ?_
        refine z_dup hC dX7_isRun_107 rfl ?_
        refine z_getI hC kF_X7_277 sh_88 rfl dX7_isRun_108 ?_
        refine z_iconst (v := 1) hC dX7_isRun_111 (by decide) ?_
        refine z_iadd hC dX7_isRun_112 ?_
        obtain ⟨u9, e9, h⟩ := mS_some h
        refine y_putI hC kP_X7_277 sh_88 rfl dX7_isRun_113 e9 ?_
        refine z_mask [true, true, true, false, false] ?_
        exact s_X7_isRun_116 hC hE x1 k47 hk47 x2 u9 h
    · rw [if_pos b4] at h
      refine z_iconst (v := 0) hC dX7_isRun_75 (by decide) ?_
      obtain rfl := Option.some.inj h
      exact z_zret hC hE rfl dX7_isRun_76
set_option maxHeartbeats 4000000 in
set_option maxRecDepth 100000 in
theorem t_X7_isRun_47 {C : mCtx} (hC : mOK cX7_isRun RX7 5 9 197 C) {res : Int32 × MU} (hE : mEndI C .boolean res.1 res.2) (x1 : Int32) : ∀ (n : Nat) (x2 : Int32) (u : MU), l_X7_isRun_47 x1 n x2 u = some res → wat C u 47 [some (.ref (cS C 88)), some (.int x1), some (.int x2), none, none] [] := by
  intro n
  induction n with
  | zero => intro x2 u h; exact absurd h (by simp [l_X7_isRun_47])
  | succ n ih =>
    intro x2 u h
    exact s_X7_isRun_47 hC hE x1 (fun x2 u => l_X7_isRun_47 x1 n x2 u) ih x2 u h
set_option maxHeartbeats 4000000 in
set_option maxRecDepth 100000 in
theorem s_X7_isRun_11 {C : mCtx} (hC : mOK cX7_isRun RX7 5 9 197 C) {res : Int32 × MU} (hE : mEndI C .boolean res.1 res.2) (x1 : Int32) (k11 : Int32 → MU → mR) (hk11 : ∀ (x2 : Int32) (u : MU), k11 x2 u = some res → wat C u 11 [some (.ref (cS C 88)), some (.int x1), some (.int x2), none, none] []) (x2 : Int32) (u : MU) (h : b_X7_isRun_11 k11 x1 x2 u = some res) : wat C u 11 [some (.ref (cS C 88)), some (.int x1), some (.int x2), none, none] [] := by
  unfold b_X7_isRun_11 at h
  refine z_iload_n hC dX7_isRun_11 rfl rfl ?_
  refine z_bipush (v := nI 18) hC dX7_isRun_12 (by decide) ?_
  refine z_icmp_ge hC 35 dX7_isRun_14 (by decide) (fun b1 => ?_) (fun b1 => ?_)
  · rw [if_pos b1] at h
    refine z_aload_n hC dX7_isRun_35 rfl rfl ?_
    refine z_iconst (v := 0) hC dX7_isRun_36 (by decide) ?_
    obtain ⟨u2, e2, h⟩ := mS_some h
    refine y_putI hC kP_X7_277 sh_88 rfl dX7_isRun_37 e2 ?_
    refine z_aload_n hC dX7_isRun_40 rfl rfl ?_
    refine z_iconst (v := 0) hC dX7_isRun_41 (by decide) ?_
    obtain ⟨u3, e3, h⟩ := mS_some h
    refine y_putI hC kP_X7_280 sh_88 rfl dX7_isRun_42 e3 ?_
    refine z_iconst (v := 0) hC dX7_isRun_45 (by decide) ?_
    refine y_istore_n hC [some (.ref (cS C 88)), some (.int x1), some (.int 0), none, none] dX7_isRun_46 rfl rfl (Nat.le_of_ble_eq_true rfl) (Nat.le_of_ble_eq_true rfl) rfl ?_
    exact t_X7_isRun_47 hC hE x1 FU 0 u3 h
  · rw [if_neg b1] at h
    refine z_aload_n hC dX7_isRun_17 rfl rfl ?_
    refine z_getR hC 99 kF_X7_40 sh_88 rfl dX7_isRun_18 ?_
    refine z_iload_n hC dX7_isRun_21 rfl rfl ?_
    refine z_aload_n hC dX7_isRun_22 rfl rfl ?_
    refine z_getR hC 91 kF_X7_16 sh_88 rfl dX7_isRun_23 ?_
    refine z_iload_n hC dX7_isRun_26 rfl rfl ?_
    obtain ⟨g4, h⟩ := gd_some h
    refine z_iald hC sh_91 g4 dX7_isRun_27 ?_
    obtain ⟨g5, h⟩ := gd_some h
    obtain ⟨u6, e6, h⟩ := mS_some h
    refine y_iast hC sh_99 g5 dX7_isRun_28 e6 ?_
    refine y_iinc hC (x2 + 1) [some (.ref (cS C 88)), some (.int x1), some (.int (x2 + 1)), none, none] dX7_isRun_29 rfl rfl rfl (Nat.le_of_ble_eq_true rfl) rfl ?_
    refine z_goto hC 11 dX7_isRun_32 (by decide) ?_
    exact hk11 (x2 + 1) u6 h
set_option maxHeartbeats 4000000 in
set_option maxRecDepth 100000 in
theorem t_X7_isRun_11 {C : mCtx} (hC : mOK cX7_isRun RX7 5 9 197 C) {res : Int32 × MU} (hE : mEndI C .boolean res.1 res.2) (x1 : Int32) : ∀ (n : Nat) (x2 : Int32) (u : MU), l_X7_isRun_11 x1 n x2 u = some res → wat C u 11 [some (.ref (cS C 88)), some (.int x1), some (.int x2), none, none] [] := by
  intro n
  induction n with
  | zero => intro x2 u h; exact absurd h (by simp [l_X7_isRun_11])
  | succ n ih =>
    intro x2 u h
    exact s_X7_isRun_11 hC hE x1 (fun x2 u => l_X7_isRun_11 x1 n x2 u) ih x2 u h
set_option maxHeartbeats 4000000 in
set_option maxRecDepth 100000 in
theorem s_X7_isRun_0 {C : mCtx} (hC : mOK cX7_isRun RX7 5 9 197 C) {res : Int32 × MU} (hE : mEndI C .boolean res.1 res.2) (x1 : Int32) (u : MU) (h : f_X7_isRun x1 u = some res) : wat C u 0 [some (.ref (cS C 88)), some (.int x1), none, none, none] [] := by
  unfold f_X7_isRun at h
  refine z_aload_n hC dX7_isRun_0 rfl rfl ?_
  obtain ⟨r1, u1, c1, h⟩ := mB_some h
  refine z_callI hC kC_X7_isFound kM_X7_226 sh_88 TX7 39 rfl (m_X7_isFound hC.dis u c1) rfl (Nat.le_of_ble_eq_true rfl) (Nat.le_of_ble_eq_true rfl) (Nat.le_of_ble_eq_true rfl) rfl dX7_isRun_1 ?_
  refine z_if_ne hC 9 dX7_isRun_4 (by decide) (fun b2 => ?_) (fun b2 => ?_)
  · rw [if_neg b2] at h
    refine z_iconst (v := 0) hC dX7_isRun_9 (by decide) ?_
    refine y_istore_n hC [some (.ref (cS C 88)), some (.int x1), some (.int 0), none, none] dX7_isRun_10 rfl rfl (Nat.le_of_ble_eq_true rfl) (Nat.le_of_ble_eq_true rfl) rfl ?_
    exact t_X7_isRun_11 hC hE x1 FU 0 u1 h
  · rw [if_pos b2] at h
    refine z_iconst (v := 0) hC dX7_isRun_7 (by decide) ?_
    obtain rfl := Option.some.inj h
    exact z_zret hC hE rfl dX7_isRun_8
theorem m_X7_isRun {l : Launch} {dC : Nat → ClassId} {dI : Nat → Nat → Nat} {dA : Nat → ClassId} {as : Nat → Nat} (hD : mDis as) (x1 : Int32) (u : MU) {r : Int32} {v : MU} (h : f_X7_isRun x1 u = some (r, v)) : mMI l dC dI dA as yX7_isRun cX7_isRun 5 .boolean 9 197 [.ref (as 88), .int x1] u r v := mMIof RX7 [some (.ref (as 88)), some (.int x1), none, none, none] hD (by decide +kernel) rfl (Nat.le_of_ble_eq_true rfl) rfl (fun C e1 e2 e3 e4 e5 hC hE => by subst e5; exact s_X7_isRun_0 hC (res := (r, v)) hE x1 u h)
set_option maxHeartbeats 4000000 in
set_option maxRecDepth 100000 in
theorem s_X7_run_0 {C : mCtx} (hC : mOK cX7_run RX7 3 10 221 C) {res : Int32 × MU} (hE : mEndI C .int res.1 res.2) (x1 : Int32) (x2 : Int32) (u : MU) (h : f_X7_run x1 x2 u = some res) : wat C u 0 [some (.ref (cS C 88)), some (.int x1), some (.int x2)] [] := by
  unfold f_X7_run at h
  refine z_iload_n hC dX7_run_0 rfl rfl ?_
  refine z_i2l hC dX7_run_1 ?_
  refine z_lconst (v := 0) hC dX7_run_2 (by decide) ?_
  refine z_ldc2 hC kN_X7_289 dX7_run_3 ?_
  obtain ⟨r1, u1, c1, h⟩ := mB_some h
  refine z_callSI hC kC_X7_in kM_X7_79 (m_X7_in hC.dis x1.toInt64 0 2 u c1) rfl (Nat.le_of_ble_eq_true rfl) (Nat.le_of_ble_eq_true rfl) (Nat.le_of_ble_eq_true rfl) rfl dX7_run_6 ?_
  refine z_if_eq hC 24 dX7_run_9 (by decide) (fun b2 => ?_) (fun b2 => ?_)
  · rw [if_pos b2] at h
    refine z_bipush (v := (-2)) hC dX7_run_24 (by decide) ?_
    obtain rfl := Option.some.inj h
    exact z_iret hC hE dX7_run_26
  · rw [if_neg b2] at h
    refine z_iload_n hC dX7_run_12 rfl rfl ?_
    refine z_i2l hC dX7_run_13 ?_
    refine z_lconst (v := 0) hC dX7_run_14 (by decide) ?_
    refine z_ldc2 hC kN_X7_291 dX7_run_15 ?_
    obtain ⟨r3, u3, c3, h⟩ := mB_some h
    refine z_callSI hC kC_X7_in kM_X7_79 (m_X7_in hC.dis x2.toInt64 0 19 u1 c3) rfl (Nat.le_of_ble_eq_true rfl) (Nat.le_of_ble_eq_true rfl) (Nat.le_of_ble_eq_true rfl) rfl dX7_run_18 ?_
    refine z_if_ne hC 27 dX7_run_21 (by decide) (fun b4 => ?_) (fun b4 => ?_)
    · rw [if_neg b4] at h
      refine z_aload_n hC dX7_run_27 rfl rfl ?_
      refine z_iload_n hC dX7_run_28 rfl rfl ?_
      obtain ⟨r5, u5, c5, h⟩ := mB_some h
      refine z_callI hC kC_X7_isRun kM_X7_293 sh_88 TX7 39 rfl (m_X7_isRun hC.dis x1 u3 c5) rfl (Nat.le_of_ble_eq_true rfl) (Nat.le_of_ble_eq_true rfl) (Nat.le_of_ble_eq_true rfl) rfl dX7_run_29 ?_
      refine z_if_ne hC 38 dX7_run_32 (by decide) (fun b6 => ?_) (fun b6 => ?_)
      · rw [if_neg b6] at h
        refine z_iload_n hC dX7_run_38 rfl rfl ?_
        refine z_bipush (v := nI 18) hC dX7_run_39 (by decide) ?_
        refine z_icmp_ge hC 53 dX7_run_41 (by decide) (fun b7 => ?_) (fun b7 => ?_)
        · rw [if_pos b7] at h
          refine z_iload_n hC dX7_run_53 rfl rfl ?_
          refine z_bipush (v := nI 18) hC dX7_run_54 (by decide) ?_
          refine z_icmp_ne hC 66 dX7_run_56 (by decide) (fun b8 => ?_) (fun b8 => ?_)
          · rw [if_neg b8] at h
            refine z_aload_n hC dX7_run_66 rfl rfl ?_
            refine z_getI hC kF_X7_280 sh_88 rfl dX7_run_67 ?_
            obtain rfl := Option.some.inj h
            exact z_iret hC hE dX7_run_70
          · rw [if_pos b8] at h
            refine z_aload_n hC dX7_run_59 rfl rfl ?_
            refine z_getI hC kF_X7_277 sh_88 rfl dX7_run_60 ?_
            refine z_goto hC 70 dX7_run_63 (by decide) ?_
            obtain rfl := Option.some.inj h
            exact z_iret hC hE dX7_run_70
        · rw [if_neg b7] at h
          refine z_aload_n hC dX7_run_44 rfl rfl ?_
          refine z_getR hC 99 kF_X7_40 sh_88 rfl dX7_run_45 ?_
          refine z_iload_n hC dX7_run_48 rfl rfl ?_
          obtain ⟨g9, h⟩ := gd_some h
          refine z_iald hC sh_99 g9 dX7_run_49 ?_
          refine z_goto hC 70 dX7_run_50 (by decide) ?_
          obtain rfl := Option.some.inj h
          exact z_iret hC hE dX7_run_70
      · rw [if_pos b6] at h
        refine z_bipush (v := (-3)) hC dX7_run_35 (by decide) ?_
        obtain rfl := Option.some.inj h
        exact z_iret hC hE dX7_run_37
    · rw [if_pos b4] at h
      refine z_bipush (v := (-2)) hC dX7_run_24 (by decide) ?_
      obtain rfl := Option.some.inj h
      exact z_iret hC hE dX7_run_26
theorem m_X7_run {l : Launch} {dC : Nat → ClassId} {dI : Nat → Nat → Nat} {dA : Nat → ClassId} {as : Nat → Nat} (hD : mDis as) (x1 : Int32) (x2 : Int32) (u : MU) {r : Int32} {v : MU} (h : f_X7_run x1 x2 u = some (r, v)) : mMI l dC dI dA as yX7_run cX7_run 3 .int 10 221 [.ref (as 88), .int x1, .int x2] u r v := mMIof RX7 [some (.ref (as 88)), some (.int x1), some (.int x2)] hD (by decide +kernel) rfl (Nat.le_of_ble_eq_true rfl) rfl (fun C e1 e2 e3 e4 e5 hC hE => by subst e5; exact s_X7_run_0 hC (res := (r, v)) hE x1 x2 u h)
set_option maxHeartbeats 4000000 in
set_option maxRecDepth 100000 in
theorem s_X7_thrower_0 {C : mCtx} (hC : mOK cX7_thrower RX7 3 10 221 C) {res : Int32 × MU} (hE : mEndI C .int res.1 res.2) (x1 : Int32) (x2 : Int32) (u : MU) (h : f_X7_thrower x1 x2 u = some res) : wat C u 0 [some (.ref (cS C 88)), some (.int x1), some (.int x2)] [] := by
  unfold f_X7_thrower at h
  refine z_iload_n hC dX7_thrower_0 rfl rfl ?_
  refine z_i2l hC dX7_thrower_1 ?_
  refine z_lconst (v := 0) hC dX7_thrower_2 (by decide) ?_
  refine z_ldc2 hC kN_X7_289 dX7_thrower_3 ?_
  obtain ⟨r1, u1, c1, h⟩ := mB_some h
  refine z_callSI hC kC_X7_in kM_X7_79 (m_X7_in hC.dis x1.toInt64 0 2 u c1) rfl (Nat.le_of_ble_eq_true rfl) (Nat.le_of_ble_eq_true rfl) (Nat.le_of_ble_eq_true rfl) rfl dX7_thrower_6 ?_
  refine z_if_ne hC 15 dX7_thrower_9 (by decide) (fun b2 => ?_) (fun b2 => ?_)
  · rw [if_neg b2] at h
    refine z_aload_n hC dX7_thrower_15 rfl rfl ?_
    refine z_iload_n hC dX7_thrower_16 rfl rfl ?_
    obtain ⟨r3, u3, c3, h⟩ := mB_some h
    refine z_callI hC kC_X7_isRun kM_X7_293 sh_88 TX7 39 rfl (m_X7_isRun hC.dis x1 u1 c3) rfl (Nat.le_of_ble_eq_true rfl) (Nat.le_of_ble_eq_true rfl) (Nat.le_of_ble_eq_true rfl) rfl dX7_thrower_17 ?_
    refine z_if_ne hC 26 dX7_thrower_20 (by decide) (fun b4 => ?_) (fun b4 => ?_)
    · rw [if_neg b4] at h
      refine z_iload_n hC dX7_thrower_26 rfl rfl ?_
      refine z_i2l hC dX7_thrower_27 ?_
      refine z_lconst (v := 0) hC dX7_thrower_28 (by decide) ?_
      refine z_aload_n hC dX7_thrower_29 rfl rfl ?_
      refine z_getI hC kF_X7_277 sh_88 rfl dX7_thrower_30 ?_
      refine z_iconst (v := 1) hC dX7_thrower_33 (by decide) ?_
      refine z_isub hC dX7_thrower_34 ?_
      refine z_i2l hC dX7_thrower_35 ?_
      obtain ⟨r5, u5, c5, h⟩ := mB_some h
      refine z_callSI hC kC_X7_in kM_X7_79 (m_X7_in hC.dis x2.toInt64 0 (((u3 88 33) - 1).toInt64) u3 c5) rfl (Nat.le_of_ble_eq_true rfl) (Nat.le_of_ble_eq_true rfl) (Nat.le_of_ble_eq_true rfl) rfl dX7_thrower_36 ?_
      refine z_if_eq hC 51 dX7_thrower_39 (by decide) (fun b6 => ?_) (fun b6 => ?_)
      · rw [if_pos b6] at h
        refine z_bipush (v := (-6)) hC dX7_thrower_51 (by decide) ?_
        obtain rfl := Option.some.inj h
        exact z_iret hC hE dX7_thrower_53
      · rw [if_neg b6] at h
        refine z_aload_n hC dX7_thrower_42 rfl rfl ?_
        refine z_getR hC 108 kF_X7_67 sh_88 rfl dX7_thrower_43 ?_
        refine z_iload_n hC dX7_thrower_46 rfl rfl ?_
        obtain ⟨g7, h⟩ := gd_some h
        refine z_iald hC sh_108 g7 dX7_thrower_47 ?_
        refine z_goto hC 53 dX7_thrower_48 (by decide) ?_
        obtain rfl := Option.some.inj h
        exact z_iret hC hE dX7_thrower_53
    · rw [if_pos b4] at h
      refine z_bipush (v := (-3)) hC dX7_thrower_23 (by decide) ?_
      obtain rfl := Option.some.inj h
      exact z_iret hC hE dX7_thrower_25
  · rw [if_pos b2] at h
    refine z_bipush (v := (-2)) hC dX7_thrower_12 (by decide) ?_
    obtain rfl := Option.some.inj h
    exact z_iret hC hE dX7_thrower_14
theorem m_X7_thrower {l : Launch} {dC : Nat → ClassId} {dI : Nat → Nat → Nat} {dA : Nat → ClassId} {as : Nat → Nat} (hD : mDis as) (x1 : Int32) (x2 : Int32) (u : MU) {r : Int32} {v : MU} (h : f_X7_thrower x1 x2 u = some (r, v)) : mMI l dC dI dA as yX7_thrower cX7_thrower 3 .int 10 221 [.ref (as 88), .int x1, .int x2] u r v := mMIof RX7 [some (.ref (as 88)), some (.int x1), some (.int x2)] hD (by decide +kernel) rfl (Nat.le_of_ble_eq_true rfl) rfl (fun C e1 e2 e3 e4 e5 hC hE => by subst e5; exact s_X7_thrower_0 hC (res := (r, v)) hE x1 x2 u h)
set_option maxHeartbeats 4000000 in
set_option maxRecDepth 100000 in
theorem s_X7_commit_13 {C : mCtx} (hC : mOK cX7_commit RX7 2 10 221 C) {res : Int32 × MU} (hE : mEndI C .int res.1 res.2) (k13 : Int32 → MU → mR) (hk13 : ∀ (x1 : Int32) (u : MU), k13 x1 u = some res → wat C u 13 [some (.ref (cS C 88)), some (.int x1)] []) (x1 : Int32) (u : MU) (h : b_X7_commit_13 k13 x1 u = some res) : wat C u 13 [some (.ref (cS C 88)), some (.int x1)] [] := by
  unfold b_X7_commit_13 at h
  refine z_iload_n hC dX7_commit_13 rfl rfl ?_
  refine z_bipush (v := nI 18) hC dX7_commit_14 (by decide) ?_
  refine z_icmp_ge hC 37 dX7_commit_16 (by decide) (fun b1 => ?_) (fun b1 => ?_)
  · rw [if_pos b1] at h
    refine z_aload_n hC dX7_commit_37 rfl rfl ?_
    refine z_iconst (v := 0) hC dX7_commit_38 (by decide) ?_
    obtain ⟨u2, e2, h⟩ := mS_some h
    refine y_putI hC kP_X7_203 sh_88 rfl dX7_commit_39 e2 ?_
    refine z_aload_n hC dX7_commit_42 rfl rfl ?_
    refine z_getI hC kF_X7_277 sh_88 rfl dX7_commit_43 ?_
    obtain rfl := Option.some.inj h
    exact z_iret hC hE dX7_commit_46
  · rw [if_neg b1] at h
    refine z_aload_n hC dX7_commit_19 rfl rfl ?_
    refine z_getR hC 91 kF_X7_16 sh_88 rfl dX7_commit_20 ?_
    refine z_iload_n hC dX7_commit_23 rfl rfl ?_
    refine z_aload_n hC dX7_commit_24 rfl rfl ?_
    refine z_getR hC 99 kF_X7_40 sh_88 rfl dX7_commit_25 ?_
    refine z_iload_n hC dX7_commit_28 rfl rfl ?_
    obtain ⟨g3, h⟩ := gd_some h
    refine z_iald hC sh_99 g3 dX7_commit_29 ?_
    obtain ⟨g4, h⟩ := gd_some h
    obtain ⟨u5, e5, h⟩ := mS_some h
    refine y_iast hC sh_91 g4 dX7_commit_30 e5 ?_
    refine y_iinc hC (x1 + 1) [some (.ref (cS C 88)), some (.int (x1 + 1))] dX7_commit_31 rfl rfl rfl (Nat.le_of_ble_eq_true rfl) rfl ?_
    refine z_goto hC 13 dX7_commit_34 (by decide) ?_
    exact hk13 (x1 + 1) u5 h
set_option maxHeartbeats 4000000 in
set_option maxRecDepth 100000 in
theorem t_X7_commit_13 {C : mCtx} (hC : mOK cX7_commit RX7 2 10 221 C) {res : Int32 × MU} (hE : mEndI C .int res.1 res.2) : ∀ (n : Nat) (x1 : Int32) (u : MU), l_X7_commit_13 n x1 u = some res → wat C u 13 [some (.ref (cS C 88)), some (.int x1)] [] := by
  intro n
  induction n with
  | zero => intro x1 u h; exact absurd h (by simp [l_X7_commit_13])
  | succ n ih =>
    intro x1 u h
    exact s_X7_commit_13 hC hE (fun x1 u => l_X7_commit_13 n x1 u) ih x1 u h
set_option maxHeartbeats 4000000 in
set_option maxRecDepth 100000 in
theorem s_X7_commit_0 {C : mCtx} (hC : mOK cX7_commit RX7 2 10 221 C) {res : Int32 × MU} (hE : mEndI C .int res.1 res.2) (u : MU) (h : f_X7_commit u = some res) : wat C u 0 [some (.ref (cS C 88)), none] [] := by
  unfold f_X7_commit at h
  refine z_aload_n hC dX7_commit_0 rfl rfl ?_
  refine z_iconst (v := 0) hC dX7_commit_1 (by decide) ?_
  obtain ⟨r1, u1, c1, h⟩ := mB_some h
  refine z_callI hC kC_X7_isRun kM_X7_293 sh_88 TX7 39 rfl (m_X7_isRun hC.dis 0 u c1) rfl (Nat.le_of_ble_eq_true rfl) (Nat.le_of_ble_eq_true rfl) (Nat.le_of_ble_eq_true rfl) rfl dX7_commit_2 ?_
  refine z_if_ne hC 11 dX7_commit_5 (by decide) (fun b2 => ?_) (fun b2 => ?_)
  · rw [if_neg b2] at h
    refine z_iconst (v := 0) hC dX7_commit_11 (by decide) ?_
    refine y_istore_n hC [some (.ref (cS C 88)), some (.int 0)] dX7_commit_12 rfl rfl (Nat.le_of_ble_eq_true rfl) (Nat.le_of_ble_eq_true rfl) rfl ?_
    exact t_X7_commit_13 hC hE FU 0 u1 h
  · rw [if_pos b2] at h
    refine z_bipush (v := (-3)) hC dX7_commit_8 (by decide) ?_
    obtain rfl := Option.some.inj h
    exact z_iret hC hE dX7_commit_10
theorem m_X7_commit {l : Launch} {dC : Nat → ClassId} {dI : Nat → Nat → Nat} {dA : Nat → ClassId} {as : Nat → Nat} (hD : mDis as) (u : MU) {r : Int32} {v : MU} (h : f_X7_commit u = some (r, v)) : mMI l dC dI dA as yX7_commit cX7_commit 2 .int 10 221 [.ref (as 88)] u r v := mMIof RX7 [some (.ref (as 88)), none] hD (by decide +kernel) rfl (Nat.le_of_ble_eq_true rfl) rfl (fun C e1 e2 e3 e4 e5 hC hE => by subst e5; exact s_X7_commit_0 hC (res := (r, v)) hE u h)
set_option maxHeartbeats 4000000 in
set_option maxRecDepth 100000 in
theorem s_X7_passRow_31 {C : mCtx} (hC : mOK cX7_passRow RX7 4 0 0 C) {res : Int32 × MU} (hE : mEndV C res.2) (q1 : Nat) (hq1 : okI q1) (x2 : Int32) (k2 : Int32 → MU → mR) (hk2 : ∀ (x3 : Int32) (u : MU), k2 x3 u = some res → wat C u 2 [some (.ref (cS C 88)), some (.ref (cS C q1)), some (.int x2), some (.int x3)] []) (x3 : Int32) (s2 : Int32) (s1 : Int32) (u : MU) (h : b_X7_passRow_31 k2 q1 x2 x3 s2 s1 u = some res) : wat C u 31 [some (.ref (cS C 88)), some (.ref (cS C q1)), some (.int x2), some (.int x3)] [(.int s2), (.int s1), (.ref (cS C q1))] := by
  unfold b_X7_passRow_31 at h
  obtain ⟨g1, h⟩ := gd_some h
  obtain ⟨u2, e2, h⟩ := mS_some h
  refine y_iast hC hq1 g1 dX7_passRow_31 e2 ?_
  refine z_aload_n hC dX7_passRow_32 rfl rfl ?_
  refine z_getR hC 109 kF_X7_70 sh_88 rfl dX7_passRow_33 ?_
  refine z_aload_n hC dX7_passRow_36 rfl rfl ?_
  refine z_getI hC kF_X7_299 sh_88 rfl dX7_passRow_37 ?_
  refine z_aload_n hC dX7_passRow_40 rfl rfl ?_
  refine z_iload_n hC dX7_passRow_41 rfl rfl ?_
  obtain ⟨g3, h⟩ := gd_some h
  refine z_iald hC hq1 g3 dX7_passRow_42 ?_
  obtain ⟨g4, h⟩ := gd_some h
  obtain ⟨u5, e5, h⟩ := mS_some h
  refine y_iast hC sh_109 g4 dX7_passRow_43 e5 ?_
  refine z_aload_n hC dX7_passRow_44 rfl rfl ?_
  refine z_dup hC dX7_passRow_45 rfl ?_
  refine z_getI hC kF_X7_299 sh_88 rfl dX7_passRow_46 ?_
  refine z_iconst (v := 1) hC dX7_passRow_49 (by decide) ?_
  refine z_iadd hC dX7_passRow_50 ?_
  obtain ⟨u6, e6, h⟩ := mS_some h
  refine y_putI hC kP_X7_299 sh_88 rfl dX7_passRow_51 e6 ?_
  refine y_iinc hC (x3 + 1) [some (.ref (cS C 88)), some (.ref (cS C q1)), some (.int x2), some (.int (x3 + 1))] dX7_passRow_54 rfl rfl rfl (Nat.le_of_ble_eq_true rfl) rfl ?_
  refine z_goto hC 2 dX7_passRow_57 (by decide) ?_
  exact hk2 (x3 + 1) u6 h
set_option maxHeartbeats 4000000 in
set_option maxRecDepth 100000 in
theorem s_X7_passRow_2 {C : mCtx} (hC : mOK cX7_passRow RX7 4 0 0 C) {res : Int32 × MU} (hE : mEndV C res.2) (q1 : Nat) (hq1 : okI q1) (x2 : Int32) (k2 : Int32 → MU → mR) (hk2 : ∀ (x3 : Int32) (u : MU), k2 x3 u = some res → wat C u 2 [some (.ref (cS C 88)), some (.ref (cS C q1)), some (.int x2), some (.int x3)] []) (x3 : Int32) (u : MU) (h : b_X7_passRow_2 k2 q1 x2 x3 u = some res) : wat C u 2 [some (.ref (cS C 88)), some (.ref (cS C q1)), some (.int x2), some (.int x3)] [] := by
  unfold b_X7_passRow_2 at h
  refine z_iload_n hC dX7_passRow_2 rfl rfl ?_
  refine z_iload_n hC dX7_passRow_3 rfl rfl ?_
  refine z_icmp_ge hC 60 dX7_passRow_4 (by decide) (fun b1 => ?_) (fun b1 => ?_)
  · rw [if_pos b1] at h
    obtain rfl := Option.some.inj h
    exact z_vret hC hE dX7_passRow_60
  · rw [if_neg b1] at h
    refine z_aload_n hC dX7_passRow_7 rfl rfl ?_
    refine z_iload_n hC dX7_passRow_8 rfl rfl ?_
    refine z_aload_n hC dX7_passRow_9 rfl rfl ?_
    refine z_getI hC kF_X7_296 sh_88 rfl dX7_passRow_10 ?_
    refine z_if_eq hC 22 dX7_passRow_13 (by decide) (fun b2 => ?_) (fun b2 => ?_)
    · rw [if_pos b2] at h
      refine z_aload_n hC dX7_passRow_22 rfl rfl ?_
      refine z_getR hC 109 kF_X7_70 sh_88 rfl dX7_passRow_23 ?_
      refine z_aload_n hC dX7_passRow_26 rfl rfl ?_
      refine z_getI hC kF_X7_299 sh_88 rfl dX7_passRow_27 ?_
      obtain ⟨g3, h⟩ := gd_some h
      refine z_iald hC sh_109 g3 dX7_passRow_30 ?_
      exact s_X7_passRow_31 hC hE q1 hq1 x2 k2 hk2 x3 (u 109 (u 88 37).toNatClampNeg) x3 u h
    · rw [if_neg b2] at h
      refine z_aload_n hC dX7_passRow_16 rfl rfl ?_
      refine z_iload_n hC dX7_passRow_17 rfl rfl ?_
      obtain ⟨g4, h⟩ := gd_some h
      refine z_iald hC hq1 g4 dX7_passRow_18 ?_
      refine z_goto hC 31 dX7_passRow_19 (by decide) ?_
      exact s_X7_passRow_31 hC hE q1 hq1 x2 k2 hk2 x3 (u q1 x3.toNatClampNeg) x3 u h
set_option maxHeartbeats 4000000 in
set_option maxRecDepth 100000 in
theorem t_X7_passRow_2 {C : mCtx} (hC : mOK cX7_passRow RX7 4 0 0 C) {res : Int32 × MU} (hE : mEndV C res.2) (q1 : Nat) (hq1 : okI q1) (x2 : Int32) : ∀ (n : Nat) (x3 : Int32) (u : MU), l_X7_passRow_2 q1 x2 n x3 u = some res → wat C u 2 [some (.ref (cS C 88)), some (.ref (cS C q1)), some (.int x2), some (.int x3)] [] := by
  intro n
  induction n with
  | zero => intro x3 u h; exact absurd h (by simp [l_X7_passRow_2])
  | succ n ih =>
    intro x3 u h
    exact s_X7_passRow_2 hC hE q1 hq1 x2 (fun x3 u => l_X7_passRow_2 q1 x2 n x3 u) ih x3 u h
set_option maxHeartbeats 4000000 in
set_option maxRecDepth 100000 in
theorem s_X7_passRow_0 {C : mCtx} (hC : mOK cX7_passRow RX7 4 0 0 C) {res : Int32 × MU} (hE : mEndV C res.2) (q1 : Nat) (hq1 : okI q1) (x2 : Int32) (u : MU) (h : f_X7_passRow q1 x2 u = some res) : wat C u 0 [some (.ref (cS C 88)), some (.ref (cS C q1)), some (.int x2), none] [] := by
  unfold f_X7_passRow at h
  refine z_iconst (v := 0) hC dX7_passRow_0 (by decide) ?_
  refine y_istore_n hC [some (.ref (cS C 88)), some (.ref (cS C q1)), some (.int x2), some (.int 0)] dX7_passRow_1 rfl rfl (Nat.le_of_ble_eq_true rfl) (Nat.le_of_ble_eq_true rfl) rfl ?_
  exact t_X7_passRow_2 hC hE q1 hq1 x2 FU 0 u h
theorem m_X7_passRow {l : Launch} {dC : Nat → ClassId} {dI : Nat → Nat → Nat} {dA : Nat → ClassId} {as : Nat → Nat} (hD : mDis as) (q1 : Nat) (hq1 : okI q1) (x2 : Int32) (u : MU) {r : Int32} {v : MU} (h : f_X7_passRow q1 x2 u = some (r, v)) : mMV l dC dI dA as yX7_passRow cX7_passRow 4 0 0 [.ref (as 88), .ref (as q1), .int x2] u v := mMVof RX7 [some (.ref (as 88)), some (.ref (as q1)), some (.int x2), none] hD (by decide +kernel) rfl (Nat.le_of_ble_eq_true rfl) rfl (fun C e1 e2 e3 e4 e5 hC hE => by subst e5; exact s_X7_passRow_0 hC (res := (r, v)) hE q1 hq1 x2 u h)
set_option maxHeartbeats 4000000 in
set_option maxRecDepth 100000 in
theorem s_X7_passAll_54 {C : mCtx} (hC : mOK cX7_passAll RX7 1 1 23 C) {res : Int32 × MU} (hE : mEndV C res.2) (s1 : Int32) (u : MU) (h : b_X7_passAll_54 s1 u = some res) : wat C u 54 [some (.ref (cS C 88))] [(.int s1), (.ref (cS C 88))] := by
  unfold b_X7_passAll_54 at h
  obtain ⟨u1, e1, h⟩ := mS_some h
  refine y_putI hC kP_X7_203 sh_88 rfl dX7_passAll_54 e1 ?_
  refine z_aload_n hC dX7_passAll_57 rfl rfl ?_
  refine z_getR hC 109 kF_X7_70 sh_88 rfl dX7_passAll_58 ?_
  refine z_aload_n hC dX7_passAll_61 rfl rfl ?_
  refine z_getI hC kF_X7_299 sh_88 rfl dX7_passAll_62 ?_
  refine z_aload_n hC dX7_passAll_65 rfl rfl ?_
  refine z_getI hC kF_X7_203 sh_88 rfl dX7_passAll_66 ?_
  obtain ⟨g2, h⟩ := gd_some h
  obtain ⟨u3, e3, h⟩ := mS_some h
  refine y_iast hC sh_109 g2 dX7_passAll_69 e3 ?_
  obtain rfl := Option.some.inj h
  exact z_vret hC hE dX7_passAll_70
set_option maxHeartbeats 4000000 in
set_option maxRecDepth 100000 in
theorem s_X7_passAll_0 {C : mCtx} (hC : mOK cX7_passAll RX7 1 1 23 C) {res : Int32 × MU} (hE : mEndV C res.2) (u : MU) (h : f_X7_passAll u = some res) : wat C u 0 [some (.ref (cS C 88))] [] := by
  unfold f_X7_passAll at h
  refine z_aload_n hC dX7_passAll_0 rfl rfl ?_
  refine z_aload_n hC dX7_passAll_1 rfl rfl ?_
  refine z_getR hC 91 kF_X7_16 sh_88 rfl dX7_passAll_2 ?_
  refine z_bipush (v := nI 18) hC dX7_passAll_5 (by decide) ?_
  obtain ⟨r1, u1, c1, h⟩ := mB_some h
  refine z_callV hC kC_X7_passRow kM_X7_302 sh_88 TX7 39 rfl (m_X7_passRow hC.dis 91 sh_91 (nI 18) u c1) rfl (Nat.le_of_ble_eq_true rfl) (Nat.le_of_ble_eq_true rfl) (Nat.le_of_ble_eq_true rfl) rfl dX7_passAll_7 ?_
  refine z_aload_n hC dX7_passAll_10 rfl rfl ?_
  refine z_aload_n hC dX7_passAll_11 rfl rfl ?_
  refine z_getR hC 92 kF_X7_19 sh_88 rfl dX7_passAll_12 ?_
  refine z_bipush (v := nI 16) hC dX7_passAll_15 (by decide) ?_
  obtain ⟨r2, u2, c2, h⟩ := mB_some h
  refine z_callV hC kC_X7_passRow kM_X7_302 sh_88 TX7 39 rfl (m_X7_passRow hC.dis 92 sh_92 (nI 16) u1 c2) rfl (Nat.le_of_ble_eq_true rfl) (Nat.le_of_ble_eq_true rfl) (Nat.le_of_ble_eq_true rfl) rfl dX7_passAll_17 ?_
  refine z_aload_n hC dX7_passAll_20 rfl rfl ?_
  refine z_aload_n hC dX7_passAll_21 rfl rfl ?_
  refine z_getR hC 93 kF_X7_22 sh_88 rfl dX7_passAll_22 ?_
  refine z_bipush (v := nI 16) hC dX7_passAll_25 (by decide) ?_
  obtain ⟨r3, u3, c3, h⟩ := mB_some h
  refine z_callV hC kC_X7_passRow kM_X7_302 sh_88 TX7 39 rfl (m_X7_passRow hC.dis 93 sh_93 (nI 16) u2 c3) rfl (Nat.le_of_ble_eq_true rfl) (Nat.le_of_ble_eq_true rfl) (Nat.le_of_ble_eq_true rfl) rfl dX7_passAll_27 ?_
  refine z_aload_n hC dX7_passAll_30 rfl rfl ?_
  refine z_aload_n hC dX7_passAll_31 rfl rfl ?_
  refine z_getI hC kF_X7_296 sh_88 rfl dX7_passAll_32 ?_
  refine z_if_eq hC 45 dX7_passAll_35 (by decide) (fun b4 => ?_) (fun b4 => ?_)
  · rw [if_pos b4] at h
    refine z_aload_n hC dX7_passAll_45 rfl rfl ?_
    refine z_getR hC 109 kF_X7_70 sh_88 rfl dX7_passAll_46 ?_
    refine z_aload_n hC dX7_passAll_49 rfl rfl ?_
    refine z_getI hC kF_X7_299 sh_88 rfl dX7_passAll_50 ?_
    obtain ⟨g5, h⟩ := gd_some h
    refine z_iald hC sh_109 g5 dX7_passAll_53 ?_
    exact s_X7_passAll_54 hC hE (u3 109 (u3 88 37).toNatClampNeg) u3 h
  · rw [if_neg b4] at h
    refine z_aload_n hC dX7_passAll_38 rfl rfl ?_
    refine z_getI hC kF_X7_203 sh_88 rfl dX7_passAll_39 ?_
    refine z_goto hC 54 dX7_passAll_42 (by decide) ?_
    exact s_X7_passAll_54 hC hE (u3 88 5) u3 h
theorem m_X7_passAll {l : Launch} {dC : Nat → ClassId} {dI : Nat → Nat → Nat} {dA : Nat → ClassId} {as : Nat → Nat} (hD : mDis as) (u : MU) {r : Int32} {v : MU} (h : f_X7_passAll u = some (r, v)) : mMV l dC dI dA as yX7_passAll cX7_passAll 1 1 23 [.ref (as 88)] u v := mMVof RX7 [some (.ref (as 88))] hD (by decide +kernel) rfl (Nat.le_of_ble_eq_true rfl) rfl (fun C e1 e2 e3 e4 e5 hC hE => by subst e5; exact s_X7_passAll_0 hC (res := (r, v)) hE u h)
set_option maxHeartbeats 4000000 in
set_option maxRecDepth 100000 in
theorem s_X7_image_0 {C : mCtx} (hC : mOK cX7_image RX7 2 2 43 C) {res : Int32 × MU} (hE : mEndI C .int res.1 res.2) (x1 : Int32) (u : MU) (h : f_X7_image x1 u = some res) : wat C u 0 [some (.ref (cS C 88)), some (.int x1)] [] := by
  unfold f_X7_image at h
  refine z_iload_n hC dX7_image_0 rfl rfl ?_
  refine z_i2l hC dX7_image_1 ?_
  refine z_lconst (v := 0) hC dX7_image_2 (by decide) ?_
  refine z_lconst (v := 1) hC dX7_image_3 (by decide) ?_
  obtain ⟨r1, u1, c1, h⟩ := mB_some h
  refine z_callSI hC kC_X7_in kM_X7_79 (m_X7_in hC.dis x1.toInt64 0 1 u c1) rfl (Nat.le_of_ble_eq_true rfl) (Nat.le_of_ble_eq_true rfl) (Nat.le_of_ble_eq_true rfl) rfl dX7_image_4 ?_
  refine z_if_ne hC 13 dX7_image_7 (by decide) (fun b2 => ?_) (fun b2 => ?_)
  · rw [if_neg b2] at h
    refine z_aload_n hC dX7_image_13 rfl rfl ?_
    refine z_bipush (v := nI 51) hC dX7_image_14 (by decide) ?_
    refine z_iload_n hC dX7_image_16 rfl rfl ?_
    refine z_imul hC dX7_image_17 ?_
    obtain ⟨u3, e3, h⟩ := mS_some h
    refine y_putI hC kP_X7_299 sh_88 rfl dX7_image_18 e3 ?_
    refine z_aload_n hC dX7_image_21 rfl rfl ?_
    refine z_iconst (v := 1) hC dX7_image_22 (by decide) ?_
    obtain ⟨u4, e4, h⟩ := mS_some h
    refine y_putZ hC rfl kP_X7_296 sh_88 rfl dX7_image_23 e4 ?_
    refine z_aload_n hC dX7_image_26 rfl rfl ?_
    obtain ⟨r5, u5, c5, h⟩ := mB_some h
    refine z_callV hC kC_X7_passAll kM_X7_305 sh_88 TX7 39 rfl (m_X7_passAll hC.dis u4 c5) rfl (Nat.le_of_ble_eq_true rfl) (Nat.le_of_ble_eq_true rfl) (Nat.le_of_ble_eq_true rfl) rfl dX7_image_27 ?_
    refine z_aload_n hC dX7_image_30 rfl rfl ?_
    refine z_getR hC 110 kF_X7_73 sh_88 rfl dX7_image_31 ?_
    refine z_iload_n hC dX7_image_34 rfl rfl ?_
    refine z_iconst (v := 1) hC dX7_image_35 (by decide) ?_
    obtain ⟨g6, h⟩ := gd_some h
    obtain ⟨u7, e7, h⟩ := mS_some h
    refine y_zast hC rfl sh_110 g6 dX7_image_36 e7 ?_
    refine z_iconst (v := 1) hC dX7_image_37 (by decide) ?_
    obtain rfl := Option.some.inj h
    exact z_iret hC hE dX7_image_38
  · rw [if_pos b2] at h
    refine z_bipush (v := (-2)) hC dX7_image_10 (by decide) ?_
    obtain rfl := Option.some.inj h
    exact z_iret hC hE dX7_image_12
theorem m_X7_image {l : Launch} {dC : Nat → ClassId} {dI : Nat → Nat → Nat} {dA : Nat → ClassId} {as : Nat → Nat} (hD : mDis as) (x1 : Int32) (u : MU) {r : Int32} {v : MU} (h : f_X7_image x1 u = some (r, v)) : mMI l dC dI dA as yX7_image cX7_image 2 .int 2 43 [.ref (as 88), .int x1] u r v := mMIof RX7 [some (.ref (as 88)), some (.int x1)] hD (by decide +kernel) rfl (Nat.le_of_ble_eq_true rfl) rfl (fun C e1 e2 e3 e4 e5 hC hE => by subst e5; exact s_X7_image_0 hC (res := (r, v)) hE x1 u h)
set_option maxHeartbeats 4000000 in
set_option maxRecDepth 100000 in
theorem s_X7_restore_0 {C : mCtx} (hC : mOK cX7_restore RX7 2 2 43 C) {res : Int32 × MU} (hE : mEndI C .int res.1 res.2) (x1 : Int32) (u : MU) (h : f_X7_restore x1 u = some res) : wat C u 0 [some (.ref (cS C 88)), some (.int x1)] [] := by
  unfold f_X7_restore at h
  refine z_iload_n hC dX7_restore_0 rfl rfl ?_
  refine z_i2l hC dX7_restore_1 ?_
  refine z_lconst (v := 0) hC dX7_restore_2 (by decide) ?_
  refine z_lconst (v := 1) hC dX7_restore_3 (by decide) ?_
  obtain ⟨r1, u1, c1, h⟩ := mB_some h
  refine z_callSI hC kC_X7_in kM_X7_79 (m_X7_in hC.dis x1.toInt64 0 1 u c1) rfl (Nat.le_of_ble_eq_true rfl) (Nat.le_of_ble_eq_true rfl) (Nat.le_of_ble_eq_true rfl) rfl dX7_restore_4 ?_
  refine z_if_ne hC 13 dX7_restore_7 (by decide) (fun b2 => ?_) (fun b2 => ?_)
  · rw [if_neg b2] at h
    refine z_aload_n hC dX7_restore_13 rfl rfl ?_
    refine z_getR hC 110 kF_X7_73 sh_88 rfl dX7_restore_14 ?_
    refine z_iload_n hC dX7_restore_17 rfl rfl ?_
    obtain ⟨g3, h⟩ := gd_some h
    refine z_zald hC sh_110 g3 dX7_restore_18 ?_
    refine z_if_ne hC 25 dX7_restore_19 (by decide) (fun b4 => ?_) (fun b4 => ?_)
    · rw [if_neg b4] at h
      refine z_aload_n hC dX7_restore_25 rfl rfl ?_
      refine z_bipush (v := nI 51) hC dX7_restore_26 (by decide) ?_
      refine z_iload_n hC dX7_restore_28 rfl rfl ?_
      refine z_imul hC dX7_restore_29 ?_
      obtain ⟨u5, e5, h⟩ := mS_some h
      refine y_putI hC kP_X7_299 sh_88 rfl dX7_restore_30 e5 ?_
      refine z_aload_n hC dX7_restore_33 rfl rfl ?_
      refine z_iconst (v := 0) hC dX7_restore_34 (by decide) ?_
      obtain ⟨u6, e6, h⟩ := mS_some h
      refine y_putZ hC rfl kP_X7_296 sh_88 rfl dX7_restore_35 e6 ?_
      refine z_aload_n hC dX7_restore_38 rfl rfl ?_
      obtain ⟨r7, u7, c7, h⟩ := mB_some h
      refine z_callV hC kC_X7_passAll kM_X7_305 sh_88 TX7 39 rfl (m_X7_passAll hC.dis u6 c7) rfl (Nat.le_of_ble_eq_true rfl) (Nat.le_of_ble_eq_true rfl) (Nat.le_of_ble_eq_true rfl) rfl dX7_restore_39 ?_
      refine z_iconst (v := 1) hC dX7_restore_42 (by decide) ?_
      obtain rfl := Option.some.inj h
      exact z_iret hC hE dX7_restore_43
    · rw [if_pos b4] at h
      refine z_bipush (v := (-3)) hC dX7_restore_22 (by decide) ?_
      obtain rfl := Option.some.inj h
      exact z_iret hC hE dX7_restore_24
  · rw [if_pos b2] at h
    refine z_bipush (v := (-2)) hC dX7_restore_10 (by decide) ?_
    obtain rfl := Option.some.inj h
    exact z_iret hC hE dX7_restore_12
theorem m_X7_restore {l : Launch} {dC : Nat → ClassId} {dI : Nat → Nat → Nat} {dA : Nat → ClassId} {as : Nat → Nat} (hD : mDis as) (x1 : Int32) (u : MU) {r : Int32} {v : MU} (h : f_X7_restore x1 u = some (r, v)) : mMI l dC dI dA as yX7_restore cX7_restore 2 .int 2 43 [.ref (as 88), .int x1] u r v := mMIof RX7 [some (.ref (as 88)), some (.int x1)] hD (by decide +kernel) rfl (Nat.le_of_ble_eq_true rfl) rfl (fun C e1 e2 e3 e4 e5 hC hE => by subst e5; exact s_X7_restore_0 hC (res := (r, v)) hE x1 u h)
set_option maxHeartbeats 4000000 in
set_option maxRecDepth 100000 in
theorem s_X7_statementsOf_7 {C : mCtx} (hC : mOK cX7_statementsOf RX7 3 5 111 C) {res : Int32 × MU} (hE : mEndI C .int res.1 res.2) (k7 : Int32 → MU → mR) (hk7 : ∀ (x2 : Int32) (u : MU), k7 x2 u = some res → wat C u 7 [some (.ref (cS C 88)), none, some (.int x2)] []) (x2 : Int32) (u : MU) (h : b_X7_statementsOf_7 k7 x2 u = some res) : wat C u 7 [some (.ref (cS C 88)), none, some (.int x2)] [] := by
  unfold b_X7_statementsOf_7 at h
  refine z_aload_n hC dX7_statementsOf_7 rfl rfl ?_
  obtain ⟨r1, u1, c1, h⟩ := mB_some h
  refine z_callI hC kC_X7_isMore kM_X7_153 sh_88 TX7 39 rfl (m_X7_isMore hC.dis u c1) rfl (Nat.le_of_ble_eq_true rfl) (Nat.le_of_ble_eq_true rfl) (Nat.le_of_ble_eq_true rfl) rfl dX7_statementsOf_8 ?_
  refine z_if_eq hC 31 dX7_statementsOf_11 (by decide) (fun b2 => ?_) (fun b2 => ?_)
  · rw [if_pos b2] at h
    refine z_iload_n hC dX7_statementsOf_31 rfl rfl ?_
    obtain rfl := Option.some.inj h
    exact z_iret hC hE dX7_statementsOf_32
  · rw [if_neg b2] at h
    refine z_aload_n hC dX7_statementsOf_14 rfl rfl ?_
    refine z_iconst (v := 0) hC dX7_statementsOf_15 (by decide) ?_
    obtain ⟨r3, u3, c3, h⟩ := mB_some h
    refine z_callI hC kC_X7_statement kM_X7_156 sh_88 TX7 39 rfl (m_X7_statement hC.dis 0 u1 c3) rfl (Nat.le_of_ble_eq_true rfl) (Nat.le_of_ble_eq_true rfl) (Nat.le_of_ble_eq_true rfl) rfl dX7_statementsOf_16 ?_
    refine z_if_ne hC 25 dX7_statementsOf_19 (by decide) (fun b4 => ?_) (fun b4 => ?_)
    · rw [if_neg b4] at h
      refine y_iinc hC (x2 + 1) [some (.ref (cS C 88)), none, some (.int (x2 + 1))] dX7_statementsOf_25 rfl rfl rfl (Nat.le_of_ble_eq_true rfl) rfl ?_
      refine z_goto hC 7 dX7_statementsOf_28 (by decide) ?_
      exact hk7 (x2 + 1) u3 h
    · rw [if_pos b4] at h
      refine z_bipush (v := (-6)) hC dX7_statementsOf_22 (by decide) ?_
      obtain rfl := Option.some.inj h
      exact z_iret hC hE dX7_statementsOf_24
set_option maxHeartbeats 4000000 in
set_option maxRecDepth 100000 in
theorem t_X7_statementsOf_7 {C : mCtx} (hC : mOK cX7_statementsOf RX7 3 5 111 C) {res : Int32 × MU} (hE : mEndI C .int res.1 res.2) : ∀ (n : Nat) (x2 : Int32) (u : MU), l_X7_statementsOf_7 n x2 u = some res → wat C u 7 [some (.ref (cS C 88)), none, some (.int x2)] [] := by
  intro n
  induction n with
  | zero => intro x2 u h; exact absurd h (by simp [l_X7_statementsOf_7])
  | succ n ih =>
    intro x2 u h
    exact s_X7_statementsOf_7 hC hE (fun x2 u => l_X7_statementsOf_7 n x2 u) ih x2 u h
set_option maxHeartbeats 4000000 in
set_option maxRecDepth 100000 in
theorem s_X7_statementsOf_0 {C : mCtx} (hC : mOK cX7_statementsOf RX7 3 5 111 C) {res : Int32 × MU} (hE : mEndI C .int res.1 res.2) (x1 : Int32) (u : MU) (h : f_X7_statementsOf x1 u = some res) : wat C u 0 [some (.ref (cS C 88)), some (.int x1), none] [] := by
  unfold f_X7_statementsOf at h
  refine z_iconst (v := 0) hC dX7_statementsOf_0 (by decide) ?_
  refine y_istore_n hC [some (.ref (cS C 88)), some (.int x1), some (.int 0)] dX7_statementsOf_1 rfl rfl (Nat.le_of_ble_eq_true rfl) (Nat.le_of_ble_eq_true rfl) rfl ?_
  refine z_aload_n hC dX7_statementsOf_2 rfl rfl ?_
  refine z_iload_n hC dX7_statementsOf_3 rfl rfl ?_
  obtain ⟨r1, u1, c1, h⟩ := mB_some h
  refine z_callV hC kC_X7_begin kM_X7_149 sh_88 TX7 39 rfl (m_X7_begin hC.dis x1 u c1) rfl (Nat.le_of_ble_eq_true rfl) (Nat.le_of_ble_eq_true rfl) (Nat.le_of_ble_eq_true rfl) rfl dX7_statementsOf_4 ?_
  refine z_mask [true, false, true] ?_
  exact t_X7_statementsOf_7 hC hE FU 0 u1 h
theorem m_X7_statementsOf {l : Launch} {dC : Nat → ClassId} {dI : Nat → Nat → Nat} {dA : Nat → ClassId} {as : Nat → Nat} (hD : mDis as) (x1 : Int32) (u : MU) {r : Int32} {v : MU} (h : f_X7_statementsOf x1 u = some (r, v)) : mMI l dC dI dA as yX7_statementsOf cX7_statementsOf 3 .int 5 111 [.ref (as 88), .int x1] u r v := mMIof RX7 [some (.ref (as 88)), some (.int x1), none] hD (by decide +kernel) rfl (Nat.le_of_ble_eq_true rfl) rfl (fun C e1 e2 e3 e4 e5 hC hE => by subst e5; exact s_X7_statementsOf_0 hC (res := (r, v)) hE x1 u h)
set_option maxHeartbeats 4000000 in
set_option maxRecDepth 100000 in
theorem s_X7_count_0 {C : mCtx} (hC : mOK cX7_count RX7 3 6 133 C) {res : Int32 × MU} (hE : mEndI C .int res.1 res.2) (x1 : Int32) (u : MU) (h : f_X7_count x1 u = some res) : wat C u 0 [some (.ref (cS C 88)), some (.int x1), none] [] := by
  unfold f_X7_count at h
  refine z_iload_n hC dX7_count_0 rfl rfl ?_
  refine z_if_ne hC 9 dX7_count_1 (by decide) (fun b1 => ?_) (fun b1 => ?_)
  · rw [if_neg b1] at h
    refine z_iload_n hC dX7_count_9 rfl rfl ?_
    refine z_i2l hC dX7_count_10 ?_
    refine z_ldc2 hC kN_X7_308 dX7_count_11 ?_
    refine z_ldc2 hC kN_X7_310 dX7_count_14 ?_
    obtain ⟨r2, u2, c2, h⟩ := mB_some h
    refine z_callSI hC kC_X7_in kM_X7_79 (m_X7_in hC.dis x1.toInt64 10 35 u c2) rfl (Nat.le_of_ble_eq_true rfl) (Nat.le_of_ble_eq_true rfl) (Nat.le_of_ble_eq_true rfl) rfl dX7_count_17 ?_
    refine z_if_eq hC 33 dX7_count_20 (by decide) (fun b3 => ?_) (fun b3 => ?_)
    · rw [if_pos b3] at h
      refine z_bipush (v := (-2)) hC dX7_count_33 (by decide) ?_
      obtain rfl := Option.some.inj h
      exact z_iret hC hE dX7_count_35
    · rw [if_neg b3] at h
      refine z_iload_n hC dX7_count_23 rfl rfl ?_
      refine z_bipush (v := nI 10) hC dX7_count_24 (by decide) ?_
      refine y_irem hC dX7_count_26 (by decide) ?_
      obtain ⟨r4, u4, c4, h⟩ := mB_some h
      refine z_callSI hC kC_X7_isRoutine kM_X7_87 (m_X7_isRoutine hC.dis (irm x1 (nI 10)) u2 c4) rfl (Nat.le_of_ble_eq_true rfl) (Nat.le_of_ble_eq_true rfl) (Nat.le_of_ble_eq_true rfl) rfl dX7_count_27 ?_
      refine z_if_ne hC 36 dX7_count_30 (by decide) (fun b5 => ?_) (fun b5 => ?_)
      · rw [if_neg b5] at h
        refine z_iload_n hC dX7_count_36 rfl rfl ?_
        refine z_bipush (v := nI 10) hC dX7_count_37 (by decide) ?_
        refine y_irem hC dX7_count_39 (by decide) ?_
        refine y_istore_n hC [some (.ref (cS C 88)), some (.int x1), some (.int (irm x1 (nI 10)))] dX7_count_40 rfl rfl (Nat.le_of_ble_eq_true rfl) (Nat.le_of_ble_eq_true rfl) rfl ?_
        refine z_iload_n hC dX7_count_41 rfl rfl ?_
        refine z_bipush (v := nI 20) hC dX7_count_42 (by decide) ?_
        refine z_icmp_ge hC 54 dX7_count_44 (by decide) (fun b6 => ?_) (fun b6 => ?_)
        · rw [if_pos b6] at h
          refine z_iload_n hC dX7_count_54 rfl rfl ?_
          refine z_bipush (v := nI 30) hC dX7_count_55 (by decide) ?_
          refine z_icmp_ge hC 68 dX7_count_57 (by decide) (fun b7 => ?_) (fun b7 => ?_)
          · rw [if_pos b7] at h
            refine z_aload_n hC dX7_count_68 rfl rfl ?_
            refine z_iload_n hC dX7_count_69 rfl rfl ?_
            obtain ⟨r8, u8, c8, h⟩ := mB_some h
            refine z_callI hC kC_X7_faultOf kM_X7_159 sh_88 TX7 39 rfl (m_X7_faultOf hC.dis (irm x1 (nI 10)) u4 c8) rfl (Nat.le_of_ble_eq_true rfl) (Nat.le_of_ble_eq_true rfl) (Nat.le_of_ble_eq_true rfl) rfl dX7_count_70 ?_
            refine z_if_ge hC 84 dX7_count_73 (by decide) (fun b9 => ?_) (fun b9 => ?_)
            · rw [if_pos b9] at h
              refine z_bipush (v := (-6)) hC dX7_count_84 (by decide) ?_
              obtain rfl := Option.some.inj h
              exact z_iret hC hE dX7_count_86
            · rw [if_neg b9] at h
              refine z_aload_n hC dX7_count_76 rfl rfl ?_
              refine z_iload_n hC dX7_count_77 rfl rfl ?_
              obtain ⟨r10, u10, c10, h⟩ := mB_some h
              refine z_callI hC kC_X7_callsOf kM_X7_167 sh_88 TX7 39 rfl (m_X7_callsOf hC.dis (irm x1 (nI 10)) u8 c10) rfl (Nat.le_of_ble_eq_true rfl) (Nat.le_of_ble_eq_true rfl) (Nat.le_of_ble_eq_true rfl) rfl dX7_count_78 ?_
              refine z_goto hC 86 dX7_count_81 (by decide) ?_
              obtain rfl := Option.some.inj h
              exact z_iret hC hE dX7_count_86
          · rw [if_neg b7] at h
            refine z_aload_n hC dX7_count_60 rfl rfl ?_
            refine z_iload_n hC dX7_count_61 rfl rfl ?_
            obtain ⟨r11, u11, c11, h⟩ := mB_some h
            refine z_callI hC kC_X7_statementsOf kM_X7_312 sh_88 TX7 39 rfl (m_X7_statementsOf hC.dis (irm x1 (nI 10)) u4 c11) rfl (Nat.le_of_ble_eq_true rfl) (Nat.le_of_ble_eq_true rfl) (Nat.le_of_ble_eq_true rfl) rfl dX7_count_62 ?_
            refine z_goto hC 86 dX7_count_65 (by decide) ?_
            obtain rfl := Option.some.inj h
            exact z_iret hC hE dX7_count_86
        · rw [if_neg b6] at h
          refine z_aload_n hC dX7_count_47 rfl rfl ?_
          refine z_getR hC 90 kF_X7_13 sh_88 rfl dX7_count_48 ?_
          refine z_iload_n hC dX7_count_51 rfl rfl ?_
          obtain ⟨g12, h⟩ := gd_some h
          refine z_iald hC sh_90 g12 dX7_count_52 ?_
          obtain rfl := Option.some.inj h
          exact z_iret hC hE dX7_count_53
      · rw [if_pos b5] at h
        refine z_bipush (v := (-2)) hC dX7_count_33 (by decide) ?_
        obtain rfl := Option.some.inj h
        exact z_iret hC hE dX7_count_35
  · rw [if_pos b1] at h
    refine z_aload_n hC dX7_count_4 rfl rfl ?_
    refine z_getI hC kF_X7_203 sh_88 rfl dX7_count_5 ?_
    obtain rfl := Option.some.inj h
    exact z_iret hC hE dX7_count_8
theorem m_X7_count {l : Launch} {dC : Nat → ClassId} {dI : Nat → Nat → Nat} {dA : Nat → ClassId} {as : Nat → Nat} (hD : mDis as) (x1 : Int32) (u : MU) {r : Int32} {v : MU} (h : f_X7_count x1 u = some (r, v)) : mMI l dC dI dA as yX7_count cX7_count 3 .int 6 133 [.ref (as 88), .int x1] u r v := mMIof RX7 [some (.ref (as 88)), some (.int x1), none] hD (by decide +kernel) rfl (Nat.le_of_ble_eq_true rfl) rfl (fun C e1 e2 e3 e4 e5 hC hE => by subst e5; exact s_X7_count_0 hC (res := (r, v)) hE x1 u h)
