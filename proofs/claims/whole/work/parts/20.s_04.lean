set_option maxHeartbeats 4000000 in
set_option maxRecDepth 100000 in
theorem s_X5_readLeaf_0 {C : mCtx} (hC : mOK cX5_readLeaf RX5 2 2 42 C) {res : Int32 × MU} (hE : mEndI C .boolean res.1 res.2) (q0 : Nat) (hq0 : okX5 q0) (u : MU) (h : f_X5_readLeaf q0 u = some res) : wat C u 0 [some (.ref (cS C q0)), none] [] := by
  unfold f_X5_readLeaf at h
  refine z_aload_n hC dX5_readLeaf_0 rfl rfl ?_
  refine z_getR hC (q0 + 1) kF_X5_9 hq0.1 rfl dX5_readLeaf_1 ?_
  refine z_aload_n hC dX5_readLeaf_4 rfl rfl ?_
  refine z_getI hC kF_X5_46 hq0.1 rfl dX5_readLeaf_5 ?_
  obtain ⟨g1, h⟩ := gd_some h
  refine z_iald hC hq0.2.1 g1 dX5_readLeaf_8 ?_
  refine y_istore_n hC [some (.ref (cS C q0)), some (.int (u (q0 + 1) (u q0 11).toNatClampNeg))] dX5_readLeaf_9 rfl rfl (Nat.le_of_ble_eq_true rfl) (Nat.le_of_ble_eq_true rfl) rfl ?_
  refine z_iload_n hC dX5_readLeaf_10 rfl rfl ?_
  obtain ⟨r2, u2, c2, h⟩ := mB_some h
  refine z_callSI hC kC_X5_isFigure kM_X5_77 (m_X5_isFigure hC.dis (u (q0 + 1) (u q0 11).toNatClampNeg) u c2) rfl (Nat.le_of_ble_eq_true rfl) (Nat.le_of_ble_eq_true rfl) (Nat.le_of_ble_eq_true rfl) rfl dX5_readLeaf_11 ?_
  refine z_if_eq hC 37 dX5_readLeaf_14 (by decide) (fun b3 => ?_) (fun b3 => ?_)
  · rw [if_pos b3] at h
    refine z_iload_n hC dX5_readLeaf_37 rfl rfl ?_
    refine z_bipush (v := nI 112) hC dX5_readLeaf_38 (by decide) ?_
    refine z_icmp_ne hC 60 dX5_readLeaf_40 (by decide) (fun b4 => ?_) (fun b4 => ?_)
    · rw [if_neg b4] at h
      refine z_iload_n hC dX5_readLeaf_60 rfl rfl ?_
      obtain ⟨r5, u5, c5, h⟩ := mB_some h
      refine z_callSI hC kC_X5_isLetter kM_X5_74 (m_X5_isLetter hC.dis (u (q0 + 1) (u q0 11).toNatClampNeg) u2 c5) rfl (Nat.le_of_ble_eq_true rfl) (Nat.le_of_ble_eq_true rfl) (Nat.le_of_ble_eq_true rfl) rfl dX5_readLeaf_61 ?_
      refine z_if_eq hC 87 dX5_readLeaf_64 (by decide) (fun b6 => ?_) (fun b6 => ?_)
      · rw [if_pos b6] at h
        refine z_iload_n hC dX5_readLeaf_87 rfl rfl ?_
        refine z_bipush (v := nI 64) hC dX5_readLeaf_88 (by decide) ?_
        refine z_icmp_ne hC 113 dX5_readLeaf_90 (by decide) (fun b7 => ?_) (fun b7 => ?_)
        · rw [if_neg b7] at h
          refine z_iconst (v := 0) hC dX5_readLeaf_113 (by decide) ?_
          obtain rfl := Option.some.inj h
          exact z_zret hC hE rfl dX5_readLeaf_114
        · rw [if_pos b7] at h
          refine z_aload_n hC dX5_readLeaf_93 rfl rfl ?_
          refine z_dup hC dX5_readLeaf_94 rfl ?_
          refine z_getI hC kF_X5_46 hq0.1 rfl dX5_readLeaf_95 ?_
          refine z_iconst (v := 1) hC dX5_readLeaf_98 (by decide) ?_
          refine z_iadd hC dX5_readLeaf_99 ?_
          obtain ⟨u8, e8, h⟩ := mS_some h
          refine y_putI hC kP_X5_46 hq0.1 rfl dX5_readLeaf_100 e8 ?_
          refine z_aload_n hC dX5_readLeaf_103 rfl rfl ?_
          refine z_iconst (v := nI 2) hC dX5_readLeaf_104 (by decide) ?_
          refine z_aload_n hC dX5_readLeaf_105 rfl rfl ?_
          obtain ⟨r9, u9, c9, h⟩ := mB_some h
          refine z_callI hC kC_X5_readIndex kM_X5_63 hq0.1 TX5 12 rfl (m_X5_readIndex hC.dis q0 hq0 u8 c9) rfl (Nat.le_of_ble_eq_true rfl) (Nat.le_of_ble_eq_true rfl) (Nat.le_of_ble_eq_true rfl) rfl dX5_readLeaf_106 ?_
          obtain ⟨r10, u10, c10, h⟩ := mB_some h
          refine z_callI hC kC_X5_addLeaf kM_X5_83 hq0.1 TX5 12 rfl (m_X5_addLeaf hC.dis q0 hq0 (nI 2) r9 u9 c10) rfl (Nat.le_of_ble_eq_true rfl) (Nat.le_of_ble_eq_true rfl) (Nat.le_of_ble_eq_true rfl) rfl dX5_readLeaf_109 ?_
          obtain ⟨g11, h⟩ := gd_some h
          obtain rfl := Option.some.inj h
          exact z_zret hC hE g11 dX5_readLeaf_112
      · rw [if_neg b6] at h
        refine z_aload_n hC dX5_readLeaf_67 rfl rfl ?_
        refine z_dup hC dX5_readLeaf_68 rfl ?_
        refine z_getI hC kF_X5_46 hq0.1 rfl dX5_readLeaf_69 ?_
        refine z_iconst (v := 1) hC dX5_readLeaf_72 (by decide) ?_
        refine z_iadd hC dX5_readLeaf_73 ?_
        obtain ⟨u12, e12, h⟩ := mS_some h
        refine y_putI hC kP_X5_46 hq0.1 rfl dX5_readLeaf_74 e12 ?_
        refine z_aload_n hC dX5_readLeaf_77 rfl rfl ?_
        refine z_iconst (v := nI 2) hC dX5_readLeaf_78 (by decide) ?_
        refine z_iload_n hC dX5_readLeaf_79 rfl rfl ?_
        refine z_bipush (v := nI 97) hC dX5_readLeaf_80 (by decide) ?_
        refine z_isub hC dX5_readLeaf_82 ?_
        obtain ⟨r13, u13, c13, h⟩ := mB_some h
        refine z_callI hC kC_X5_addLeaf kM_X5_83 hq0.1 TX5 12 rfl (m_X5_addLeaf hC.dis q0 hq0 (nI 2) ((u (q0 + 1) (u q0 11).toNatClampNeg) - (nI 97)) u12 c13) rfl (Nat.le_of_ble_eq_true rfl) (Nat.le_of_ble_eq_true rfl) (Nat.le_of_ble_eq_true rfl) rfl dX5_readLeaf_83 ?_
        obtain ⟨g14, h⟩ := gd_some h
        obtain rfl := Option.some.inj h
        exact z_zret hC hE g14 dX5_readLeaf_86
    · rw [if_pos b4] at h
      refine z_aload_n hC dX5_readLeaf_43 rfl rfl ?_
      refine z_dup hC dX5_readLeaf_44 rfl ?_
      refine z_getI hC kF_X5_46 hq0.1 rfl dX5_readLeaf_45 ?_
      refine z_iconst (v := 1) hC dX5_readLeaf_48 (by decide) ?_
      refine z_iadd hC dX5_readLeaf_49 ?_
      obtain ⟨u15, e15, h⟩ := mS_some h
      refine y_putI hC kP_X5_46 hq0.1 rfl dX5_readLeaf_50 e15 ?_
      refine z_aload_n hC dX5_readLeaf_53 rfl rfl ?_
      refine z_iconst (v := 1) hC dX5_readLeaf_54 (by decide) ?_
      refine z_iconst (v := 0) hC dX5_readLeaf_55 (by decide) ?_
      obtain ⟨r16, u16, c16, h⟩ := mB_some h
      refine z_callI hC kC_X5_addLeaf kM_X5_83 hq0.1 TX5 12 rfl (m_X5_addLeaf hC.dis q0 hq0 1 0 u15 c16) rfl (Nat.le_of_ble_eq_true rfl) (Nat.le_of_ble_eq_true rfl) (Nat.le_of_ble_eq_true rfl) rfl dX5_readLeaf_56 ?_
      obtain ⟨g17, h⟩ := gd_some h
      obtain rfl := Option.some.inj h
      exact z_zret hC hE g17 dX5_readLeaf_59
  · rw [if_neg b3] at h
    refine z_aload_n hC dX5_readLeaf_17 rfl rfl ?_
    refine z_dup hC dX5_readLeaf_18 rfl ?_
    refine z_getI hC kF_X5_46 hq0.1 rfl dX5_readLeaf_19 ?_
    refine z_iconst (v := 1) hC dX5_readLeaf_22 (by decide) ?_
    refine z_iadd hC dX5_readLeaf_23 ?_
    obtain ⟨u18, e18, h⟩ := mS_some h
    refine y_putI hC kP_X5_46 hq0.1 rfl dX5_readLeaf_24 e18 ?_
    refine z_aload_n hC dX5_readLeaf_27 rfl rfl ?_
    refine z_iconst (v := 0) hC dX5_readLeaf_28 (by decide) ?_
    refine z_iload_n hC dX5_readLeaf_29 rfl rfl ?_
    refine z_bipush (v := nI 48) hC dX5_readLeaf_30 (by decide) ?_
    refine z_isub hC dX5_readLeaf_32 ?_
    obtain ⟨r19, u19, c19, h⟩ := mB_some h
    refine z_callI hC kC_X5_addLeaf kM_X5_83 hq0.1 TX5 12 rfl (m_X5_addLeaf hC.dis q0 hq0 0 ((u (q0 + 1) (u q0 11).toNatClampNeg) - (nI 48)) u18 c19) rfl (Nat.le_of_ble_eq_true rfl) (Nat.le_of_ble_eq_true rfl) (Nat.le_of_ble_eq_true rfl) rfl dX5_readLeaf_33 ?_
    obtain ⟨g20, h⟩ := gd_some h
    obtain rfl := Option.some.inj h
    exact z_zret hC hE g20 dX5_readLeaf_36
theorem m_X5_readLeaf {l : Launch} {dC : Nat → ClassId} {dI : Nat → Nat → Nat} {dA : Nat → ClassId} {as : Nat → Nat} (hD : mDis as) (q0 : Nat) (hq0 : okX5 q0) (u : MU) {r : Int32} {v : MU} (h : f_X5_readLeaf q0 u = some (r, v)) : mMI l dC dI dA as yX5_readLeaf cX5_readLeaf 2 .boolean 2 42 [.ref (as q0)] u r v := mMIof RX5 [some (.ref (as q0)), none] hD (by decide +kernel) rfl (Nat.le_of_ble_eq_true rfl) rfl (fun C e1 e2 e3 e4 e5 hC hE => by subst e5; exact s_X5_readLeaf_0 hC (res := (r, v)) hE q0 hq0 u h)
set_option maxHeartbeats 4000000 in
set_option maxRecDepth 100000 in
theorem s_X5_readTerm_70 {C : mCtx} (hC : mOK cX5_readTerm RX5 3 3 63 C) {res : Int32 × MU} (hE : mEndI C .boolean res.1 res.2) (q0 : Nat) (hq0 : okX5 q0) (k4 : Int32 → Int32 → MU → mR) (hk4 : ∀ (x1 : Int32) (x2 : Int32) (u : MU), k4 x1 x2 u = some res → wat C u 4 [some (.ref (cS C q0)), some (.int x1), some (.int x2)] []) (x1 : Int32) (x2 : Int32) (u : MU) (h : b_X5_readTerm_70 k4 q0 x1 x2 u = some res) : wat C u 70 [some (.ref (cS C q0)), some (.int x1), some (.int x2)] [] := by
  unfold b_X5_readTerm_70 at h
  refine y_iinc hC (x2 + 1) [some (.ref (cS C q0)), some (.int x1), some (.int (x2 + 1))] dX5_readTerm_70 rfl rfl rfl (Nat.le_of_ble_eq_true rfl) rfl ?_
  refine z_goto hC 4 dX5_readTerm_73 (by decide) ?_
  exact hk4 x1 (x2 + 1) u h
set_option maxHeartbeats 4000000 in
set_option maxRecDepth 100000 in
theorem s_X5_readTerm_76 {C : mCtx} (hC : mOK cX5_readTerm RX5 3 3 63 C) {res : Int32 × MU} (hE : mEndI C .boolean res.1 res.2) (x1 : Int32) (u : MU) (h : b_X5_readTerm_76 x1 u = some res) : wat C u 76 [none, some (.int x1), none] [] := by
  unfold b_X5_readTerm_76 at h
  refine z_iload_n hC dX5_readTerm_76 rfl rfl ?_
  refine z_if_ne hC 84 dX5_readTerm_77 (by decide) (fun b1 => ?_) (fun b1 => ?_)
  · rw [if_neg b1] at h
    refine z_iconst (v := 0) hC dX5_readTerm_84 (by decide) ?_
    obtain rfl := Option.some.inj h
    exact z_zret hC hE rfl dX5_readTerm_85
  · rw [if_pos b1] at h
    refine z_iconst (v := 1) hC dX5_readTerm_80 (by decide) ?_
    refine z_goto hC 85 dX5_readTerm_81 (by decide) ?_
    obtain rfl := Option.some.inj h
    exact z_zret hC hE rfl dX5_readTerm_85
set_option maxHeartbeats 4000000 in
set_option maxRecDepth 100000 in
theorem s_X5_readTerm_4 {C : mCtx} (hC : mOK cX5_readTerm RX5 3 3 63 C) {res : Int32 × MU} (hE : mEndI C .boolean res.1 res.2) (q0 : Nat) (hq0 : okX5 q0) (k4 : Int32 → Int32 → MU → mR) (hk4 : ∀ (x1 : Int32) (x2 : Int32) (u : MU), k4 x1 x2 u = some res → wat C u 4 [some (.ref (cS C q0)), some (.int x1), some (.int x2)] []) (x1 : Int32) (x2 : Int32) (u : MU) (h : b_X5_readTerm_4 k4 q0 x1 x2 u = some res) : wat C u 4 [some (.ref (cS C q0)), some (.int x1), some (.int x2)] [] := by
  unfold b_X5_readTerm_4 at h
  refine z_iload_n hC dX5_readTerm_4 rfl rfl ?_
  refine z_bipush (v := nI 30) hC dX5_readTerm_5 (by decide) ?_
  refine z_icmp_ge hC 76 dX5_readTerm_7 (by decide) (fun b1 => ?_) (fun b1 => ?_)
  · rw [if_pos b1] at h
    refine z_mask [false, true, false] ?_
    exact s_X5_readTerm_76 hC hE x1 u h
  · rw [if_neg b1] at h
    refine z_iload_n hC dX5_readTerm_10 rfl rfl ?_
    refine z_if_le hC 76 dX5_readTerm_11 (by decide) (fun b2 => ?_) (fun b2 => ?_)
    · rw [if_pos b2] at h
      refine z_mask [false, true, false] ?_
      exact s_X5_readTerm_76 hC hE x1 u h
    · rw [if_neg b2] at h
      refine z_aload_n hC dX5_readTerm_14 rfl rfl ?_
      refine z_getI hC kF_X5_46 hq0.1 rfl dX5_readTerm_15 ?_
      refine z_aload_n hC dX5_readTerm_18 rfl rfl ?_
      refine z_getI hC kF_X5_15 hq0.1 rfl dX5_readTerm_19 ?_
      refine z_icmp_ge hC 76 dX5_readTerm_22 (by decide) (fun b3 => ?_) (fun b3 => ?_)
      · rw [if_pos b3] at h
        refine z_mask [false, true, false] ?_
        exact s_X5_readTerm_76 hC hE x1 u h
      · rw [if_neg b3] at h
        refine z_aload_n hC dX5_readTerm_25 rfl rfl ?_
        refine z_getR hC (q0 + 1) kF_X5_9 hq0.1 rfl dX5_readTerm_26 ?_
        refine z_aload_n hC dX5_readTerm_29 rfl rfl ?_
        refine z_getI hC kF_X5_46 hq0.1 rfl dX5_readTerm_30 ?_
        obtain ⟨g4, h⟩ := gd_some h
        refine z_iald hC hq0.2.1 g4 dX5_readTerm_33 ?_
        refine z_bipush (v := nI 126) hC dX5_readTerm_34 (by decide) ?_
        refine z_icmp_ne hC 55 dX5_readTerm_36 (by decide) (fun b5 => ?_) (fun b5 => ?_)
        · rw [if_neg b5] at h
          refine z_aload_n hC dX5_readTerm_55 rfl rfl ?_
          obtain ⟨r6, u6, c6, h⟩ := mB_some h
          refine z_callI hC kC_X5_readLeaf kM_X5_80 hq0.1 TX5 12 rfl (m_X5_readLeaf hC.dis q0 hq0 u c6) rfl (Nat.le_of_ble_eq_true rfl) (Nat.le_of_ble_eq_true rfl) (Nat.le_of_ble_eq_true rfl) rfl dX5_readTerm_56 ?_
          refine z_if_eq hC 68 dX5_readTerm_59 (by decide) (fun b7 => ?_) (fun b7 => ?_)
          · rw [if_pos b7] at h
            refine z_iconst (v := 0) hC dX5_readTerm_68 (by decide) ?_
            obtain rfl := Option.some.inj h
            exact z_zret hC hE rfl dX5_readTerm_69
          · rw [if_neg b7] at h
            refine y_iinc hC (x1 + (-1)) [some (.ref (cS C q0)), some (.int (x1 + (-1))), some (.int x2)] dX5_readTerm_62 rfl rfl rfl (Nat.le_of_ble_eq_true rfl) rfl ?_
            refine z_goto hC 70 dX5_readTerm_65 (by decide) ?_
            exact s_X5_readTerm_70 hC hE q0 hq0 k4 hk4 (x1 + (-1)) x2 u6 h
        · rw [if_pos b5] at h
          refine z_aload_n hC dX5_readTerm_39 rfl rfl ?_
          refine z_dup hC dX5_readTerm_40 rfl ?_
          refine z_getI hC kF_X5_46 hq0.1 rfl dX5_readTerm_41 ?_
          refine z_iconst (v := 1) hC dX5_readTerm_44 (by decide) ?_
          refine z_iadd hC dX5_readTerm_45 ?_
          obtain ⟨u8, e8, h⟩ := mS_some h
          refine y_putI hC kP_X5_46 hq0.1 rfl dX5_readTerm_46 e8 ?_
          refine y_iinc hC (x1 + 1) [some (.ref (cS C q0)), some (.int (x1 + 1)), some (.int x2)] dX5_readTerm_49 rfl rfl rfl (Nat.le_of_ble_eq_true rfl) rfl ?_
          refine z_goto hC 70 dX5_readTerm_52 (by decide) ?_
          exact s_X5_readTerm_70 hC hE q0 hq0 k4 hk4 (x1 + 1) x2 u8 h
set_option maxHeartbeats 4000000 in
set_option maxRecDepth 100000 in
theorem t_X5_readTerm_4 {C : mCtx} (hC : mOK cX5_readTerm RX5 3 3 63 C) {res : Int32 × MU} (hE : mEndI C .boolean res.1 res.2) (q0 : Nat) (hq0 : okX5 q0) : ∀ (n : Nat) (x1 : Int32) (x2 : Int32) (u : MU), l_X5_readTerm_4 q0 n x1 x2 u = some res → wat C u 4 [some (.ref (cS C q0)), some (.int x1), some (.int x2)] [] := by
  intro n
  induction n with
  | zero => intro x1 x2 u h; exact absurd h (by simp [l_X5_readTerm_4])
  | succ n ih =>
    intro x1 x2 u h
    exact s_X5_readTerm_4 hC hE q0 hq0 (fun x1 x2 u => l_X5_readTerm_4 q0 n x1 x2 u) ih x1 x2 u h
set_option maxHeartbeats 4000000 in
set_option maxRecDepth 100000 in
theorem s_X5_readTerm_0 {C : mCtx} (hC : mOK cX5_readTerm RX5 3 3 63 C) {res : Int32 × MU} (hE : mEndI C .boolean res.1 res.2) (q0 : Nat) (hq0 : okX5 q0) (u : MU) (h : f_X5_readTerm q0 u = some res) : wat C u 0 [some (.ref (cS C q0)), none, none] [] := by
  unfold f_X5_readTerm at h
  refine z_iconst (v := 1) hC dX5_readTerm_0 (by decide) ?_
  refine y_istore_n hC [some (.ref (cS C q0)), some (.int 1), none] dX5_readTerm_1 rfl rfl (Nat.le_of_ble_eq_true rfl) (Nat.le_of_ble_eq_true rfl) rfl ?_
  refine z_iconst (v := 0) hC dX5_readTerm_2 (by decide) ?_
  refine y_istore_n hC [some (.ref (cS C q0)), some (.int 1), some (.int 0)] dX5_readTerm_3 rfl rfl (Nat.le_of_ble_eq_true rfl) (Nat.le_of_ble_eq_true rfl) rfl ?_
  exact t_X5_readTerm_4 hC hE q0 hq0 FU 1 0 u h
theorem m_X5_readTerm {l : Launch} {dC : Nat → ClassId} {dI : Nat → Nat → Nat} {dA : Nat → ClassId} {as : Nat → Nat} (hD : mDis as) (q0 : Nat) (hq0 : okX5 q0) (u : MU) {r : Int32} {v : MU} (h : f_X5_readTerm q0 u = some (r, v)) : mMI l dC dI dA as yX5_readTerm cX5_readTerm 3 .boolean 3 63 [.ref (as q0)] u r v := mMIof RX5 [some (.ref (as q0)), none, none] hD (by decide +kernel) rfl (Nat.le_of_ble_eq_true rfl) rfl (fun C e1 e2 e3 e4 e5 hC hE => by subst e5; exact s_X5_readTerm_0 hC (res := (r, v)) hE q0 hq0 u h)
set_option maxHeartbeats 4000000 in
set_option maxRecDepth 100000 in
theorem s_X5_readStatement_197 {C : mCtx} (hC : mOK cX5_readStatement RX5 6 4 85 C) {res : Int32 × MU} (hE : mEndI C .boolean res.1 res.2) (q0 : Nat) (hq0 : okX5 q0) (x1 : Int32) (u : MU) (h : b_X5_readStatement_197 q0 x1 u = some res) : wat C u 197 [some (.ref (cS C q0)), some (.int x1), none, none, none, none] [] := by
  unfold b_X5_readStatement_197 at h
  refine z_aload_n hC dX5_readStatement_197 rfl rfl ?_
  refine z_getR hC (q0 + 5) kF_X5_31 hq0.1 rfl dX5_readStatement_198 ?_
  refine z_iload_n hC dX5_readStatement_201 rfl rfl ?_
  refine z_aload_n hC dX5_readStatement_202 rfl rfl ?_
  refine z_getI hC kF_X5_43 hq0.1 rfl dX5_readStatement_203 ?_
  obtain ⟨g1, h⟩ := gd_some h
  obtain ⟨u2, e2, h⟩ := mS_some h
  refine y_iast hC hq0.2.2.2.2.2.1 g1 dX5_readStatement_206 e2 ?_
  refine z_aload_n hC dX5_readStatement_207 rfl rfl ?_
  refine z_iload_n hC dX5_readStatement_208 rfl rfl ?_
  refine z_iconst (v := 1) hC dX5_readStatement_209 (by decide) ?_
  refine z_iadd hC dX5_readStatement_210 ?_
  obtain ⟨u3, e3, h⟩ := mS_some h
  refine y_putI hC kP_X5_34 hq0.1 rfl dX5_readStatement_211 e3 ?_
  refine z_iconst (v := 1) hC dX5_readStatement_214 (by decide) ?_
  obtain rfl := Option.some.inj h
  exact z_zret hC hE rfl dX5_readStatement_215
set_option maxHeartbeats 4000000 in
set_option maxRecDepth 100000 in
theorem s_X5_readStatement_181 {C : mCtx} (hC : mOK cX5_readStatement RX5 6 4 85 C) {res : Int32 × MU} (hE : mEndI C .boolean res.1 res.2) (q0 : Nat) (hq0 : okX5 q0) (x1 : Int32) (s0 : Int32) (u : MU) (h : b_X5_readStatement_181 q0 x1 s0 u = some res) : wat C u 181 [some (.ref (cS C q0)), some (.int x1), none, none, none, none] [(.int s0)] := by
  unfold b_X5_readStatement_181 at h
  refine y_istore hC [some (.ref (cS C q0)), some (.int x1), none, none, none, some (.int s0)] dX5_readStatement_181 rfl (Nat.le_of_ble_eq_true rfl) (Nat.le_of_ble_eq_true rfl) rfl ?_
  refine z_iload hC dX5_readStatement_183 rfl ?_
  refine z_if_eq hC 197 dX5_readStatement_185 (by decide) (fun b1 => ?_) (fun b1 => ?_)
  · rw [if_pos b1] at h
    refine z_mask [true, true, false, false, false, false] ?_
    exact s_X5_readStatement_197 hC hE q0 hq0 x1 u h
  · rw [if_neg b1] at h
    refine z_aload_n hC dX5_readStatement_188 rfl rfl ?_
    obtain ⟨r2, u2, c2, h⟩ := mB_some h
    refine z_callI hC kC_X5_readTerm kM_X5_70 hq0.1 TX5 12 rfl (m_X5_readTerm hC.dis q0 hq0 u c2) rfl (Nat.le_of_ble_eq_true rfl) (Nat.le_of_ble_eq_true rfl) (Nat.le_of_ble_eq_true rfl) rfl dX5_readStatement_189 ?_
    refine z_if_ne hC 197 dX5_readStatement_192 (by decide) (fun b3 => ?_) (fun b3 => ?_)
    · rw [if_neg b3] at h
      refine z_mask [true, true, false, false, false, false] ?_
      exact s_X5_readStatement_197 hC hE q0 hq0 x1 u2 h
    · rw [if_pos b3] at h
      refine z_iconst (v := 0) hC dX5_readStatement_195 (by decide) ?_
      obtain rfl := Option.some.inj h
      exact z_zret hC hE rfl dX5_readStatement_196
set_option maxHeartbeats 4000000 in
set_option maxRecDepth 100000 in
theorem s_X5_readStatement_176 {C : mCtx} (hC : mOK cX5_readStatement RX5 6 4 85 C) {res : Int32 × MU} (hE : mEndI C .boolean res.1 res.2) (q0 : Nat) (hq0 : okX5 q0) (x1 : Int32) (u : MU) (h : b_X5_readStatement_176 q0 x1 u = some res) : wat C u 176 [some (.ref (cS C q0)), some (.int x1), none, none, none, none] [] := by
  unfold b_X5_readStatement_176 at h
  refine z_iconst (v := 1) hC dX5_readStatement_176 (by decide) ?_
  refine z_goto hC 181 dX5_readStatement_177 (by decide) ?_
  exact s_X5_readStatement_181 hC hE q0 hq0 x1 1 u h
set_option maxHeartbeats 4000000 in
set_option maxRecDepth 100000 in
theorem s_X5_readStatement_144 {C : mCtx} (hC : mOK cX5_readStatement RX5 6 4 85 C) {res : Int32 × MU} (hE : mEndI C .boolean res.1 res.2) (q0 : Nat) (hq0 : okX5 q0) (x1 : Int32) (s2 : Int32) (s1 : Int32) (u : MU) (h : b_X5_readStatement_144 q0 x1 s2 s1 u = some res) : wat C u 144 [some (.ref (cS C q0)), some (.int x1), none, none, none, none] [(.int s2), (.int s1), (.ref (cS C (q0 + 3)))] := by
  unfold b_X5_readStatement_144 at h
  obtain ⟨g1, h⟩ := gd_some h
  obtain ⟨u2, e2, h⟩ := mS_some h
  refine y_iast hC hq0.2.2.2.1 g1 dX5_readStatement_144 e2 ?_
  refine z_aload_n hC dX5_readStatement_145 rfl rfl ?_
  refine z_getR hC (q0 + 3) kF_X5_25 hq0.1 rfl dX5_readStatement_146 ?_
  refine z_iload_n hC dX5_readStatement_149 rfl rfl ?_
  obtain ⟨g3, h⟩ := gd_some h
  refine z_iald hC hq0.2.2.2.1 g3 dX5_readStatement_150 ?_
  refine z_iconst (v := (-1)) hC dX5_readStatement_151 (by decide) ?_
  refine z_icmp_ne hC 157 dX5_readStatement_152 (by decide) (fun b4 => ?_) (fun b4 => ?_)
  · rw [if_neg b4] at h
    refine z_aload_n hC dX5_readStatement_157 rfl rfl ?_
    refine z_getR hC (q0 + 2) kF_X5_22 hq0.1 rfl dX5_readStatement_158 ?_
    refine z_iload_n hC dX5_readStatement_161 rfl rfl ?_
    obtain ⟨g5, h⟩ := gd_some h
    refine z_iald hC hq0.2.2.1 g5 dX5_readStatement_162 ?_
    refine z_if_eq hC 176 dX5_readStatement_163 (by decide) (fun b6 => ?_) (fun b6 => ?_)
    · rw [if_pos b6] at h
      exact s_X5_readStatement_176 hC hE q0 hq0 x1 u2 h
    · rw [if_neg b6] at h
      refine z_aload_n hC dX5_readStatement_166 rfl rfl ?_
      refine z_getR hC (q0 + 2) kF_X5_22 hq0.1 rfl dX5_readStatement_167 ?_
      refine z_iload_n hC dX5_readStatement_170 rfl rfl ?_
      obtain ⟨g7, h⟩ := gd_some h
      refine z_iald hC hq0.2.2.1 g7 dX5_readStatement_171 ?_
      refine z_iconst (v := 1) hC dX5_readStatement_172 (by decide) ?_
      refine z_icmp_ne hC 180 dX5_readStatement_173 (by decide) (fun b8 => ?_) (fun b8 => ?_)
      · rw [if_neg b8] at h
        refine z_iconst (v := 0) hC dX5_readStatement_180 (by decide) ?_
        exact s_X5_readStatement_181 hC hE q0 hq0 x1 0 u2 h
      · rw [if_pos b8] at h
        exact s_X5_readStatement_176 hC hE q0 hq0 x1 u2 h
  · rw [if_pos b4] at h
    refine z_iconst (v := 0) hC dX5_readStatement_155 (by decide) ?_
    obtain rfl := Option.some.inj h
    exact z_zret hC hE rfl dX5_readStatement_156
set_option maxHeartbeats 4000000 in
set_option maxRecDepth 100000 in
theorem s_X5_readStatement_121 {C : mCtx} (hC : mOK cX5_readStatement RX5 6 4 85 C) {res : Int32 × MU} (hE : mEndI C .boolean res.1 res.2) (q0 : Nat) (hq0 : okX5 q0) (x1 : Int32) (s0 : Int32) (u : MU) (h : b_X5_readStatement_121 q0 x1 s0 u = some res) : wat C u 121 [some (.ref (cS C q0)), some (.int x1), none, none, none, none] [(.int s0)] := by
  unfold b_X5_readStatement_121 at h
  refine y_istore hC [some (.ref (cS C q0)), some (.int x1), none, none, some (.int s0), none] dX5_readStatement_121 rfl (Nat.le_of_ble_eq_true rfl) (Nat.le_of_ble_eq_true rfl) rfl ?_
  refine z_aload_n hC dX5_readStatement_123 rfl rfl ?_
  refine z_getR hC (q0 + 3) kF_X5_25 hq0.1 rfl dX5_readStatement_124 ?_
  refine z_iload_n hC dX5_readStatement_127 rfl rfl ?_
  refine z_iload hC dX5_readStatement_128 rfl ?_
  refine z_if_eq hC 140 dX5_readStatement_130 (by decide) (fun b1 => ?_) (fun b1 => ?_)
  · rw [if_pos b1] at h
    refine z_aload_n hC dX5_readStatement_140 rfl rfl ?_
    obtain ⟨r2, u2, c2, h⟩ := mB_some h
    refine z_callI hC kC_X5_readLetter kM_X5_67 hq0.1 TX5 12 rfl (m_X5_readLetter hC.dis q0 hq0 u c2) rfl (Nat.le_of_ble_eq_true rfl) (Nat.le_of_ble_eq_true rfl) (Nat.le_of_ble_eq_true rfl) rfl dX5_readStatement_141 ?_
    refine z_mask [true, true, false, false, false, false] ?_
    exact s_X5_readStatement_144 hC hE q0 hq0 x1 r2 x1 u2 h
  · rw [if_neg b1] at h
    refine z_aload_n hC dX5_readStatement_133 rfl rfl ?_
    obtain ⟨r3, u3, c3, h⟩ := mB_some h
    refine z_callI hC kC_X5_readIndex kM_X5_63 hq0.1 TX5 12 rfl (m_X5_readIndex hC.dis q0 hq0 u c3) rfl (Nat.le_of_ble_eq_true rfl) (Nat.le_of_ble_eq_true rfl) (Nat.le_of_ble_eq_true rfl) rfl dX5_readStatement_134 ?_
    refine z_goto hC 144 dX5_readStatement_137 (by decide) ?_
    refine z_mask [true, true, false, false, false, false] ?_
    exact s_X5_readStatement_144 hC hE q0 hq0 x1 r3 x1 u3 h
set_option maxHeartbeats 4000000 in
set_option maxRecDepth 100000 in
theorem s_X5_readStatement_116 {C : mCtx} (hC : mOK cX5_readStatement RX5 6 4 85 C) {res : Int32 × MU} (hE : mEndI C .boolean res.1 res.2) (q0 : Nat) (hq0 : okX5 q0) (x1 : Int32) (u : MU) (h : b_X5_readStatement_116 q0 x1 u = some res) : wat C u 116 [some (.ref (cS C q0)), some (.int x1), none, none, none, none] [] := by
  unfold b_X5_readStatement_116 at h
  refine z_iconst (v := 1) hC dX5_readStatement_116 (by decide) ?_
  refine z_goto hC 121 dX5_readStatement_117 (by decide) ?_
  exact s_X5_readStatement_121 hC hE q0 hq0 x1 1 u h
set_option maxHeartbeats 4000000 in
set_option maxRecDepth 100000 in
theorem s_X5_readStatement_98 {C : mCtx} (hC : mOK cX5_readStatement RX5 6 4 85 C) {res : Int32 × MU} (hE : mEndI C .boolean res.1 res.2) (q0 : Nat) (hq0 : okX5 q0) (x1 : Int32) (x2 : Int32) (u : MU) (h : b_X5_readStatement_98 q0 x1 x2 u = some res) : wat C u 98 [some (.ref (cS C q0)), some (.int x1), some (.int x2), none, none, none] [] := by
  unfold b_X5_readStatement_98 at h
  refine z_iload_n hC dX5_readStatement_98 rfl rfl ?_
  refine z_bipush (v := nI 35) hC dX5_readStatement_99 (by decide) ?_
  refine z_icmp_eq hC 116 dX5_readStatement_101 (by decide) (fun b1 => ?_) (fun b1 => ?_)
  · rw [if_pos b1] at h
    refine z_mask [true, true, false, false, false, false] ?_
    exact s_X5_readStatement_116 hC hE q0 hq0 x1 u h
  · rw [if_neg b1] at h
    refine z_iload_n hC dX5_readStatement_104 rfl rfl ?_
    refine z_bipush (v := nI 94) hC dX5_readStatement_105 (by decide) ?_
    refine z_icmp_eq hC 116 dX5_readStatement_107 (by decide) (fun b2 => ?_) (fun b2 => ?_)
    · rw [if_pos b2] at h
      refine z_mask [true, true, false, false, false, false] ?_
      exact s_X5_readStatement_116 hC hE q0 hq0 x1 u h
    · rw [if_neg b2] at h
      refine z_iload_n hC dX5_readStatement_110 rfl rfl ?_
      refine z_bipush (v := nI 99) hC dX5_readStatement_111 (by decide) ?_
      refine z_icmp_ne hC 120 dX5_readStatement_113 (by decide) (fun b3 => ?_) (fun b3 => ?_)
      · rw [if_neg b3] at h
        refine z_iconst (v := 0) hC dX5_readStatement_120 (by decide) ?_
        refine z_mask [true, true, false, false, false, false] ?_
        exact s_X5_readStatement_121 hC hE q0 hq0 x1 0 u h
      · rw [if_pos b3] at h
        refine z_mask [true, true, false, false, false, false] ?_
        exact s_X5_readStatement_116 hC hE q0 hq0 x1 u h
set_option maxHeartbeats 4000000 in
set_option maxRecDepth 100000 in
theorem s_X5_readStatement_51 {C : mCtx} (hC : mOK cX5_readStatement RX5 6 4 85 C) {res : Int32 × MU} (hE : mEndI C .boolean res.1 res.2) (q0 : Nat) (hq0 : okX5 q0) (x1 : Int32) (x2 : Int32) (s0 : Int32) (u : MU) (h : b_X5_readStatement_51 q0 x1 x2 s0 u = some res) : wat C u 51 [some (.ref (cS C q0)), some (.int x1), some (.int x2), none, none, none] [(.int s0)] := by
  unfold b_X5_readStatement_51 at h
  refine y_istore_n hC [some (.ref (cS C q0)), some (.int x1), some (.int x2), some (.int s0), none, none] dX5_readStatement_51 rfl rfl (Nat.le_of_ble_eq_true rfl) (Nat.le_of_ble_eq_true rfl) rfl ?_
  refine z_iload_n hC dX5_readStatement_52 rfl rfl ?_
  refine z_if_ne hC 58 dX5_readStatement_53 (by decide) (fun b1 => ?_) (fun b1 => ?_)
  · rw [if_neg b1] at h
    refine z_aload_n hC dX5_readStatement_58 rfl rfl ?_
    refine z_dup hC dX5_readStatement_59 rfl ?_
    refine z_getI hC kF_X5_46 hq0.1 rfl dX5_readStatement_60 ?_
    refine z_iconst (v := 1) hC dX5_readStatement_63 (by decide) ?_
    refine z_iadd hC dX5_readStatement_64 ?_
    obtain ⟨u2, e2, h⟩ := mS_some h
    refine y_putI hC kP_X5_46 hq0.1 rfl dX5_readStatement_65 e2 ?_
    refine z_aload_n hC dX5_readStatement_68 rfl rfl ?_
    refine z_getR hC (q0 + 2) kF_X5_22 hq0.1 rfl dX5_readStatement_69 ?_
    refine z_iload_n hC dX5_readStatement_72 rfl rfl ?_
    refine z_iload_n hC dX5_readStatement_73 rfl rfl ?_
    obtain ⟨r3, u3, c3, h⟩ := mB_some h
    refine z_callSI hC kC_X5_kindOf kM_X5_56 (m_X5_kindOf hC.dis x2 u2 c3) rfl (Nat.le_of_ble_eq_true rfl) (Nat.le_of_ble_eq_true rfl) (Nat.le_of_ble_eq_true rfl) rfl dX5_readStatement_74 ?_
    obtain ⟨g4, h⟩ := gd_some h
    obtain ⟨u5, e5, h⟩ := mS_some h
    refine y_iast hC hq0.2.2.1 g4 dX5_readStatement_77 e5 ?_
    refine z_aload_n hC dX5_readStatement_78 rfl rfl ?_
    refine z_getR hC (q0 + 2) kF_X5_22 hq0.1 rfl dX5_readStatement_79 ?_
    refine z_iload_n hC dX5_readStatement_82 rfl rfl ?_
    obtain ⟨g6, h⟩ := gd_some h
    refine z_iald hC hq0.2.2.1 g6 dX5_readStatement_83 ?_
    refine z_iconst (v := nI 3) hC dX5_readStatement_84 (by decide) ?_
    refine z_icmp_ne hC 98 dX5_readStatement_85 (by decide) (fun b7 => ?_) (fun b7 => ?_)
    · rw [if_neg b7] at h
      refine z_mask [true, true, true, false, false, false] ?_
      exact s_X5_readStatement_98 hC hE q0 hq0 x1 x2 u5 h
    · rw [if_pos b7] at h
      refine z_aload_n hC dX5_readStatement_88 rfl rfl ?_
      refine z_iload_n hC dX5_readStatement_89 rfl rfl ?_
      obtain ⟨r8, u8, c8, h⟩ := mB_some h
      refine z_callI hC kC_X5_readCallee kM_X5_60 hq0.1 TX5 12 rfl (m_X5_readCallee hC.dis q0 hq0 x1 u5 c8) rfl (Nat.le_of_ble_eq_true rfl) (Nat.le_of_ble_eq_true rfl) (Nat.le_of_ble_eq_true rfl) rfl dX5_readStatement_90 ?_
      refine z_if_ne hC 98 dX5_readStatement_93 (by decide) (fun b9 => ?_) (fun b9 => ?_)
      · rw [if_neg b9] at h
        refine z_mask [true, true, true, false, false, false] ?_
        exact s_X5_readStatement_98 hC hE q0 hq0 x1 x2 u8 h
      · rw [if_pos b9] at h
        refine z_iconst (v := 0) hC dX5_readStatement_96 (by decide) ?_
        obtain rfl := Option.some.inj h
        exact z_zret hC hE rfl dX5_readStatement_97
  · rw [if_pos b1] at h
    refine z_iconst (v := 0) hC dX5_readStatement_56 (by decide) ?_
    obtain rfl := Option.some.inj h
    exact z_zret hC hE rfl dX5_readStatement_57
set_option maxHeartbeats 4000000 in
set_option maxRecDepth 100000 in
theorem s_X5_readStatement_46 {C : mCtx} (hC : mOK cX5_readStatement RX5 6 4 85 C) {res : Int32 × MU} (hE : mEndI C .boolean res.1 res.2) (q0 : Nat) (hq0 : okX5 q0) (x1 : Int32) (x2 : Int32) (u : MU) (h : b_X5_readStatement_46 q0 x1 x2 u = some res) : wat C u 46 [some (.ref (cS C q0)), some (.int x1), some (.int x2), none, none, none] [] := by
  unfold b_X5_readStatement_46 at h
  refine z_iconst (v := 1) hC dX5_readStatement_46 (by decide) ?_
  refine z_goto hC 51 dX5_readStatement_47 (by decide) ?_
  exact s_X5_readStatement_51 hC hE q0 hq0 x1 x2 1 u h
set_option maxHeartbeats 4000000 in
set_option maxRecDepth 100000 in
theorem s_X5_readStatement_0 {C : mCtx} (hC : mOK cX5_readStatement RX5 6 4 85 C) {res : Int32 × MU} (hE : mEndI C .boolean res.1 res.2) (q0 : Nat) (hq0 : okX5 q0) (x1 : Int32) (u : MU) (h : f_X5_readStatement q0 x1 u = some res) : wat C u 0 [some (.ref (cS C q0)), some (.int x1), none, none, none, none] [] := by
  unfold f_X5_readStatement at h
  refine z_aload_n hC dX5_readStatement_0 rfl rfl ?_
  refine z_getR hC (q0 + 1) kF_X5_9 hq0.1 rfl dX5_readStatement_1 ?_
  refine z_aload_n hC dX5_readStatement_4 rfl rfl ?_
  refine z_getI hC kF_X5_46 hq0.1 rfl dX5_readStatement_5 ?_
  obtain ⟨g1, h⟩ := gd_some h
  refine z_iald hC hq0.2.1 g1 dX5_readStatement_8 ?_
  refine y_istore_n hC [some (.ref (cS C q0)), some (.int x1), some (.int (u (q0 + 1) (u q0 11).toNatClampNeg)), none, none, none] dX5_readStatement_9 rfl rfl (Nat.le_of_ble_eq_true rfl) (Nat.le_of_ble_eq_true rfl) rfl ?_
  refine z_iload_n hC dX5_readStatement_10 rfl rfl ?_
  refine z_bipush (v := nI 61) hC dX5_readStatement_11 (by decide) ?_
  refine z_icmp_eq hC 46 dX5_readStatement_13 (by decide) (fun b2 => ?_) (fun b2 => ?_)
  · rw [if_pos b2] at h
    exact s_X5_readStatement_46 hC hE q0 hq0 x1 (u (q0 + 1) (u q0 11).toNatClampNeg) u h
  · rw [if_neg b2] at h
    refine z_iload_n hC dX5_readStatement_16 rfl rfl ?_
    refine z_bipush (v := nI 43) hC dX5_readStatement_17 (by decide) ?_
    refine z_icmp_eq hC 46 dX5_readStatement_19 (by decide) (fun b3 => ?_) (fun b3 => ?_)
    · rw [if_pos b3] at h
      exact s_X5_readStatement_46 hC hE q0 hq0 x1 (u (q0 + 1) (u q0 11).toNatClampNeg) u h
    · rw [if_neg b3] at h
      refine z_iload_n hC dX5_readStatement_22 rfl rfl ?_
      refine z_bipush (v := nI 35) hC dX5_readStatement_23 (by decide) ?_
      refine z_icmp_eq hC 46 dX5_readStatement_25 (by decide) (fun b4 => ?_) (fun b4 => ?_)
      · rw [if_pos b4] at h
        exact s_X5_readStatement_46 hC hE q0 hq0 x1 (u (q0 + 1) (u q0 11).toNatClampNeg) u h
      · rw [if_neg b4] at h
        refine z_iload_n hC dX5_readStatement_28 rfl rfl ?_
        refine z_bipush (v := nI 94) hC dX5_readStatement_29 (by decide) ?_
        refine z_icmp_eq hC 46 dX5_readStatement_31 (by decide) (fun b5 => ?_) (fun b5 => ?_)
        · rw [if_pos b5] at h
          exact s_X5_readStatement_46 hC hE q0 hq0 x1 (u (q0 + 1) (u q0 11).toNatClampNeg) u h
        · rw [if_neg b5] at h
          refine z_iload_n hC dX5_readStatement_34 rfl rfl ?_
          refine z_bipush (v := nI 63) hC dX5_readStatement_35 (by decide) ?_
          refine z_icmp_eq hC 46 dX5_readStatement_37 (by decide) (fun b6 => ?_) (fun b6 => ?_)
          · rw [if_pos b6] at h
            exact s_X5_readStatement_46 hC hE q0 hq0 x1 (u (q0 + 1) (u q0 11).toNatClampNeg) u h
          · rw [if_neg b6] at h
            refine z_iload_n hC dX5_readStatement_40 rfl rfl ?_
            refine z_bipush (v := nI 99) hC dX5_readStatement_41 (by decide) ?_
            refine z_icmp_ne hC 50 dX5_readStatement_43 (by decide) (fun b7 => ?_) (fun b7 => ?_)
            · rw [if_neg b7] at h
              refine z_iconst (v := 0) hC dX5_readStatement_50 (by decide) ?_
              exact s_X5_readStatement_51 hC hE q0 hq0 x1 (u (q0 + 1) (u q0 11).toNatClampNeg) 0 u h
            · rw [if_pos b7] at h
              exact s_X5_readStatement_46 hC hE q0 hq0 x1 (u (q0 + 1) (u q0 11).toNatClampNeg) u h
theorem m_X5_readStatement {l : Launch} {dC : Nat → ClassId} {dI : Nat → Nat → Nat} {dA : Nat → ClassId} {as : Nat → Nat} (hD : mDis as) (q0 : Nat) (hq0 : okX5 q0) (x1 : Int32) (u : MU) {r : Int32} {v : MU} (h : f_X5_readStatement q0 x1 u = some (r, v)) : mMI l dC dI dA as yX5_readStatement cX5_readStatement 6 .boolean 4 85 [.ref (as q0), .int x1] u r v := mMIof RX5 [some (.ref (as q0)), some (.int x1), none, none, none, none] hD (by decide +kernel) rfl (Nat.le_of_ble_eq_true rfl) rfl (fun C e1 e2 e3 e4 e5 hC hE => by subst e5; exact s_X5_readStatement_0 hC (res := (r, v)) hE q0 hq0 x1 u h)
set_option maxHeartbeats 4000000 in
set_option maxRecDepth 100000 in
theorem s_X5_readText_66 {C : mCtx} (hC : mOK cX5_readText RX5 3 5 110 C) {res : Int32 × MU} (hE : mEndV C res.2) (q0 : Nat) (hq0 : okX5 q0) (s1 : Int32) (u : MU) (h : b_X5_readText_66 q0 s1 u = some res) : wat C u 66 [none, none, none] [(.int s1), (.ref (cS C q0))] := by
  unfold b_X5_readText_66 at h
  obtain ⟨u1, e1, h⟩ := mS_some h
  refine y_putI hC kP_X5_19 hq0.1 rfl dX5_readText_66 e1 ?_
  obtain rfl := Option.some.inj h
  exact z_vret hC hE dX5_readText_69
set_option maxHeartbeats 4000000 in
set_option maxRecDepth 100000 in
theorem s_X5_readText_52 {C : mCtx} (hC : mOK cX5_readText RX5 3 5 110 C) {res : Int32 × MU} (hE : mEndV C res.2) (q0 : Nat) (hq0 : okX5 q0) (x1 : Int32) (u : MU) (h : b_X5_readText_52 q0 x1 u = some res) : wat C u 52 [some (.ref (cS C q0)), some (.int x1), none] [] := by
  unfold b_X5_readText_52 at h
  refine z_aload_n hC dX5_readText_52 rfl rfl ?_
  refine z_iload_n hC dX5_readText_53 rfl rfl ?_
  refine z_if_eq hC 62 dX5_readText_54 (by decide) (fun b1 => ?_) (fun b1 => ?_)
  · rw [if_pos b1] at h
    refine z_aload_n hC dX5_readText_62 rfl rfl ?_
    refine z_getI hC kF_X5_46 hq0.1 rfl dX5_readText_63 ?_
    refine z_mask [false, false, false] ?_
    exact s_X5_readText_66 hC hE q0 hq0 (u q0 11) u h
  · rw [if_neg b1] at h
    refine z_bipush (v := (-6)) hC dX5_readText_57 (by decide) ?_
    refine z_goto hC 66 dX5_readText_59 (by decide) ?_
    refine z_mask [false, false, false] ?_
    exact s_X5_readText_66 hC hE q0 hq0 ((-6)) u h
set_option maxHeartbeats 4000000 in
set_option maxRecDepth 100000 in
theorem s_X5_readText_19 {C : mCtx} (hC : mOK cX5_readText RX5 3 5 110 C) {res : Int32 × MU} (hE : mEndV C res.2) (q0 : Nat) (hq0 : okX5 q0) (k19 : Int32 → Int32 → MU → mR) (hk19 : ∀ (x1 : Int32) (x2 : Int32) (u : MU), k19 x1 x2 u = some res → wat C u 19 [some (.ref (cS C q0)), some (.int x1), some (.int x2)] []) (x1 : Int32) (x2 : Int32) (u : MU) (h : b_X5_readText_19 k19 q0 x1 x2 u = some res) : wat C u 19 [some (.ref (cS C q0)), some (.int x1), some (.int x2)] [] := by
  unfold b_X5_readText_19 at h
  refine z_iload_n hC dX5_readText_19 rfl rfl ?_
  refine z_bipush (v := nI 15) hC dX5_readText_20 (by decide) ?_
  refine z_icmp_ge hC 52 dX5_readText_22 (by decide) (fun b1 => ?_) (fun b1 => ?_)
  · rw [if_pos b1] at h
    refine z_mask [true, true, false] ?_
    exact s_X5_readText_52 hC hE q0 hq0 x1 u h
  · rw [if_neg b1] at h
    refine z_iload_n hC dX5_readText_25 rfl rfl ?_
    refine z_if_eq hC 52 dX5_readText_26 (by decide) (fun b2 => ?_) (fun b2 => ?_)
    · rw [if_pos b2] at h
      refine z_mask [true, true, false] ?_
      exact s_X5_readText_52 hC hE q0 hq0 x1 u h
    · rw [if_neg b2] at h
      refine z_aload_n hC dX5_readText_29 rfl rfl ?_
      refine z_getI hC kF_X5_46 hq0.1 rfl dX5_readText_30 ?_
      refine z_aload_n hC dX5_readText_33 rfl rfl ?_
      refine z_getI hC kF_X5_15 hq0.1 rfl dX5_readText_34 ?_
      refine z_icmp_ge hC 52 dX5_readText_37 (by decide) (fun b3 => ?_) (fun b3 => ?_)
      · rw [if_pos b3] at h
        refine z_mask [true, true, false] ?_
        exact s_X5_readText_52 hC hE q0 hq0 x1 u h
      · rw [if_neg b3] at h
        refine z_aload_n hC dX5_readText_40 rfl rfl ?_
        refine z_iload_n hC dX5_readText_41 rfl rfl ?_
        obtain ⟨r4, u4, c4, h⟩ := mB_some h
        refine z_callI hC kC_X5_readStatement kM_X5_52 hq0.1 TX5 12 rfl (m_X5_readStatement hC.dis q0 hq0 x2 u c4) rfl (Nat.le_of_ble_eq_true rfl) (Nat.le_of_ble_eq_true rfl) (Nat.le_of_ble_eq_true rfl) rfl dX5_readText_42 ?_
        refine y_istore_n hC [some (.ref (cS C q0)), some (.int r4), some (.int x2)] dX5_readText_45 rfl rfl (Nat.le_of_ble_eq_true rfl) (Nat.le_of_ble_eq_true rfl) rfl ?_
        refine y_iinc hC (x2 + 1) [some (.ref (cS C q0)), some (.int r4), some (.int (x2 + 1))] dX5_readText_46 rfl rfl rfl (Nat.le_of_ble_eq_true rfl) rfl ?_
        refine z_goto hC 19 dX5_readText_49 (by decide) ?_
        exact hk19 r4 (x2 + 1) u4 h
set_option maxHeartbeats 4000000 in
set_option maxRecDepth 100000 in
theorem t_X5_readText_19 {C : mCtx} (hC : mOK cX5_readText RX5 3 5 110 C) {res : Int32 × MU} (hE : mEndV C res.2) (q0 : Nat) (hq0 : okX5 q0) : ∀ (n : Nat) (x1 : Int32) (x2 : Int32) (u : MU), l_X5_readText_19 q0 n x1 x2 u = some res → wat C u 19 [some (.ref (cS C q0)), some (.int x1), some (.int x2)] [] := by
  intro n
  induction n with
  | zero => intro x1 x2 u h; exact absurd h (by simp [l_X5_readText_19])
  | succ n ih =>
    intro x1 x2 u h
    exact s_X5_readText_19 hC hE q0 hq0 (fun x1 x2 u => l_X5_readText_19 q0 n x1 x2 u) ih x1 x2 u h
set_option maxHeartbeats 4000000 in
set_option maxRecDepth 100000 in
theorem s_X5_readText_0 {C : mCtx} (hC : mOK cX5_readText RX5 3 5 110 C) {res : Int32 × MU} (hE : mEndV C res.2) (q0 : Nat) (hq0 : okX5 q0) (u : MU) (h : f_X5_readText q0 u = some res) : wat C u 0 [some (.ref (cS C q0)), none, none] [] := by
  unfold f_X5_readText at h
  refine z_aload_n hC dX5_readText_0 rfl rfl ?_
  refine z_iconst (v := 0) hC dX5_readText_1 (by decide) ?_
  obtain ⟨u1, e1, h⟩ := mS_some h
  refine y_putI hC kP_X5_46 hq0.1 rfl dX5_readText_2 e1 ?_
  refine z_aload_n hC dX5_readText_5 rfl rfl ?_
  refine z_iconst (v := 0) hC dX5_readText_6 (by decide) ?_
  obtain ⟨u2, e2, h⟩ := mS_some h
  refine y_putI hC kP_X5_34 hq0.1 rfl dX5_readText_7 e2 ?_
  refine z_aload_n hC dX5_readText_10 rfl rfl ?_
  refine z_iconst (v := 0) hC dX5_readText_11 (by decide) ?_
  obtain ⟨u3, e3, h⟩ := mS_some h
  refine y_putI hC kP_X5_43 hq0.1 rfl dX5_readText_12 e3 ?_
  refine z_iconst (v := 1) hC dX5_readText_15 (by decide) ?_
  refine y_istore_n hC [some (.ref (cS C q0)), some (.int 1), none] dX5_readText_16 rfl rfl (Nat.le_of_ble_eq_true rfl) (Nat.le_of_ble_eq_true rfl) rfl ?_
  refine z_iconst (v := 0) hC dX5_readText_17 (by decide) ?_
  refine y_istore_n hC [some (.ref (cS C q0)), some (.int 1), some (.int 0)] dX5_readText_18 rfl rfl (Nat.le_of_ble_eq_true rfl) (Nat.le_of_ble_eq_true rfl) rfl ?_
  exact t_X5_readText_19 hC hE q0 hq0 FU 1 0 u3 h
theorem m_X5_readText {l : Launch} {dC : Nat → ClassId} {dI : Nat → Nat → Nat} {dA : Nat → ClassId} {as : Nat → Nat} (hD : mDis as) (q0 : Nat) (hq0 : okX5 q0) (u : MU) {r : Int32} {v : MU} (h : f_X5_readText q0 u = some (r, v)) : mMV l dC dI dA as yX5_readText cX5_readText 3 5 110 [.ref (as q0)] u v := mMVof RX5 [some (.ref (as q0)), none, none] hD (by decide +kernel) rfl (Nat.le_of_ble_eq_true rfl) rfl (fun C e1 e2 e3 e4 e5 hC hE => by subst e5; exact s_X5_readText_0 hC (res := (r, v)) hE q0 hq0 u h)
set_option maxHeartbeats 4000000 in
set_option maxRecDepth 100000 in
theorem s_X5_append_0 {C : mCtx} (hC : mOK cX5_append RX5 2 6 132 C) {res : Int32 × MU} (hE : mEndV C res.2) (q0 : Nat) (hq0 : okX5 q0) (x1 : Int32) (u : MU) (h : f_X5_append q0 x1 u = some res) : wat C u 0 [some (.ref (cS C q0)), some (.int x1)] [] := by
  unfold f_X5_append at h
  refine z_aload_n hC dX5_append_0 rfl rfl ?_
  refine z_getI hC kF_X5_15 hq0.1 rfl dX5_append_1 ?_
  refine z_bipush (v := nI 30) hC dX5_append_4 (by decide) ?_
  refine z_icmp_ge hC 33 dX5_append_6 (by decide) (fun b1 => ?_) (fun b1 => ?_)
  · rw [if_pos b1] at h
    obtain rfl := Option.some.inj h
    exact z_vret hC hE dX5_append_33
  · rw [if_neg b1] at h
    refine z_aload_n hC dX5_append_9 rfl rfl ?_
    refine z_getR hC (q0 + 1) kF_X5_9 hq0.1 rfl dX5_append_10 ?_
    refine z_aload_n hC dX5_append_13 rfl rfl ?_
    refine z_getI hC kF_X5_15 hq0.1 rfl dX5_append_14 ?_
    refine z_iload_n hC dX5_append_17 rfl rfl ?_
    obtain ⟨g2, h⟩ := gd_some h
    obtain ⟨u3, e3, h⟩ := mS_some h
    refine y_iast hC hq0.2.1 g2 dX5_append_18 e3 ?_
    refine z_aload_n hC dX5_append_19 rfl rfl ?_
    refine z_dup hC dX5_append_20 rfl ?_
    refine z_getI hC kF_X5_15 hq0.1 rfl dX5_append_21 ?_
    refine z_iconst (v := 1) hC dX5_append_24 (by decide) ?_
    refine z_iadd hC dX5_append_25 ?_
    obtain ⟨u4, e4, h⟩ := mS_some h
    refine y_putI hC kP_X5_15 hq0.1 rfl dX5_append_26 e4 ?_
    refine z_aload_n hC dX5_append_29 rfl rfl ?_
    obtain ⟨r5, u5, c5, h⟩ := mB_some h
    refine z_callV hC kC_X5_readText kM_X5_49 hq0.1 TX5 12 rfl (m_X5_readText hC.dis q0 hq0 u4 c5) rfl (Nat.le_of_ble_eq_true rfl) (Nat.le_of_ble_eq_true rfl) (Nat.le_of_ble_eq_true rfl) rfl dX5_append_30 ?_
    obtain rfl := Option.some.inj h
    exact z_vret hC hE dX5_append_33
theorem m_X5_append {l : Launch} {dC : Nat → ClassId} {dI : Nat → Nat → Nat} {dA : Nat → ClassId} {as : Nat → Nat} (hD : mDis as) (q0 : Nat) (hq0 : okX5 q0) (x1 : Int32) (u : MU) {r : Int32} {v : MU} (h : f_X5_append q0 x1 u = some (r, v)) : mMV l dC dI dA as yX5_append cX5_append 2 6 132 [.ref (as q0), .int x1] u v := mMVof RX5 [some (.ref (as q0)), some (.int x1)] hD (by decide +kernel) rfl (Nat.le_of_ble_eq_true rfl) rfl (fun C e1 e2 e3 e4 e5 hC hE => by subst e5; exact s_X5_append_0 hC (res := (r, v)) hE q0 hq0 x1 u h)
set_option maxHeartbeats 4000000 in
set_option maxRecDepth 100000 in
theorem s_X5_empty_0 {C : mCtx} (hC : mOK cX5_empty RX5 1 6 132 C) {res : Int32 × MU} (hE : mEndV C res.2) (q0 : Nat) (hq0 : okX5 q0) (u : MU) (h : f_X5_empty q0 u = some res) : wat C u 0 [some (.ref (cS C q0))] [] := by
  unfold f_X5_empty at h
  refine z_aload_n hC dX5_empty_0 rfl rfl ?_
  refine z_iconst (v := 0) hC dX5_empty_1 (by decide) ?_
  obtain ⟨u1, e1, h⟩ := mS_some h
  refine y_putI hC kP_X5_15 hq0.1 rfl dX5_empty_2 e1 ?_
  refine z_aload_n hC dX5_empty_5 rfl rfl ?_
  obtain ⟨r2, u2, c2, h⟩ := mB_some h
  refine z_callV hC kC_X5_readText kM_X5_49 hq0.1 TX5 12 rfl (m_X5_readText hC.dis q0 hq0 u1 c2) rfl (Nat.le_of_ble_eq_true rfl) (Nat.le_of_ble_eq_true rfl) (Nat.le_of_ble_eq_true rfl) rfl dX5_empty_6 ?_
  obtain rfl := Option.some.inj h
  exact z_vret hC hE dX5_empty_9
theorem m_X5_empty {l : Launch} {dC : Nat → ClassId} {dI : Nat → Nat → Nat} {dA : Nat → ClassId} {as : Nat → Nat} (hD : mDis as) (q0 : Nat) (hq0 : okX5 q0) (u : MU) {r : Int32} {v : MU} (h : f_X5_empty q0 u = some (r, v)) : mMV l dC dI dA as yX5_empty cX5_empty 1 6 132 [.ref (as q0)] u v := mMVof RX5 [some (.ref (as q0))] hD (by decide +kernel) rfl (Nat.le_of_ble_eq_true rfl) rfl (fun C e1 e2 e3 e4 e5 hC hE => by subst e5; exact s_X5_empty_0 hC (res := (r, v)) hE q0 hq0 u h)
set_option maxHeartbeats 4000000 in
set_option maxRecDepth 100000 in
theorem s_X6_within_0 {C : mCtx} (hC : mOK cX6_within RX6 2 0 0 C) {res : Int32 × MU} (hE : mEndI C .boolean res.1 res.2) (x0 : Int32) (x1 : Int32) (u : MU) (h : f_X6_within x0 x1 u = some res) : wat C u 0 [some (.int x0), some (.int x1)] [] := by
  unfold f_X6_within at h
  refine z_iload_n hC dX6_within_0 rfl rfl ?_
  refine z_if_lt hC 13 dX6_within_1 (by decide) (fun b1 => ?_) (fun b1 => ?_)
  · rw [if_pos b1] at h
    refine z_iconst (v := 0) hC dX6_within_13 (by decide) ?_
    obtain rfl := Option.some.inj h
    exact z_zret hC hE rfl dX6_within_14
  · rw [if_neg b1] at h
    refine z_iload_n hC dX6_within_4 rfl rfl ?_
    refine z_iload_n hC dX6_within_5 rfl rfl ?_
    refine z_icmp_ge hC 13 dX6_within_6 (by decide) (fun b2 => ?_) (fun b2 => ?_)
    · rw [if_pos b2] at h
      refine z_iconst (v := 0) hC dX6_within_13 (by decide) ?_
      obtain rfl := Option.some.inj h
      exact z_zret hC hE rfl dX6_within_14
    · rw [if_neg b2] at h
      refine z_iconst (v := 1) hC dX6_within_9 (by decide) ?_
      refine z_goto hC 14 dX6_within_10 (by decide) ?_
      obtain rfl := Option.some.inj h
      exact z_zret hC hE rfl dX6_within_14
theorem m_X6_within {l : Launch} {dC : Nat → ClassId} {dI : Nat → Nat → Nat} {dA : Nat → ClassId} {as : Nat → Nat} (hD : mDis as) (x0 : Int32) (x1 : Int32) (u : MU) {r : Int32} {v : MU} (h : f_X6_within x0 x1 u = some (r, v)) : mMI l dC dI dA as yX6_within cX6_within 2 .boolean 0 0 [.int x0, .int x1] u r v := mMIof RX6 [some (.int x0), some (.int x1)] hD (by decide +kernel) rfl (Nat.le_of_ble_eq_true rfl) rfl (fun C e1 e2 e3 e4 e5 hC hE => by subst e5; exact s_X6_within_0 hC (res := (r, v)) hE x0 x1 u h)
set_option maxHeartbeats 4000000 in
set_option maxRecDepth 100000 in
theorem s_X6_say_0 {C : mCtx} (hC : mOK cX6_say RX6 3 7 153 C) {res : Int32 × MU} (hE : mEndI C .int res.1 res.2) (x1 : Int32) (x2 : Int32) (u : MU) (h : f_X6_say x1 x2 u = some res) : wat C u 0 [some (.ref (cS C 0)), some (.int x1), some (.int x2)] [] := by
  unfold f_X6_say at h
  refine z_iload_n hC dX6_say_0 rfl rfl ?_
  refine z_bipush (v := nI 6) hC dX6_say_1 (by decide) ?_
  obtain ⟨r1, u1, c1, h⟩ := mB_some h
  refine z_callSI hC kC_X6_within kM_X6_58 (m_X6_within hC.dis x1 (nI 6) u c1) rfl (Nat.le_of_ble_eq_true rfl) (Nat.le_of_ble_eq_true rfl) (Nat.le_of_ble_eq_true rfl) rfl dX6_say_3 ?_
  refine z_if_ne hC 11 dX6_say_6 (by decide) (fun b2 => ?_) (fun b2 => ?_)
  · rw [if_neg b2] at h
    refine z_iload_n hC dX6_say_11 rfl rfl ?_
    refine z_bipush (v := nI 33) hC dX6_say_12 (by decide) ?_
    refine z_icmp_lt hC 23 dX6_say_14 (by decide) (fun b3 => ?_) (fun b3 => ?_)
    · rw [if_pos b3] at h
      refine z_bipush (v := (-2)) hC dX6_say_23 (by decide) ?_
      obtain rfl := Option.some.inj h
      exact z_iret hC hE dX6_say_25
    · rw [if_neg b3] at h
      refine z_iload_n hC dX6_say_17 rfl rfl ?_
      refine z_bipush (v := nI 126) hC dX6_say_18 (by decide) ?_
      refine z_icmp_le hC 26 dX6_say_20 (by decide) (fun b4 => ?_) (fun b4 => ?_)
      · rw [if_pos b4] at h
        refine z_aload_n hC dX6_say_26 rfl rfl ?_
        refine z_getR hC 1 kF_X6_11 sh_0 rfl dX6_say_27 ?_
        refine z_iload_n hC dX6_say_30 rfl rfl ?_
        obtain ⟨g5, h⟩ := gd_some h
        refine z_aald hC (rtn x1) sh_1 (fun _ => rfl) g5 (rtn_at g5) dX6_say_31 ?_
        refine z_getI hC kF_X6_62 (rtn_ok g5).1 rfl dX6_say_32 ?_
        refine z_bipush (v := nI 30) hC dX6_say_35 (by decide) ?_
        refine z_icmp_lt hC 43 dX6_say_37 (by decide) (fun b6 => ?_) (fun b6 => ?_)
        · rw [if_pos b6] at h
          refine z_aload_n hC dX6_say_43 rfl rfl ?_
          refine z_getR hC 1 kF_X6_11 sh_0 rfl dX6_say_44 ?_
          refine z_iload_n hC dX6_say_47 rfl rfl ?_
          obtain ⟨g7, h⟩ := gd_some h
          refine z_aald hC (rtn x1) sh_1 (fun _ => rfl) g7 (rtn_at g7) dX6_say_48 ?_
          refine z_iload_n hC dX6_say_49 rfl rfl ?_
          obtain ⟨r8, u8, c8, h⟩ := mB_some h
          refine z_callV hC kC_X5_append kM_X6_66 (rtn_ok g7).1 TX5 12 rfl (m_X5_append hC.dis (rtn x1) ((rtn_ok g7)) x2 u1 c8) rfl (Nat.le_of_ble_eq_true rfl) (Nat.le_of_ble_eq_true rfl) (Nat.le_of_ble_eq_true rfl) rfl dX6_say_50 ?_
          refine z_aload_n hC dX6_say_53 rfl rfl ?_
          refine z_getR hC 2 kF_X6_18 sh_0 rfl dX6_say_54 ?_
          obtain ⟨r9, u9, c9, h⟩ := mB_some h
          refine z_callV hC kC_X0_forget kM_X6_70 sh_2 TX0 6 rfl (m_X0_forget hC.dis u8 c9) rfl (Nat.le_of_ble_eq_true rfl) (Nat.le_of_ble_eq_true rfl) (Nat.le_of_ble_eq_true rfl) rfl dX6_say_57 ?_
          refine z_aload_n hC dX6_say_60 rfl rfl ?_
          refine z_getR hC 1 kF_X6_11 sh_0 rfl dX6_say_61 ?_
          refine z_iload_n hC dX6_say_64 rfl rfl ?_
          obtain ⟨g10, h⟩ := gd_some h
          refine z_aald hC (rtn x1) sh_1 (fun _ => rfl) g10 (rtn_at g10) dX6_say_65 ?_
          refine z_getI hC kF_X6_62 (rtn_ok g10).1 rfl dX6_say_66 ?_
          obtain rfl := Option.some.inj h
          exact z_iret hC hE dX6_say_69
        · rw [if_neg b6] at h
          refine z_bipush (v := (-4)) hC dX6_say_40 (by decide) ?_
          obtain rfl := Option.some.inj h
          exact z_iret hC hE dX6_say_42
      · rw [if_neg b4] at h
        refine z_bipush (v := (-2)) hC dX6_say_23 (by decide) ?_
        obtain rfl := Option.some.inj h
        exact z_iret hC hE dX6_say_25
  · rw [if_pos b2] at h
    refine z_iconst (v := (-1)) hC dX6_say_9 (by decide) ?_
    obtain rfl := Option.some.inj h
    exact z_iret hC hE dX6_say_10
theorem m_X6_say {l : Launch} {dC : Nat → ClassId} {dI : Nat → Nat → Nat} {dA : Nat → ClassId} {as : Nat → Nat} (hD : mDis as) (x1 : Int32) (x2 : Int32) (u : MU) {r : Int32} {v : MU} (h : f_X6_say x1 x2 u = some (r, v)) : mMI l dC dI dA as yX6_say cX6_say 3 .int 7 153 [.ref (as 0), .int x1, .int x2] u r v := mMIof RX6 [some (.ref (as 0)), some (.int x1), some (.int x2)] hD (by decide +kernel) rfl (Nat.le_of_ble_eq_true rfl) rfl (fun C e1 e2 e3 e4 e5 hC hE => by subst e5; exact s_X6_say_0 hC (res := (r, v)) hE x1 x2 u h)
set_option maxHeartbeats 4000000 in
set_option maxRecDepth 100000 in
theorem s_X6_wipe_0 {C : mCtx} (hC : mOK cX6_wipe RX6 3 7 152 C) {res : Int32 × MU} (hE : mEndI C .int res.1 res.2) (x1 : Int32) (u : MU) (h : f_X6_wipe x1 u = some res) : wat C u 0 [some (.ref (cS C 0)), some (.int x1), none] [] := by
  unfold f_X6_wipe at h
  refine z_iload_n hC dX6_wipe_0 rfl rfl ?_
  refine z_bipush (v := nI 6) hC dX6_wipe_1 (by decide) ?_
  obtain ⟨r1, u1, c1, h⟩ := mB_some h
  refine z_callSI hC kC_X6_within kM_X6_58 (m_X6_within hC.dis x1 (nI 6) u c1) rfl (Nat.le_of_ble_eq_true rfl) (Nat.le_of_ble_eq_true rfl) (Nat.le_of_ble_eq_true rfl) rfl dX6_wipe_3 ?_
  refine z_if_ne hC 11 dX6_wipe_6 (by decide) (fun b2 => ?_) (fun b2 => ?_)
  · rw [if_neg b2] at h
    refine z_aload_n hC dX6_wipe_11 rfl rfl ?_
    refine z_getR hC 1 kF_X6_11 sh_0 rfl dX6_wipe_12 ?_
    refine z_iload_n hC dX6_wipe_15 rfl rfl ?_
    obtain ⟨g3, h⟩ := gd_some h
    refine z_aald hC (rtn x1) sh_1 (fun _ => rfl) g3 (rtn_at g3) dX6_wipe_16 ?_
    refine z_getI hC kF_X6_62 (rtn_ok g3).1 rfl dX6_wipe_17 ?_
    refine y_istore_n hC [some (.ref (cS C 0)), some (.int x1), some (.int (u1 (rtn x1) 1))] dX6_wipe_20 rfl rfl (Nat.le_of_ble_eq_true rfl) (Nat.le_of_ble_eq_true rfl) rfl ?_
    refine z_aload_n hC dX6_wipe_21 rfl rfl ?_
    refine z_getR hC 1 kF_X6_11 sh_0 rfl dX6_wipe_22 ?_
    refine z_iload_n hC dX6_wipe_25 rfl rfl ?_
    obtain ⟨g4, h⟩ := gd_some h
    refine z_aald hC (rtn x1) sh_1 (fun _ => rfl) g4 (rtn_at g4) dX6_wipe_26 ?_
    obtain ⟨r5, u5, c5, h⟩ := mB_some h
    refine z_callV hC kC_X5_empty kM_X6_73 (rtn_ok g4).1 TX5 12 rfl (m_X5_empty hC.dis (rtn x1) ((rtn_ok g4)) u1 c5) rfl (Nat.le_of_ble_eq_true rfl) (Nat.le_of_ble_eq_true rfl) (Nat.le_of_ble_eq_true rfl) rfl dX6_wipe_27 ?_
    refine z_aload_n hC dX6_wipe_30 rfl rfl ?_
    refine z_getR hC 2 kF_X6_18 sh_0 rfl dX6_wipe_31 ?_
    obtain ⟨r6, u6, c6, h⟩ := mB_some h
    refine z_callV hC kC_X0_forget kM_X6_70 sh_2 TX0 6 rfl (m_X0_forget hC.dis u5 c6) rfl (Nat.le_of_ble_eq_true rfl) (Nat.le_of_ble_eq_true rfl) (Nat.le_of_ble_eq_true rfl) rfl dX6_wipe_34 ?_
    refine z_iload_n hC dX6_wipe_37 rfl rfl ?_
    obtain rfl := Option.some.inj h
    exact z_iret hC hE dX6_wipe_38
  · rw [if_pos b2] at h
    refine z_iconst (v := (-1)) hC dX6_wipe_9 (by decide) ?_
    obtain rfl := Option.some.inj h
    exact z_iret hC hE dX6_wipe_10
theorem m_X6_wipe {l : Launch} {dC : Nat → ClassId} {dI : Nat → Nat → Nat} {dA : Nat → ClassId} {as : Nat → Nat} (hD : mDis as) (x1 : Int32) (u : MU) {r : Int32} {v : MU} (h : f_X6_wipe x1 u = some (r, v)) : mMI l dC dI dA as yX6_wipe cX6_wipe 3 .int 7 152 [.ref (as 0), .int x1] u r v := mMIof RX6 [some (.ref (as 0)), some (.int x1), none] hD (by decide +kernel) rfl (Nat.le_of_ble_eq_true rfl) rfl (fun C e1 e2 e3 e4 e5 hC hE => by subst e5; exact s_X6_wipe_0 hC (res := (r, v)) hE x1 u h)
set_option maxHeartbeats 4000000 in
set_option maxRecDepth 100000 in
theorem s_X6_fault_0 {C : mCtx} (hC : mOK cX6_fault RX6 2 1 21 C) {res : Int32 × MU} (hE : mEndI C .int res.1 res.2) (x1 : Int32) (u : MU) (h : f_X6_fault x1 u = some res) : wat C u 0 [some (.ref (cS C 0)), some (.int x1)] [] := by
  unfold f_X6_fault at h
  refine z_iload_n hC dX6_fault_0 rfl rfl ?_
  refine z_bipush (v := nI 6) hC dX6_fault_1 (by decide) ?_
  obtain ⟨r1, u1, c1, h⟩ := mB_some h
  refine z_callSI hC kC_X6_within kM_X6_58 (m_X6_within hC.dis x1 (nI 6) u c1) rfl (Nat.le_of_ble_eq_true rfl) (Nat.le_of_ble_eq_true rfl) (Nat.le_of_ble_eq_true rfl) rfl dX6_fault_3 ?_
  refine z_if_eq hC 21 dX6_fault_6 (by decide) (fun b2 => ?_) (fun b2 => ?_)
  · rw [if_pos b2] at h
    refine z_iconst (v := (-1)) hC dX6_fault_21 (by decide) ?_
    obtain rfl := Option.some.inj h
    exact z_iret hC hE dX6_fault_22
  · rw [if_neg b2] at h
    refine z_aload_n hC dX6_fault_9 rfl rfl ?_
    refine z_getR hC 1 kF_X6_11 sh_0 rfl dX6_fault_10 ?_
    refine z_iload_n hC dX6_fault_13 rfl rfl ?_
    obtain ⟨g3, h⟩ := gd_some h
    refine z_aald hC (rtn x1) sh_1 (fun _ => rfl) g3 (rtn_at g3) dX6_fault_14 ?_
    refine z_getI hC kF_X6_76 (rtn_ok g3).1 rfl dX6_fault_15 ?_
    refine z_goto hC 22 dX6_fault_18 (by decide) ?_
    obtain rfl := Option.some.inj h
    exact z_iret hC hE dX6_fault_22
theorem m_X6_fault {l : Launch} {dC : Nat → ClassId} {dI : Nat → Nat → Nat} {dA : Nat → ClassId} {as : Nat → Nat} (hD : mDis as) (x1 : Int32) (u : MU) {r : Int32} {v : MU} (h : f_X6_fault x1 u = some (r, v)) : mMI l dC dI dA as yX6_fault cX6_fault 2 .int 1 21 [.ref (as 0), .int x1] u r v := mMIof RX6 [some (.ref (as 0)), some (.int x1)] hD (by decide +kernel) rfl (Nat.le_of_ble_eq_true rfl) rfl (fun C e1 e2 e3 e4 e5 hC hE => by subst e5; exact s_X6_fault_0 hC (res := (r, v)) hE x1 u h)
set_option maxHeartbeats 4000000 in
set_option maxRecDepth 100000 in
theorem s_X6_set_0 {C : mCtx} (hC : mOK cX6_set RX6 4 1 21 C) {res : Int32 × MU} (hE : mEndI C .int res.1 res.2) (x1 : Int32) (x2 : Int32) (u : MU) (h : f_X6_set x1 x2 u = some res) : wat C u 0 [some (.ref (cS C 0)), some (.int x1), some (.int x2), none] [] := by
  unfold f_X6_set at h
  refine z_iload_n hC dX6_set_0 rfl rfl ?_
  refine z_bipush (v := nI 18) hC dX6_set_1 (by decide) ?_
  obtain ⟨r1, u1, c1, h⟩ := mB_some h
  refine z_callSI hC kC_X6_within kM_X6_58 (m_X6_within hC.dis x1 (nI 18) u c1) rfl (Nat.le_of_ble_eq_true rfl) (Nat.le_of_ble_eq_true rfl) (Nat.le_of_ble_eq_true rfl) rfl dX6_set_3 ?_
  refine z_if_ne hC 11 dX6_set_6 (by decide) (fun b2 => ?_) (fun b2 => ?_)
  · rw [if_neg b2] at h
    refine z_iload_n hC dX6_set_11 rfl rfl ?_
    refine z_bipush (v := nI 100) hC dX6_set_12 (by decide) ?_
    obtain ⟨r3, u3, c3, h⟩ := mB_some h
    refine z_callSI hC kC_X6_within kM_X6_58 (m_X6_within hC.dis x2 (nI 100) u1 c3) rfl (Nat.le_of_ble_eq_true rfl) (Nat.le_of_ble_eq_true rfl) (Nat.le_of_ble_eq_true rfl) rfl dX6_set_14 ?_
    refine z_if_ne hC 23 dX6_set_17 (by decide) (fun b4 => ?_) (fun b4 => ?_)
    · rw [if_neg b4] at h
      refine z_aload_n hC dX6_set_23 rfl rfl ?_
      refine z_getR hC 8 kF_X6_22 sh_0 rfl dX6_set_24 ?_
      refine z_iload_n hC dX6_set_27 rfl rfl ?_
      obtain ⟨g5, h⟩ := gd_some h
      refine z_iald hC sh_8 g5 dX6_set_28 ?_
      refine y_istore_n hC [some (.ref (cS C 0)), some (.int x1), some (.int x2), some (.int (u3 8 x1.toNatClampNeg))] dX6_set_29 rfl rfl (Nat.le_of_ble_eq_true rfl) (Nat.le_of_ble_eq_true rfl) rfl ?_
      refine z_aload_n hC dX6_set_30 rfl rfl ?_
      refine z_getR hC 8 kF_X6_22 sh_0 rfl dX6_set_31 ?_
      refine z_iload_n hC dX6_set_34 rfl rfl ?_
      refine z_iload_n hC dX6_set_35 rfl rfl ?_
      obtain ⟨g6, h⟩ := gd_some h
      obtain ⟨u7, e7, h⟩ := mS_some h
      refine y_iast hC sh_8 g6 dX6_set_36 e7 ?_
      refine z_iload_n hC dX6_set_37 rfl rfl ?_
      obtain rfl := Option.some.inj h
      exact z_iret hC hE dX6_set_38
    · rw [if_pos b4] at h
      refine z_bipush (v := (-2)) hC dX6_set_20 (by decide) ?_
      obtain rfl := Option.some.inj h
      exact z_iret hC hE dX6_set_22
  · rw [if_pos b2] at h
    refine z_iconst (v := (-1)) hC dX6_set_9 (by decide) ?_
    obtain rfl := Option.some.inj h
    exact z_iret hC hE dX6_set_10
theorem m_X6_set {l : Launch} {dC : Nat → ClassId} {dI : Nat → Nat → Nat} {dA : Nat → ClassId} {as : Nat → Nat} (hD : mDis as) (x1 : Int32) (x2 : Int32) (u : MU) {r : Int32} {v : MU} (h : f_X6_set x1 x2 u = some (r, v)) : mMI l dC dI dA as yX6_set cX6_set 4 .int 1 21 [.ref (as 0), .int x1, .int x2] u r v := mMIof RX6 [some (.ref (as 0)), some (.int x1), some (.int x2), none] hD (by decide +kernel) rfl (Nat.le_of_ble_eq_true rfl) rfl (fun C e1 e2 e3 e4 e5 hC hE => by subst e5; exact s_X6_set_0 hC (res := (r, v)) hE x1 x2 u h)
set_option maxHeartbeats 4000000 in
set_option maxRecDepth 100000 in
theorem s_X6_get_0 {C : mCtx} (hC : mOK cX6_get RX6 2 1 21 C) {res : Int32 × MU} (hE : mEndI C .int res.1 res.2) (x1 : Int32) (u : MU) (h : f_X6_get x1 u = some res) : wat C u 0 [some (.ref (cS C 0)), some (.int x1)] [] := by
  unfold f_X6_get at h
  refine z_iload_n hC dX6_get_0 rfl rfl ?_
  refine z_bipush (v := nI 18) hC dX6_get_1 (by decide) ?_
  obtain ⟨r1, u1, c1, h⟩ := mB_some h
  refine z_callSI hC kC_X6_within kM_X6_58 (m_X6_within hC.dis x1 (nI 18) u c1) rfl (Nat.le_of_ble_eq_true rfl) (Nat.le_of_ble_eq_true rfl) (Nat.le_of_ble_eq_true rfl) rfl dX6_get_3 ?_
  refine z_if_eq hC 18 dX6_get_6 (by decide) (fun b2 => ?_) (fun b2 => ?_)
  · rw [if_pos b2] at h
    refine z_iconst (v := (-1)) hC dX6_get_18 (by decide) ?_
    obtain rfl := Option.some.inj h
    exact z_iret hC hE dX6_get_19
  · rw [if_neg b2] at h
    refine z_aload_n hC dX6_get_9 rfl rfl ?_
    refine z_getR hC 8 kF_X6_22 sh_0 rfl dX6_get_10 ?_
    refine z_iload_n hC dX6_get_13 rfl rfl ?_
    obtain ⟨g3, h⟩ := gd_some h
    refine z_iald hC sh_8 g3 dX6_get_14 ?_
    refine z_goto hC 19 dX6_get_15 (by decide) ?_
    obtain rfl := Option.some.inj h
    exact z_iret hC hE dX6_get_19
theorem m_X6_get {l : Launch} {dC : Nat → ClassId} {dI : Nat → Nat → Nat} {dA : Nat → ClassId} {as : Nat → Nat} (hD : mDis as) (x1 : Int32) (u : MU) {r : Int32} {v : MU} (h : f_X6_get x1 u = some (r, v)) : mMI l dC dI dA as yX6_get cX6_get 2 .int 1 21 [.ref (as 0), .int x1] u r v := mMIof RX6 [some (.ref (as 0)), some (.int x1)] hD (by decide +kernel) rfl (Nat.le_of_ble_eq_true rfl) rfl (fun C e1 e2 e3 e4 e5 hC hE => by subst e5; exact s_X6_get_0 hC (res := (r, v)) hE x1 u h)
