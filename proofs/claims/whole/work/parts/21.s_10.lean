set_option maxHeartbeats 4000000 in
set_option maxRecDepth 100000 in
theorem s_X7_findStages_88 {C : mCtx} (hC : mOK cX7_findStages RX7 4 1 25 C) {res : Int32 × MU} (hE : mEndV C res.2) (k2 : Int32 → MU → mR) (hk2 : ∀ (x1 : Int32) (u : MU), k2 x1 u = some res → wat C u 2 [some (.ref (cS C 88)), some (.int x1), none, none] []) (k19 : Int32 → Int32 → MU → mR) (hk19 : ∀ (x1 : Int32) (x2 : Int32) (u : MU), k19 x1 x2 u = some res → wat C u 19 [some (.ref (cS C 88)), some (.int x1), some (.int x2), none] []) (x1 : Int32) (x2 : Int32) (s2 : Int32) (s1 : Int32) (u : MU) (h : b_X7_findStages_88 k2 k19 x1 x2 s2 s1 u = some res) : wat C u 88 [some (.ref (cS C 88)), some (.int x1), some (.int x2), none] [(.int s2), (.int s1), (.ref (cS C 100))] := by
  unfold b_X7_findStages_88 at h
  obtain ⟨g1, h⟩ := gd_some h
  obtain ⟨u2, e2, h⟩ := mS_some h
  refine y_iast hC sh_100 g1 dX7_findStages_88 e2 ?_
  refine y_iinc hC (x2 + 1) [some (.ref (cS C 88)), some (.int x1), some (.int (x2 + 1)), none] dX7_findStages_89 rfl rfl rfl (Nat.le_of_ble_eq_true rfl) rfl ?_
  refine z_goto hC 19 dX7_findStages_92 (by decide) ?_
  exact hk19 x1 (x2 + 1) u2 h
set_option maxHeartbeats 4000000 in
set_option maxRecDepth 100000 in
theorem s_X7_findStages_82 {C : mCtx} (hC : mOK cX7_findStages RX7 4 1 25 C) {res : Int32 × MU} (hE : mEndV C res.2) (k2 : Int32 → MU → mR) (hk2 : ∀ (x1 : Int32) (u : MU), k2 x1 u = some res → wat C u 2 [some (.ref (cS C 88)), some (.int x1), none, none] []) (k19 : Int32 → Int32 → MU → mR) (hk19 : ∀ (x1 : Int32) (x2 : Int32) (u : MU), k19 x1 x2 u = some res → wat C u 19 [some (.ref (cS C 88)), some (.int x1), some (.int x2), none] []) (x1 : Int32) (x2 : Int32) (s1 : Int32) (u : MU) (h : b_X7_findStages_82 k2 k19 x1 x2 s1 u = some res) : wat C u 82 [some (.ref (cS C 88)), some (.int x1), some (.int x2), none] [(.int s1), (.ref (cS C 100))] := by
  unfold b_X7_findStages_82 at h
  refine z_aload_n hC dX7_findStages_82 rfl rfl ?_
  refine z_getR hC 100 kF_X7_43 sh_88 rfl dX7_findStages_83 ?_
  refine z_iload_n hC dX7_findStages_86 rfl rfl ?_
  obtain ⟨g1, h⟩ := gd_some h
  refine z_iald hC sh_100 g1 dX7_findStages_87 ?_
  exact s_X7_findStages_88 hC hE k2 hk2 k19 hk19 x1 x2 (u 100 x1.toNatClampNeg) s1 u h
set_option maxHeartbeats 4000000 in
set_option maxRecDepth 100000 in
theorem s_X7_findStages_46 {C : mCtx} (hC : mOK cX7_findStages RX7 4 1 25 C) {res : Int32 × MU} (hE : mEndV C res.2) (k2 : Int32 → MU → mR) (hk2 : ∀ (x1 : Int32) (u : MU), k2 x1 u = some res → wat C u 2 [some (.ref (cS C 88)), some (.int x1), none, none] []) (k19 : Int32 → Int32 → MU → mR) (hk19 : ∀ (x1 : Int32) (x2 : Int32) (u : MU), k19 x1 x2 u = some res → wat C u 19 [some (.ref (cS C 88)), some (.int x1), some (.int x2), none] []) (x1 : Int32) (x2 : Int32) (s0 : Int32) (u : MU) (h : b_X7_findStages_46 k2 k19 x1 x2 s0 u = some res) : wat C u 46 [some (.ref (cS C 88)), some (.int x1), some (.int x2), none] [(.int s0)] := by
  unfold b_X7_findStages_46 at h
  refine y_istore_n hC [some (.ref (cS C 88)), some (.int x1), some (.int x2), some (.int s0)] dX7_findStages_46 rfl rfl (Nat.le_of_ble_eq_true rfl) (Nat.le_of_ble_eq_true rfl) rfl ?_
  refine z_aload_n hC dX7_findStages_47 rfl rfl ?_
  refine z_getR hC 100 kF_X7_43 sh_88 rfl dX7_findStages_48 ?_
  refine z_iload_n hC dX7_findStages_51 rfl rfl ?_
  refine z_iload_n hC dX7_findStages_52 rfl rfl ?_
  refine z_if_eq hC 82 dX7_findStages_53 (by decide) (fun b1 => ?_) (fun b1 => ?_)
  · rw [if_pos b1] at h
    refine z_mask [true, true, true, false] ?_
    exact s_X7_findStages_82 hC hE k2 hk2 k19 hk19 x1 x2 x1 u h
  · rw [if_neg b1] at h
    refine z_aload_n hC dX7_findStages_56 rfl rfl ?_
    refine z_getR hC 100 kF_X7_43 sh_88 rfl dX7_findStages_57 ?_
    refine z_iload_n hC dX7_findStages_60 rfl rfl ?_
    obtain ⟨g2, h⟩ := gd_some h
    refine z_iald hC sh_100 g2 dX7_findStages_61 ?_
    refine z_aload_n hC dX7_findStages_62 rfl rfl ?_
    refine z_getR hC 100 kF_X7_43 sh_88 rfl dX7_findStages_63 ?_
    refine z_iload_n hC dX7_findStages_66 rfl rfl ?_
    obtain ⟨g3, h⟩ := gd_some h
    refine z_iald hC sh_100 g3 dX7_findStages_67 ?_
    refine z_icmp_lt hC 82 dX7_findStages_68 (by decide) (fun b4 => ?_) (fun b4 => ?_)
    · rw [if_pos b4] at h
      refine z_mask [true, true, true, false] ?_
      exact s_X7_findStages_82 hC hE k2 hk2 k19 hk19 x1 x2 x1 u h
    · rw [if_neg b4] at h
      refine z_aload_n hC dX7_findStages_71 rfl rfl ?_
      refine z_getR hC 100 kF_X7_43 sh_88 rfl dX7_findStages_72 ?_
      refine z_iload_n hC dX7_findStages_75 rfl rfl ?_
      obtain ⟨g5, h⟩ := gd_some h
      refine z_iald hC sh_100 g5 dX7_findStages_76 ?_
      refine z_iconst (v := 1) hC dX7_findStages_77 (by decide) ?_
      refine z_iadd hC dX7_findStages_78 ?_
      refine z_goto hC 88 dX7_findStages_79 (by decide) ?_
      refine z_mask [true, true, true, false] ?_
      exact s_X7_findStages_88 hC hE k2 hk2 k19 hk19 x1 x2 ((u 100 x2.toNatClampNeg) + 1) x1 u h
set_option maxHeartbeats 4000000 in
set_option maxRecDepth 100000 in
theorem s_X7_findStages_19 {C : mCtx} (hC : mOK cX7_findStages RX7 4 1 25 C) {res : Int32 × MU} (hE : mEndV C res.2) (k2 : Int32 → MU → mR) (hk2 : ∀ (x1 : Int32) (u : MU), k2 x1 u = some res → wat C u 2 [some (.ref (cS C 88)), some (.int x1), none, none] []) (k19 : Int32 → Int32 → MU → mR) (hk19 : ∀ (x1 : Int32) (x2 : Int32) (u : MU), k19 x1 x2 u = some res → wat C u 19 [some (.ref (cS C 88)), some (.int x1), some (.int x2), none] []) (x1 : Int32) (x2 : Int32) (u : MU) (h : b_X7_findStages_19 k2 k19 x1 x2 u = some res) : wat C u 19 [some (.ref (cS C 88)), some (.int x1), some (.int x2), none] [] := by
  unfold b_X7_findStages_19 at h
  refine z_iload_n hC dX7_findStages_19 rfl rfl ?_
  refine z_iload_n hC dX7_findStages_20 rfl rfl ?_
  refine z_icmp_ge hC 95 dX7_findStages_21 (by decide) (fun b1 => ?_) (fun b1 => ?_)
  · rw [if_pos b1] at h
    refine y_iinc hC (x1 + 1) [some (.ref (cS C 88)), some (.int (x1 + 1)), some (.int x2), none] dX7_findStages_95 rfl rfl rfl (Nat.le_of_ble_eq_true rfl) rfl ?_
    refine z_goto hC 2 dX7_findStages_98 (by decide) ?_
    refine z_mask [true, true, false, false] ?_
    exact hk2 (x1 + 1) u h
  · rw [if_neg b1] at h
    refine z_aload_n hC dX7_findStages_24 rfl rfl ?_
    refine z_aload_n hC dX7_findStages_25 rfl rfl ?_
    refine z_iload_n hC dX7_findStages_26 rfl rfl ?_
    obtain ⟨r2, u2, c2, h⟩ := mB_some h
    refine z_callI hC kC_X7_effectOf kM_X7_209 sh_88 TX7 39 rfl (m_X7_effectOf hC.dis x2 u c2) rfl (Nat.le_of_ble_eq_true rfl) (Nat.le_of_ble_eq_true rfl) (Nat.le_of_ble_eq_true rfl) rfl dX7_findStages_27 ?_
    refine z_aload_n hC dX7_findStages_30 rfl rfl ?_
    refine z_iload_n hC dX7_findStages_31 rfl rfl ?_
    obtain ⟨r3, u3, c3, h⟩ := mB_some h
    refine z_callI hC kC_X7_effectOf kM_X7_209 sh_88 TX7 39 rfl (m_X7_effectOf hC.dis x1 u2 c3) rfl (Nat.le_of_ble_eq_true rfl) (Nat.le_of_ble_eq_true rfl) (Nat.le_of_ble_eq_true rfl) rfl dX7_findStages_32 ?_
    obtain ⟨r4, u4, c4, h⟩ := mB_some h
    refine z_callI hC kC_X7_causesOf kM_X7_200 sh_88 TX7 39 rfl (m_X7_causesOf hC.dis r2 r3 u3 c4) rfl (Nat.le_of_ble_eq_true rfl) (Nat.le_of_ble_eq_true rfl) (Nat.le_of_ble_eq_true rfl) rfl dX7_findStages_35 ?_
    refine z_if_eq hC 45 dX7_findStages_38 (by decide) (fun b5 => ?_) (fun b5 => ?_)
    · rw [if_pos b5] at h
      refine z_iconst (v := 0) hC dX7_findStages_45 (by decide) ?_
      exact s_X7_findStages_46 hC hE k2 hk2 k19 hk19 x1 x2 0 u4 h
    · rw [if_neg b5] at h
      refine z_iconst (v := 1) hC dX7_findStages_41 (by decide) ?_
      refine z_goto hC 46 dX7_findStages_42 (by decide) ?_
      exact s_X7_findStages_46 hC hE k2 hk2 k19 hk19 x1 x2 1 u4 h
set_option maxHeartbeats 4000000 in
set_option maxRecDepth 100000 in
theorem t_X7_findStages_19 {C : mCtx} (hC : mOK cX7_findStages RX7 4 1 25 C) {res : Int32 × MU} (hE : mEndV C res.2) (k2 : Int32 → MU → mR) (hk2 : ∀ (x1 : Int32) (u : MU), k2 x1 u = some res → wat C u 2 [some (.ref (cS C 88)), some (.int x1), none, none] []) : ∀ (n : Nat) (x1 : Int32) (x2 : Int32) (u : MU), l_X7_findStages_19 k2 n x1 x2 u = some res → wat C u 19 [some (.ref (cS C 88)), some (.int x1), some (.int x2), none] [] := by
  intro n
  induction n with
  | zero => intro x1 x2 u h; exact absurd h (by simp [l_X7_findStages_19])
  | succ n ih =>
    intro x1 x2 u h
    exact s_X7_findStages_19 hC hE k2 hk2 (fun x1 x2 u => l_X7_findStages_19 k2 n x1 x2 u) ih x1 x2 u h
set_option maxHeartbeats 4000000 in
set_option maxRecDepth 100000 in
theorem s_X7_findStages_149 {C : mCtx} (hC : mOK cX7_findStages RX7 4 1 25 C) {res : Int32 × MU} (hE : mEndV C res.2) (k103 : Int32 → MU → mR) (hk103 : ∀ (x1 : Int32) (u : MU), k103 x1 u = some res → wat C u 103 [some (.ref (cS C 88)), some (.int x1), none, none] []) (k120 : Int32 → Int32 → MU → mR) (hk120 : ∀ (x1 : Int32) (x2 : Int32) (u : MU), k120 x1 x2 u = some res → wat C u 120 [some (.ref (cS C 88)), some (.int x1), some (.int x2), none] []) (x1 : Int32) (x2 : Int32) (s3 : Int32) (s2 : Int32) (s1 : Int32) (u : MU) (h : b_X7_findStages_149 k103 k120 x1 x2 s3 s2 s1 u = some res) : wat C u 149 [some (.ref (cS C 88)), some (.int x1), some (.int x2), none] [(.int s3), (.int s2), (.int s1), (.ref (cS C 101))] := by
  unfold b_X7_findStages_149 at h
  refine z_iadd hC dX7_findStages_149 ?_
  obtain ⟨g1, h⟩ := gd_some h
  obtain ⟨u2, e2, h⟩ := mS_some h
  refine y_iast hC sh_101 g1 dX7_findStages_150 e2 ?_
  refine y_iinc hC (x2 + 1) [some (.ref (cS C 88)), some (.int x1), some (.int (x2 + 1)), none] dX7_findStages_151 rfl rfl rfl (Nat.le_of_ble_eq_true rfl) rfl ?_
  refine z_goto hC 120 dX7_findStages_154 (by decide) ?_
  exact hk120 x1 (x2 + 1) u2 h
set_option maxHeartbeats 4000000 in
set_option maxRecDepth 100000 in
theorem s_X7_findStages_120 {C : mCtx} (hC : mOK cX7_findStages RX7 4 1 25 C) {res : Int32 × MU} (hE : mEndV C res.2) (k103 : Int32 → MU → mR) (hk103 : ∀ (x1 : Int32) (u : MU), k103 x1 u = some res → wat C u 103 [some (.ref (cS C 88)), some (.int x1), none, none] []) (k120 : Int32 → Int32 → MU → mR) (hk120 : ∀ (x1 : Int32) (x2 : Int32) (u : MU), k120 x1 x2 u = some res → wat C u 120 [some (.ref (cS C 88)), some (.int x1), some (.int x2), none] []) (x1 : Int32) (x2 : Int32) (u : MU) (h : b_X7_findStages_120 k103 k120 x1 x2 u = some res) : wat C u 120 [some (.ref (cS C 88)), some (.int x1), some (.int x2), none] [] := by
  unfold b_X7_findStages_120 at h
  refine z_iload_n hC dX7_findStages_120 rfl rfl ?_
  refine z_aload_n hC dX7_findStages_121 rfl rfl ?_
  refine z_getI hC kF_X7_203 sh_88 rfl dX7_findStages_122 ?_
  refine z_icmp_ge hC 157 dX7_findStages_125 (by decide) (fun b1 => ?_) (fun b1 => ?_)
  · rw [if_pos b1] at h
    refine y_iinc hC (x1 + 1) [some (.ref (cS C 88)), some (.int (x1 + 1)), some (.int x2), none] dX7_findStages_157 rfl rfl rfl (Nat.le_of_ble_eq_true rfl) rfl ?_
    refine z_goto hC 103 dX7_findStages_160 (by decide) ?_
    refine z_mask [true, true, false, false] ?_
    exact hk103 (x1 + 1) u h
  · rw [if_neg b1] at h
    refine z_aload_n hC dX7_findStages_128 rfl rfl ?_
    refine z_getR hC 101 kF_X7_46 sh_88 rfl dX7_findStages_129 ?_
    refine z_iload_n hC dX7_findStages_132 rfl rfl ?_
    refine z_dup2 hC dX7_findStages_133 rfl rfl ?_
    obtain ⟨g2, h⟩ := gd_some h
    refine z_iald hC sh_101 g2 dX7_findStages_134 ?_
    refine z_aload_n hC dX7_findStages_135 rfl rfl ?_
    refine z_iload_n hC dX7_findStages_136 rfl rfl ?_
    refine z_iload_n hC dX7_findStages_137 rfl rfl ?_
    obtain ⟨r3, u3, c3, h⟩ := mB_some h
    refine z_callI hC kC_X7_isAhead kM_X7_216 sh_88 TX7 39 rfl (m_X7_isAhead hC.dis x2 x1 u c3) rfl (Nat.le_of_ble_eq_true rfl) (Nat.le_of_ble_eq_true rfl) (Nat.le_of_ble_eq_true rfl) rfl dX7_findStages_138 ?_
    refine z_if_eq hC 148 dX7_findStages_141 (by decide) (fun b4 => ?_) (fun b4 => ?_)
    · rw [if_pos b4] at h
      refine z_iconst (v := 0) hC dX7_findStages_148 (by decide) ?_
      exact s_X7_findStages_149 hC hE k103 hk103 k120 hk120 x1 x2 0 (u 101 x1.toNatClampNeg) x1 u3 h
    · rw [if_neg b4] at h
      refine z_iconst (v := 1) hC dX7_findStages_144 (by decide) ?_
      refine z_goto hC 149 dX7_findStages_145 (by decide) ?_
      exact s_X7_findStages_149 hC hE k103 hk103 k120 hk120 x1 x2 1 (u 101 x1.toNatClampNeg) x1 u3 h
set_option maxHeartbeats 4000000 in
set_option maxRecDepth 100000 in
theorem t_X7_findStages_120 {C : mCtx} (hC : mOK cX7_findStages RX7 4 1 25 C) {res : Int32 × MU} (hE : mEndV C res.2) (k103 : Int32 → MU → mR) (hk103 : ∀ (x1 : Int32) (u : MU), k103 x1 u = some res → wat C u 103 [some (.ref (cS C 88)), some (.int x1), none, none] []) : ∀ (n : Nat) (x1 : Int32) (x2 : Int32) (u : MU), l_X7_findStages_120 k103 n x1 x2 u = some res → wat C u 120 [some (.ref (cS C 88)), some (.int x1), some (.int x2), none] [] := by
  intro n
  induction n with
  | zero => intro x1 x2 u h; exact absurd h (by simp [l_X7_findStages_120])
  | succ n ih =>
    intro x1 x2 u h
    exact s_X7_findStages_120 hC hE k103 hk103 (fun x1 x2 u => l_X7_findStages_120 k103 n x1 x2 u) ih x1 x2 u h
set_option maxHeartbeats 4000000 in
set_option maxRecDepth 100000 in
theorem s_X7_findStages_103 {C : mCtx} (hC : mOK cX7_findStages RX7 4 1 25 C) {res : Int32 × MU} (hE : mEndV C res.2) (k103 : Int32 → MU → mR) (hk103 : ∀ (x1 : Int32) (u : MU), k103 x1 u = some res → wat C u 103 [some (.ref (cS C 88)), some (.int x1), none, none] []) (x1 : Int32) (u : MU) (h : b_X7_findStages_103 k103 x1 u = some res) : wat C u 103 [some (.ref (cS C 88)), some (.int x1), none, none] [] := by
  unfold b_X7_findStages_103 at h
  refine z_iload_n hC dX7_findStages_103 rfl rfl ?_
  refine z_aload_n hC dX7_findStages_104 rfl rfl ?_
  refine z_getI hC kF_X7_203 sh_88 rfl dX7_findStages_105 ?_
  refine z_icmp_ge hC 163 dX7_findStages_108 (by decide) (fun b1 => ?_) (fun b1 => ?_)
  · rw [if_pos b1] at h
    obtain rfl := Option.some.inj h
    exact z_vret hC hE dX7_findStages_163
  · rw [if_neg b1] at h
    refine z_aload_n hC dX7_findStages_111 rfl rfl ?_
    refine z_getR hC 101 kF_X7_46 sh_88 rfl dX7_findStages_112 ?_
    refine z_iload_n hC dX7_findStages_115 rfl rfl ?_
    refine z_iconst (v := 0) hC dX7_findStages_116 (by decide) ?_
    obtain ⟨g2, h⟩ := gd_some h
    obtain ⟨u3, e3, h⟩ := mS_some h
    refine y_iast hC sh_101 g2 dX7_findStages_117 e3 ?_
    refine z_iconst (v := 0) hC dX7_findStages_118 (by decide) ?_
    refine y_istore_n hC [some (.ref (cS C 88)), some (.int x1), some (.int 0), none] dX7_findStages_119 rfl rfl (Nat.le_of_ble_eq_true rfl) (Nat.le_of_ble_eq_true rfl) rfl ?_
    exact t_X7_findStages_120 hC hE k103 hk103 FU x1 0 u3 h
set_option maxHeartbeats 4000000 in
set_option maxRecDepth 100000 in
theorem t_X7_findStages_103 {C : mCtx} (hC : mOK cX7_findStages RX7 4 1 25 C) {res : Int32 × MU} (hE : mEndV C res.2) : ∀ (n : Nat) (x1 : Int32) (u : MU), l_X7_findStages_103 n x1 u = some res → wat C u 103 [some (.ref (cS C 88)), some (.int x1), none, none] [] := by
  intro n
  induction n with
  | zero => intro x1 u h; exact absurd h (by simp [l_X7_findStages_103])
  | succ n ih =>
    intro x1 u h
    exact s_X7_findStages_103 hC hE (fun x1 u => l_X7_findStages_103 n x1 u) ih x1 u h
set_option maxHeartbeats 4000000 in
set_option maxRecDepth 100000 in
theorem s_X7_findStages_2 {C : mCtx} (hC : mOK cX7_findStages RX7 4 1 25 C) {res : Int32 × MU} (hE : mEndV C res.2) (k2 : Int32 → MU → mR) (hk2 : ∀ (x1 : Int32) (u : MU), k2 x1 u = some res → wat C u 2 [some (.ref (cS C 88)), some (.int x1), none, none] []) (x1 : Int32) (u : MU) (h : b_X7_findStages_2 k2 x1 u = some res) : wat C u 2 [some (.ref (cS C 88)), some (.int x1), none, none] [] := by
  unfold b_X7_findStages_2 at h
  refine z_iload_n hC dX7_findStages_2 rfl rfl ?_
  refine z_aload_n hC dX7_findStages_3 rfl rfl ?_
  refine z_getI hC kF_X7_203 sh_88 rfl dX7_findStages_4 ?_
  refine z_icmp_ge hC 101 dX7_findStages_7 (by decide) (fun b1 => ?_) (fun b1 => ?_)
  · rw [if_pos b1] at h
    refine z_iconst (v := 0) hC dX7_findStages_101 (by decide) ?_
    refine y_istore_n hC [some (.ref (cS C 88)), some (.int 0), none, none] dX7_findStages_102 rfl rfl (Nat.le_of_ble_eq_true rfl) (Nat.le_of_ble_eq_true rfl) rfl ?_
    exact t_X7_findStages_103 hC hE FU 0 u h
  · rw [if_neg b1] at h
    refine z_aload_n hC dX7_findStages_10 rfl rfl ?_
    refine z_getR hC 100 kF_X7_43 sh_88 rfl dX7_findStages_11 ?_
    refine z_iload_n hC dX7_findStages_14 rfl rfl ?_
    refine z_iconst (v := 0) hC dX7_findStages_15 (by decide) ?_
    obtain ⟨g2, h⟩ := gd_some h
    obtain ⟨u3, e3, h⟩ := mS_some h
    refine y_iast hC sh_100 g2 dX7_findStages_16 e3 ?_
    refine z_iconst (v := 0) hC dX7_findStages_17 (by decide) ?_
    refine y_istore_n hC [some (.ref (cS C 88)), some (.int x1), some (.int 0), none] dX7_findStages_18 rfl rfl (Nat.le_of_ble_eq_true rfl) (Nat.le_of_ble_eq_true rfl) rfl ?_
    exact t_X7_findStages_19 hC hE k2 hk2 FU x1 0 u3 h
set_option maxHeartbeats 4000000 in
set_option maxRecDepth 100000 in
theorem t_X7_findStages_2 {C : mCtx} (hC : mOK cX7_findStages RX7 4 1 25 C) {res : Int32 × MU} (hE : mEndV C res.2) : ∀ (n : Nat) (x1 : Int32) (u : MU), l_X7_findStages_2 n x1 u = some res → wat C u 2 [some (.ref (cS C 88)), some (.int x1), none, none] [] := by
  intro n
  induction n with
  | zero => intro x1 u h; exact absurd h (by simp [l_X7_findStages_2])
  | succ n ih =>
    intro x1 u h
    exact s_X7_findStages_2 hC hE (fun x1 u => l_X7_findStages_2 n x1 u) ih x1 u h
set_option maxHeartbeats 4000000 in
set_option maxRecDepth 100000 in
theorem s_X7_findStages_0 {C : mCtx} (hC : mOK cX7_findStages RX7 4 1 25 C) {res : Int32 × MU} (hE : mEndV C res.2) (u : MU) (h : f_X7_findStages u = some res) : wat C u 0 [some (.ref (cS C 88)), none, none, none] [] := by
  unfold f_X7_findStages at h
  refine z_iconst (v := 0) hC dX7_findStages_0 (by decide) ?_
  refine y_istore_n hC [some (.ref (cS C 88)), some (.int 0), none, none] dX7_findStages_1 rfl rfl (Nat.le_of_ble_eq_true rfl) (Nat.le_of_ble_eq_true rfl) rfl ?_
  exact t_X7_findStages_2 hC hE FU 0 u h
theorem m_X7_findStages {l : Launch} {dC : Nat → ClassId} {dI : Nat → Nat → Nat} {dA : Nat → ClassId} {as : Nat → Nat} (hD : mDis as) (u : MU) {r : Int32} {v : MU} (h : f_X7_findStages u = some (r, v)) : mMV l dC dI dA as yX7_findStages cX7_findStages 4 1 25 [.ref (as 88)] u v := mMVof RX7 [some (.ref (as 88)), none, none, none] hD (by decide +kernel) rfl (Nat.le_of_ble_eq_true rfl) rfl (fun C e1 e2 e3 e4 e5 hC hE => by subst e5; exact s_X7_findStages_0 hC (res := (r, v)) hE u h)
set_option maxHeartbeats 4000000 in
set_option maxRecDepth 100000 in
theorem s_X7_isFound_0 {C : mCtx} (hC : mOK cX7_isFound RX7 1 8 177 C) {res : Int32 × MU} (hE : mEndI C .boolean res.1 res.2) (u : MU) (h : f_X7_isFound u = some res) : wat C u 0 [some (.ref (cS C 88))] [] := by
  unfold f_X7_isFound at h
  refine z_aload_n hC dX7_isFound_0 rfl rfl ?_
  obtain ⟨r1, u1, c1, h⟩ := mB_some h
  refine z_callV hC kC_X7_findEffects kM_X7_194 sh_88 TX7 39 rfl (m_X7_findEffects hC.dis u c1) rfl (Nat.le_of_ble_eq_true rfl) (Nat.le_of_ble_eq_true rfl) (Nat.le_of_ble_eq_true rfl) rfl dX7_isFound_1 ?_
  refine z_aload_n hC dX7_isFound_4 rfl rfl ?_
  obtain ⟨r2, u2, c2, h⟩ := mB_some h
  refine z_callI hC kC_X7_isAllKnown kM_X7_220 sh_88 TX7 39 rfl (m_X7_isAllKnown hC.dis u1 c2) rfl (Nat.le_of_ble_eq_true rfl) (Nat.le_of_ble_eq_true rfl) (Nat.le_of_ble_eq_true rfl) rfl dX7_isFound_5 ?_
  refine z_if_ne hC 13 dX7_isFound_8 (by decide) (fun b3 => ?_) (fun b3 => ?_)
  · rw [if_neg b3] at h
    refine z_aload_n hC dX7_isFound_13 rfl rfl ?_
    obtain ⟨r4, u4, c4, h⟩ := mB_some h
    refine z_callV hC kC_X7_findStages kM_X7_223 sh_88 TX7 39 rfl (m_X7_findStages hC.dis u2 c4) rfl (Nat.le_of_ble_eq_true rfl) (Nat.le_of_ble_eq_true rfl) (Nat.le_of_ble_eq_true rfl) rfl dX7_isFound_14 ?_
    refine z_iconst (v := 1) hC dX7_isFound_17 (by decide) ?_
    obtain rfl := Option.some.inj h
    exact z_zret hC hE rfl dX7_isFound_18
  · rw [if_pos b3] at h
    refine z_iconst (v := 0) hC dX7_isFound_11 (by decide) ?_
    obtain rfl := Option.some.inj h
    exact z_zret hC hE rfl dX7_isFound_12
theorem m_X7_isFound {l : Launch} {dC : Nat → ClassId} {dI : Nat → Nat → Nat} {dA : Nat → ClassId} {as : Nat → Nat} (hD : mDis as) (u : MU) {r : Int32} {v : MU} (h : f_X7_isFound u = some (r, v)) : mMI l dC dI dA as yX7_isFound cX7_isFound 1 .boolean 8 177 [.ref (as 88)] u r v := mMIof RX7 [some (.ref (as 88))] hD (by decide +kernel) rfl (Nat.le_of_ble_eq_true rfl) rfl (fun C e1 e2 e3 e4 e5 hC hE => by subst e5; exact s_X7_isFound_0 hC (res := (r, v)) hE u h)
set_option maxHeartbeats 4000000 in
set_option maxRecDepth 100000 in
theorem s_X7_told_0 {C : mCtx} (hC : mOK cX7_told RX7 3 9 197 C) {res : Int32 × MU} (hE : mEndI C .int res.1 res.2) (x1 : Int32) (x2 : Int32) (u : MU) (h : f_X7_told x1 x2 u = some res) : wat C u 0 [some (.ref (cS C 88)), some (.int x1), some (.int x2)] [] := by
  unfold f_X7_told at h
  refine z_aload_n hC dX7_told_0 rfl rfl ?_
  refine z_iload_n hC dX7_told_1 rfl rfl ?_
  obtain ⟨r1, u1, c1, h⟩ := mB_some h
  refine z_callI hC kC_X7_isCall kM_X7_206 sh_88 TX7 39 rfl (m_X7_isCall hC.dis x1 u c1) rfl (Nat.le_of_ble_eq_true rfl) (Nat.le_of_ble_eq_true rfl) (Nat.le_of_ble_eq_true rfl) rfl dX7_told_2 ?_
  refine z_if_ne hC 10 dX7_told_5 (by decide) (fun b2 => ?_) (fun b2 => ?_)
  · rw [if_neg b2] at h
    refine z_iload_n hC dX7_told_10 rfl rfl ?_
    refine z_i2l hC dX7_told_11 ?_
    refine z_lconst (v := 0) hC dX7_told_12 (by decide) ?_
    refine z_ldc2 hC kN_X7_192 dX7_told_13 ?_
    obtain ⟨r3, u3, c3, h⟩ := mB_some h
    refine z_callSI hC kC_X7_in kM_X7_79 (m_X7_in hC.dis x2.toInt64 0 3 u1 c3) rfl (Nat.le_of_ble_eq_true rfl) (Nat.le_of_ble_eq_true rfl) (Nat.le_of_ble_eq_true rfl) rfl dX7_told_16 ?_
    refine z_if_ne hC 25 dX7_told_19 (by decide) (fun b4 => ?_) (fun b4 => ?_)
    · rw [if_neg b4] at h
      refine z_iload_n hC dX7_told_25 rfl rfl ?_
      refine z_iconst (v := nI 2) hC dX7_told_26 (by decide) ?_
      refine z_icmp_ge hC 50 dX7_told_27 (by decide) (fun b5 => ?_) (fun b5 => ?_)
      · rw [if_pos b5] at h
        refine z_aload_n hC dX7_told_50 rfl rfl ?_
        obtain ⟨r6, u6, c6, h⟩ := mB_some h
        refine z_callI hC kC_X7_isFound kM_X7_226 sh_88 TX7 39 rfl (m_X7_isFound hC.dis u3 c6) rfl (Nat.le_of_ble_eq_true rfl) (Nat.le_of_ble_eq_true rfl) (Nat.le_of_ble_eq_true rfl) rfl dX7_told_51 ?_
        refine z_if_ne hC 62 dX7_told_54 (by decide) (fun b7 => ?_) (fun b7 => ?_)
        · rw [if_neg b7] at h
          refine z_iload_n hC dX7_told_62 rfl rfl ?_
          refine z_iconst (v := nI 2) hC dX7_told_63 (by decide) ?_
          refine z_icmp_ne hC 76 dX7_told_64 (by decide) (fun b8 => ?_) (fun b8 => ?_)
          · rw [if_neg b8] at h
            refine z_aload_n hC dX7_told_76 rfl rfl ?_
            refine z_getR hC 101 kF_X7_46 sh_88 rfl dX7_told_77 ?_
            refine z_iload_n hC dX7_told_80 rfl rfl ?_
            obtain ⟨g9, h⟩ := gd_some h
            refine z_iald hC sh_101 g9 dX7_told_81 ?_
            obtain rfl := Option.some.inj h
            exact z_iret hC hE dX7_told_82
          · rw [if_pos b8] at h
            refine z_aload_n hC dX7_told_67 rfl rfl ?_
            refine z_getR hC 100 kF_X7_43 sh_88 rfl dX7_told_68 ?_
            refine z_iload_n hC dX7_told_71 rfl rfl ?_
            obtain ⟨g10, h⟩ := gd_some h
            refine z_iald hC sh_100 g10 dX7_told_72 ?_
            refine z_goto hC 82 dX7_told_73 (by decide) ?_
            obtain rfl := Option.some.inj h
            exact z_iret hC hE dX7_told_82
        · rw [if_pos b7] at h
          refine z_bipush (v := (-5)) hC dX7_told_57 (by decide) ?_
          refine z_goto hC 82 dX7_told_59 (by decide) ?_
          obtain rfl := Option.some.inj h
          exact z_iret hC hE dX7_told_82
      · rw [if_neg b5] at h
        refine z_iload_n hC dX7_told_30 rfl rfl ?_
        refine z_if_ne hC 43 dX7_told_31 (by decide) (fun b11 => ?_) (fun b11 => ?_)
        · rw [if_neg b11] at h
          refine z_aload_n hC dX7_told_43 rfl rfl ?_
          refine z_getR hC 93 kF_X7_22 sh_88 rfl dX7_told_44 ?_
          refine z_iload_n hC dX7_told_47 rfl rfl ?_
          obtain ⟨g12, h⟩ := gd_some h
          refine z_iald hC sh_93 g12 dX7_told_48 ?_
          obtain rfl := Option.some.inj h
          exact z_iret hC hE dX7_told_49
        · rw [if_pos b11] at h
          refine z_aload_n hC dX7_told_34 rfl rfl ?_
          refine z_getR hC 92 kF_X7_19 sh_88 rfl dX7_told_35 ?_
          refine z_iload_n hC dX7_told_38 rfl rfl ?_
          obtain ⟨g13, h⟩ := gd_some h
          refine z_iald hC sh_92 g13 dX7_told_39 ?_
          refine z_goto hC 49 dX7_told_40 (by decide) ?_
          obtain rfl := Option.some.inj h
          exact z_iret hC hE dX7_told_49
    · rw [if_pos b4] at h
      refine z_bipush (v := (-2)) hC dX7_told_22 (by decide) ?_
      obtain rfl := Option.some.inj h
      exact z_iret hC hE dX7_told_24
  · rw [if_pos b2] at h
    refine z_iconst (v := (-1)) hC dX7_told_8 (by decide) ?_
    obtain rfl := Option.some.inj h
    exact z_iret hC hE dX7_told_9
theorem m_X7_told {l : Launch} {dC : Nat → ClassId} {dI : Nat → Nat → Nat} {dA : Nat → ClassId} {as : Nat → Nat} (hD : mDis as) (x1 : Int32) (x2 : Int32) (u : MU) {r : Int32} {v : MU} (h : f_X7_told x1 x2 u = some (r, v)) : mMI l dC dI dA as yX7_told cX7_told 3 .int 9 197 [.ref (as 88), .int x1, .int x2] u r v := mMIof RX7 [some (.ref (as 88)), some (.int x1), some (.int x2)] hD (by decide +kernel) rfl (Nat.le_of_ble_eq_true rfl) rfl (fun C e1 e2 e3 e4 e5 hC hE => by subst e5; exact s_X7_told_0 hC (res := (r, v)) hE x1 x2 u h)
set_option maxHeartbeats 4000000 in
set_option maxRecDepth 100000 in
theorem s_X7_stageMany_34 {C : mCtx} (hC : mOK cX7_stageMany RX7 3 0 0 C) {res : Int32 × MU} (hE : mEndI C .int res.1 res.2) (k4 : Int32 → Int32 → MU → mR) (hk4 : ∀ (x1 : Int32) (x2 : Int32) (u : MU), k4 x1 x2 u = some res → wat C u 4 [some (.ref (cS C 88)), some (.int x1), some (.int x2)] []) (x2 : Int32) (s0 : Int32) (u : MU) (h : b_X7_stageMany_34 k4 x2 s0 u = some res) : wat C u 34 [some (.ref (cS C 88)), none, some (.int x2)] [(.int s0)] := by
  unfold b_X7_stageMany_34 at h
  refine y_istore_n hC [some (.ref (cS C 88)), some (.int s0), some (.int x2)] dX7_stageMany_34 rfl rfl (Nat.le_of_ble_eq_true rfl) (Nat.le_of_ble_eq_true rfl) rfl ?_
  refine y_iinc hC (x2 + 1) [some (.ref (cS C 88)), some (.int s0), some (.int (x2 + 1))] dX7_stageMany_35 rfl rfl rfl (Nat.le_of_ble_eq_true rfl) rfl ?_
  refine z_goto hC 4 dX7_stageMany_38 (by decide) ?_
  exact hk4 s0 (x2 + 1) u h
set_option maxHeartbeats 4000000 in
set_option maxRecDepth 100000 in
theorem s_X7_stageMany_4 {C : mCtx} (hC : mOK cX7_stageMany RX7 3 0 0 C) {res : Int32 × MU} (hE : mEndI C .int res.1 res.2) (k4 : Int32 → Int32 → MU → mR) (hk4 : ∀ (x1 : Int32) (x2 : Int32) (u : MU), k4 x1 x2 u = some res → wat C u 4 [some (.ref (cS C 88)), some (.int x1), some (.int x2)] []) (x1 : Int32) (x2 : Int32) (u : MU) (h : b_X7_stageMany_4 k4 x1 x2 u = some res) : wat C u 4 [some (.ref (cS C 88)), some (.int x1), some (.int x2)] [] := by
  unfold b_X7_stageMany_4 at h
  refine z_iload_n hC dX7_stageMany_4 rfl rfl ?_
  refine z_aload_n hC dX7_stageMany_5 rfl rfl ?_
  refine z_getI hC kF_X7_203 sh_88 rfl dX7_stageMany_6 ?_
  refine z_icmp_ge hC 41 dX7_stageMany_9 (by decide) (fun b1 => ?_) (fun b1 => ?_)
  · rw [if_pos b1] at h
    refine z_iload_n hC dX7_stageMany_41 rfl rfl ?_
    obtain rfl := Option.some.inj h
    exact z_iret hC hE dX7_stageMany_42
  · rw [if_neg b1] at h
    refine z_aload_n hC dX7_stageMany_12 rfl rfl ?_
    refine z_getR hC 100 kF_X7_43 sh_88 rfl dX7_stageMany_13 ?_
    refine z_iload_n hC dX7_stageMany_16 rfl rfl ?_
    obtain ⟨g2, h⟩ := gd_some h
    refine z_iald hC sh_100 g2 dX7_stageMany_17 ?_
    refine z_iload_n hC dX7_stageMany_18 rfl rfl ?_
    refine z_icmp_lt hC 33 dX7_stageMany_19 (by decide) (fun b3 => ?_) (fun b3 => ?_)
    · rw [if_pos b3] at h
      refine z_iload_n hC dX7_stageMany_33 rfl rfl ?_
      refine z_mask [true, false, true] ?_
      exact s_X7_stageMany_34 hC hE k4 hk4 x2 x1 u h
    · rw [if_neg b3] at h
      refine z_aload_n hC dX7_stageMany_22 rfl rfl ?_
      refine z_getR hC 100 kF_X7_43 sh_88 rfl dX7_stageMany_23 ?_
      refine z_iload_n hC dX7_stageMany_26 rfl rfl ?_
      obtain ⟨g4, h⟩ := gd_some h
      refine z_iald hC sh_100 g4 dX7_stageMany_27 ?_
      refine z_iconst (v := 1) hC dX7_stageMany_28 (by decide) ?_
      refine z_iadd hC dX7_stageMany_29 ?_
      refine z_goto hC 34 dX7_stageMany_30 (by decide) ?_
      refine z_mask [true, false, true] ?_
      exact s_X7_stageMany_34 hC hE k4 hk4 x2 ((u 100 x2.toNatClampNeg) + 1) u h
set_option maxHeartbeats 4000000 in
set_option maxRecDepth 100000 in
theorem t_X7_stageMany_4 {C : mCtx} (hC : mOK cX7_stageMany RX7 3 0 0 C) {res : Int32 × MU} (hE : mEndI C .int res.1 res.2) : ∀ (n : Nat) (x1 : Int32) (x2 : Int32) (u : MU), l_X7_stageMany_4 n x1 x2 u = some res → wat C u 4 [some (.ref (cS C 88)), some (.int x1), some (.int x2)] [] := by
  intro n
  induction n with
  | zero => intro x1 x2 u h; exact absurd h (by simp [l_X7_stageMany_4])
  | succ n ih =>
    intro x1 x2 u h
    exact s_X7_stageMany_4 hC hE (fun x1 x2 u => l_X7_stageMany_4 n x1 x2 u) ih x1 x2 u h
set_option maxHeartbeats 4000000 in
set_option maxRecDepth 100000 in
theorem s_X7_stageMany_0 {C : mCtx} (hC : mOK cX7_stageMany RX7 3 0 0 C) {res : Int32 × MU} (hE : mEndI C .int res.1 res.2) (u : MU) (h : f_X7_stageMany u = some res) : wat C u 0 [some (.ref (cS C 88)), none, none] [] := by
  unfold f_X7_stageMany at h
  refine z_iconst (v := 0) hC dX7_stageMany_0 (by decide) ?_
  refine y_istore_n hC [some (.ref (cS C 88)), some (.int 0), none] dX7_stageMany_1 rfl rfl (Nat.le_of_ble_eq_true rfl) (Nat.le_of_ble_eq_true rfl) rfl ?_
  refine z_iconst (v := 0) hC dX7_stageMany_2 (by decide) ?_
  refine y_istore_n hC [some (.ref (cS C 88)), some (.int 0), some (.int 0)] dX7_stageMany_3 rfl rfl (Nat.le_of_ble_eq_true rfl) (Nat.le_of_ble_eq_true rfl) rfl ?_
  exact t_X7_stageMany_4 hC hE FU 0 0 u h
theorem m_X7_stageMany {l : Launch} {dC : Nat → ClassId} {dI : Nat → Nat → Nat} {dA : Nat → ClassId} {as : Nat → Nat} (hD : mDis as) (u : MU) {r : Int32} {v : MU} (h : f_X7_stageMany u = some (r, v)) : mMI l dC dI dA as yX7_stageMany cX7_stageMany 3 .int 0 0 [.ref (as 88)] u r v := mMIof RX7 [some (.ref (as 88)), none, none] hD (by decide +kernel) rfl (Nat.le_of_ble_eq_true rfl) rfl (fun C e1 e2 e3 e4 e5 hC hE => by subst e5; exact s_X7_stageMany_0 hC (res := (r, v)) hE u h)
set_option maxHeartbeats 4000000 in
set_option maxRecDepth 100000 in
theorem s_X7_callsAt_28 {C : mCtx} (hC : mOK cX7_callsAt RX7 4 0 0 C) {res : Int32 × MU} (hE : mEndI C .int res.1 res.2) (x1 : Int32) (k4 : Int32 → Int32 → MU → mR) (hk4 : ∀ (x2 : Int32) (x3 : Int32) (u : MU), k4 x2 x3 u = some res → wat C u 4 [some (.ref (cS C 88)), some (.int x1), some (.int x2), some (.int x3)] []) (x3 : Int32) (s1 : Int32) (s0 : Int32) (u : MU) (h : b_X7_callsAt_28 k4 x1 x3 s1 s0 u = some res) : wat C u 28 [some (.ref (cS C 88)), some (.int x1), none, some (.int x3)] [(.int s1), (.int s0)] := by
  unfold b_X7_callsAt_28 at h
  refine z_iadd hC dX7_callsAt_28 ?_
  refine y_istore_n hC [some (.ref (cS C 88)), some (.int x1), some (.int (s0 + s1)), some (.int x3)] dX7_callsAt_29 rfl rfl (Nat.le_of_ble_eq_true rfl) (Nat.le_of_ble_eq_true rfl) rfl ?_
  refine y_iinc hC (x3 + 1) [some (.ref (cS C 88)), some (.int x1), some (.int (s0 + s1)), some (.int (x3 + 1))] dX7_callsAt_30 rfl rfl rfl (Nat.le_of_ble_eq_true rfl) rfl ?_
  refine z_goto hC 4 dX7_callsAt_33 (by decide) ?_
  exact hk4 (s0 + s1) (x3 + 1) u h
set_option maxHeartbeats 4000000 in
set_option maxRecDepth 100000 in
theorem s_X7_callsAt_4 {C : mCtx} (hC : mOK cX7_callsAt RX7 4 0 0 C) {res : Int32 × MU} (hE : mEndI C .int res.1 res.2) (x1 : Int32) (k4 : Int32 → Int32 → MU → mR) (hk4 : ∀ (x2 : Int32) (x3 : Int32) (u : MU), k4 x2 x3 u = some res → wat C u 4 [some (.ref (cS C 88)), some (.int x1), some (.int x2), some (.int x3)] []) (x2 : Int32) (x3 : Int32) (u : MU) (h : b_X7_callsAt_4 k4 x1 x2 x3 u = some res) : wat C u 4 [some (.ref (cS C 88)), some (.int x1), some (.int x2), some (.int x3)] [] := by
  unfold b_X7_callsAt_4 at h
  refine z_iload_n hC dX7_callsAt_4 rfl rfl ?_
  refine z_aload_n hC dX7_callsAt_5 rfl rfl ?_
  refine z_getI hC kF_X7_203 sh_88 rfl dX7_callsAt_6 ?_
  refine z_icmp_ge hC 36 dX7_callsAt_9 (by decide) (fun b1 => ?_) (fun b1 => ?_)
  · rw [if_pos b1] at h
    refine z_iload_n hC dX7_callsAt_36 rfl rfl ?_
    obtain rfl := Option.some.inj h
    exact z_iret hC hE dX7_callsAt_37
  · rw [if_neg b1] at h
    refine z_iload_n hC dX7_callsAt_12 rfl rfl ?_
    refine z_aload_n hC dX7_callsAt_13 rfl rfl ?_
    refine z_getR hC 100 kF_X7_43 sh_88 rfl dX7_callsAt_14 ?_
    refine z_iload_n hC dX7_callsAt_17 rfl rfl ?_
    obtain ⟨g2, h⟩ := gd_some h
    refine z_iald hC sh_100 g2 dX7_callsAt_18 ?_
    refine z_iload_n hC dX7_callsAt_19 rfl rfl ?_
    refine z_icmp_ne hC 27 dX7_callsAt_20 (by decide) (fun b3 => ?_) (fun b3 => ?_)
    · rw [if_neg b3] at h
      refine z_iconst (v := 0) hC dX7_callsAt_27 (by decide) ?_
      refine z_mask [true, true, false, true] ?_
      exact s_X7_callsAt_28 hC hE x1 k4 hk4 x3 0 x2 u h
    · rw [if_pos b3] at h
      refine z_iconst (v := 1) hC dX7_callsAt_23 (by decide) ?_
      refine z_goto hC 28 dX7_callsAt_24 (by decide) ?_
      refine z_mask [true, true, false, true] ?_
      exact s_X7_callsAt_28 hC hE x1 k4 hk4 x3 1 x2 u h
set_option maxHeartbeats 4000000 in
set_option maxRecDepth 100000 in
theorem t_X7_callsAt_4 {C : mCtx} (hC : mOK cX7_callsAt RX7 4 0 0 C) {res : Int32 × MU} (hE : mEndI C .int res.1 res.2) (x1 : Int32) : ∀ (n : Nat) (x2 : Int32) (x3 : Int32) (u : MU), l_X7_callsAt_4 x1 n x2 x3 u = some res → wat C u 4 [some (.ref (cS C 88)), some (.int x1), some (.int x2), some (.int x3)] [] := by
  intro n
  induction n with
  | zero => intro x2 x3 u h; exact absurd h (by simp [l_X7_callsAt_4])
  | succ n ih =>
    intro x2 x3 u h
    exact s_X7_callsAt_4 hC hE x1 (fun x2 x3 u => l_X7_callsAt_4 x1 n x2 x3 u) ih x2 x3 u h
set_option maxHeartbeats 4000000 in
set_option maxRecDepth 100000 in
theorem s_X7_callsAt_0 {C : mCtx} (hC : mOK cX7_callsAt RX7 4 0 0 C) {res : Int32 × MU} (hE : mEndI C .int res.1 res.2) (x1 : Int32) (u : MU) (h : f_X7_callsAt x1 u = some res) : wat C u 0 [some (.ref (cS C 88)), some (.int x1), none, none] [] := by
  unfold f_X7_callsAt at h
  refine z_iconst (v := 0) hC dX7_callsAt_0 (by decide) ?_
  refine y_istore_n hC [some (.ref (cS C 88)), some (.int x1), some (.int 0), none] dX7_callsAt_1 rfl rfl (Nat.le_of_ble_eq_true rfl) (Nat.le_of_ble_eq_true rfl) rfl ?_
  refine z_iconst (v := 0) hC dX7_callsAt_2 (by decide) ?_
  refine y_istore_n hC [some (.ref (cS C 88)), some (.int x1), some (.int 0), some (.int 0)] dX7_callsAt_3 rfl rfl (Nat.le_of_ble_eq_true rfl) (Nat.le_of_ble_eq_true rfl) rfl ?_
  exact t_X7_callsAt_4 hC hE x1 FU 0 0 u h
theorem m_X7_callsAt {l : Launch} {dC : Nat → ClassId} {dI : Nat → Nat → Nat} {dA : Nat → ClassId} {as : Nat → Nat} (hD : mDis as) (x1 : Int32) (u : MU) {r : Int32} {v : MU} (h : f_X7_callsAt x1 u = some (r, v)) : mMI l dC dI dA as yX7_callsAt cX7_callsAt 4 .int 0 0 [.ref (as 88), .int x1] u r v := mMIof RX7 [some (.ref (as 88)), some (.int x1), none, none] hD (by decide +kernel) rfl (Nat.le_of_ble_eq_true rfl) rfl (fun C e1 e2 e3 e4 e5 hC hE => by subst e5; exact s_X7_callsAt_0 hC (res := (r, v)) hE x1 u h)
set_option maxHeartbeats 4000000 in
set_option maxRecDepth 100000 in
theorem s_X7_widest_35 {C : mCtx} (hC : mOK cX7_widest RX7 3 1 23 C) {res : Int32 × MU} (hE : mEndI C .int res.1 res.2) (k5 : Int32 → Int32 → MU → mR) (hk5 : ∀ (x1 : Int32) (x2 : Int32) (u : MU), k5 x1 x2 u = some res → wat C u 5 [some (.ref (cS C 88)), some (.int x1), some (.int x2)] []) (x2 : Int32) (s0 : Int32) (u : MU) (h : b_X7_widest_35 k5 x2 s0 u = some res) : wat C u 35 [some (.ref (cS C 88)), none, some (.int x2)] [(.int s0)] := by
  unfold b_X7_widest_35 at h
  refine y_istore_n hC [some (.ref (cS C 88)), some (.int s0), some (.int x2)] dX7_widest_35 rfl rfl (Nat.le_of_ble_eq_true rfl) (Nat.le_of_ble_eq_true rfl) rfl ?_
  refine y_iinc hC (x2 + 1) [some (.ref (cS C 88)), some (.int s0), some (.int (x2 + 1))] dX7_widest_36 rfl rfl rfl (Nat.le_of_ble_eq_true rfl) rfl ?_
  refine z_goto hC 5 dX7_widest_39 (by decide) ?_
  exact hk5 s0 (x2 + 1) u h
set_option maxHeartbeats 4000000 in
set_option maxRecDepth 100000 in
theorem s_X7_widest_30 {C : mCtx} (hC : mOK cX7_widest RX7 3 1 23 C) {res : Int32 × MU} (hE : mEndI C .int res.1 res.2) (k5 : Int32 → Int32 → MU → mR) (hk5 : ∀ (x1 : Int32) (x2 : Int32) (u : MU), k5 x1 x2 u = some res → wat C u 5 [some (.ref (cS C 88)), some (.int x1), some (.int x2)] []) (x2 : Int32) (u : MU) (h : b_X7_widest_30 k5 x2 u = some res) : wat C u 30 [some (.ref (cS C 88)), none, some (.int x2)] [] := by
  unfold b_X7_widest_30 at h
  refine z_iload_n hC dX7_widest_30 rfl rfl ?_
  refine z_goto hC 35 dX7_widest_31 (by decide) ?_
  exact s_X7_widest_35 hC hE k5 hk5 x2 x2 u h
set_option maxHeartbeats 4000000 in
set_option maxRecDepth 100000 in
theorem s_X7_widest_5 {C : mCtx} (hC : mOK cX7_widest RX7 3 1 23 C) {res : Int32 × MU} (hE : mEndI C .int res.1 res.2) (k5 : Int32 → Int32 → MU → mR) (hk5 : ∀ (x1 : Int32) (x2 : Int32) (u : MU), k5 x1 x2 u = some res → wat C u 5 [some (.ref (cS C 88)), some (.int x1), some (.int x2)] []) (x1 : Int32) (x2 : Int32) (u : MU) (h : b_X7_widest_5 k5 x1 x2 u = some res) : wat C u 5 [some (.ref (cS C 88)), some (.int x1), some (.int x2)] [] := by
  unfold b_X7_widest_5 at h
  refine z_iload_n hC dX7_widest_5 rfl rfl ?_
  refine z_aload_n hC dX7_widest_6 rfl rfl ?_
  obtain ⟨r1, u1, c1, h⟩ := mB_some h
  refine z_callI hC kC_X7_stageMany kM_X7_229 sh_88 TX7 39 rfl (m_X7_stageMany hC.dis u c1) rfl (Nat.le_of_ble_eq_true rfl) (Nat.le_of_ble_eq_true rfl) (Nat.le_of_ble_eq_true rfl) rfl dX7_widest_7 ?_
  refine z_icmp_ge hC 42 dX7_widest_10 (by decide) (fun b2 => ?_) (fun b2 => ?_)
  · rw [if_pos b2] at h
    refine z_iload_n hC dX7_widest_42 rfl rfl ?_
    obtain rfl := Option.some.inj h
    exact z_iret hC hE dX7_widest_43
  · rw [if_neg b2] at h
    refine z_iload_n hC dX7_widest_13 rfl rfl ?_
    refine z_if_lt hC 30 dX7_widest_14 (by decide) (fun b3 => ?_) (fun b3 => ?_)
    · rw [if_pos b3] at h
      refine z_mask [true, false, true] ?_
      exact s_X7_widest_30 hC hE k5 hk5 x2 u1 h
    · rw [if_neg b3] at h
      refine z_aload_n hC dX7_widest_17 rfl rfl ?_
      refine z_iload_n hC dX7_widest_18 rfl rfl ?_
      obtain ⟨r4, u4, c4, h⟩ := mB_some h
      refine z_callI hC kC_X7_callsAt kM_X7_232 sh_88 TX7 39 rfl (m_X7_callsAt hC.dis x2 u1 c4) rfl (Nat.le_of_ble_eq_true rfl) (Nat.le_of_ble_eq_true rfl) (Nat.le_of_ble_eq_true rfl) rfl dX7_widest_19 ?_
      refine z_aload_n hC dX7_widest_22 rfl rfl ?_
      refine z_iload_n hC dX7_widest_23 rfl rfl ?_
      obtain ⟨r5, u5, c5, h⟩ := mB_some h
      refine z_callI hC kC_X7_callsAt kM_X7_232 sh_88 TX7 39 rfl (m_X7_callsAt hC.dis x1 u4 c5) rfl (Nat.le_of_ble_eq_true rfl) (Nat.le_of_ble_eq_true rfl) (Nat.le_of_ble_eq_true rfl) rfl dX7_widest_24 ?_
      refine z_icmp_le hC 34 dX7_widest_27 (by decide) (fun b6 => ?_) (fun b6 => ?_)
      · rw [if_pos b6] at h
        refine z_iload_n hC dX7_widest_34 rfl rfl ?_
        refine z_mask [true, false, true] ?_
        exact s_X7_widest_35 hC hE k5 hk5 x2 x1 u5 h
      · rw [if_neg b6] at h
        refine z_mask [true, false, true] ?_
        exact s_X7_widest_30 hC hE k5 hk5 x2 u5 h
set_option maxHeartbeats 4000000 in
set_option maxRecDepth 100000 in
theorem t_X7_widest_5 {C : mCtx} (hC : mOK cX7_widest RX7 3 1 23 C) {res : Int32 × MU} (hE : mEndI C .int res.1 res.2) : ∀ (n : Nat) (x1 : Int32) (x2 : Int32) (u : MU), l_X7_widest_5 n x1 x2 u = some res → wat C u 5 [some (.ref (cS C 88)), some (.int x1), some (.int x2)] [] := by
  intro n
  induction n with
  | zero => intro x1 x2 u h; exact absurd h (by simp [l_X7_widest_5])
  | succ n ih =>
    intro x1 x2 u h
    exact s_X7_widest_5 hC hE (fun x1 x2 u => l_X7_widest_5 n x1 x2 u) ih x1 x2 u h
set_option maxHeartbeats 4000000 in
set_option maxRecDepth 100000 in
theorem s_X7_widest_0 {C : mCtx} (hC : mOK cX7_widest RX7 3 1 23 C) {res : Int32 × MU} (hE : mEndI C .int res.1 res.2) (u : MU) (h : f_X7_widest u = some res) : wat C u 0 [some (.ref (cS C 88)), none, none] [] := by
  unfold f_X7_widest at h
  refine z_bipush (v := (-6)) hC dX7_widest_0 (by decide) ?_
  refine y_istore_n hC [some (.ref (cS C 88)), some (.int ((-6))), none] dX7_widest_2 rfl rfl (Nat.le_of_ble_eq_true rfl) (Nat.le_of_ble_eq_true rfl) rfl ?_
  refine z_iconst (v := 0) hC dX7_widest_3 (by decide) ?_
  refine y_istore_n hC [some (.ref (cS C 88)), some (.int ((-6))), some (.int 0)] dX7_widest_4 rfl rfl (Nat.le_of_ble_eq_true rfl) (Nat.le_of_ble_eq_true rfl) rfl ?_
  exact t_X7_widest_5 hC hE FU ((-6)) 0 u h
theorem m_X7_widest {l : Launch} {dC : Nat → ClassId} {dI : Nat → Nat → Nat} {dA : Nat → ClassId} {as : Nat → Nat} (hD : mDis as) (u : MU) {r : Int32} {v : MU} (h : f_X7_widest u = some (r, v)) : mMI l dC dI dA as yX7_widest cX7_widest 3 .int 1 23 [.ref (as 88)] u r v := mMIof RX7 [some (.ref (as 88)), none, none] hD (by decide +kernel) rfl (Nat.le_of_ble_eq_true rfl) rfl (fun C e1 e2 e3 e4 e5 hC hE => by subst e5; exact s_X7_widest_0 hC (res := (r, v)) hE u h)
set_option maxHeartbeats 4000000 in
set_option maxRecDepth 100000 in
theorem s_X7_single_65 {C : mCtx} (hC : mOK cX7_single RX7 6 0 0 C) {res : Int32 × MU} (hE : mEndI C .int res.1 res.2) (x2 : Int32) (s1 : Int32) (s0 : Int32) (u : MU) (h : b_X7_single_65 x2 s1 s0 u = some res) : wat C u 65 [none, none, some (.int x2), none, none, none] [(.int s1), (.int s0)] := by
  unfold b_X7_single_65 at h
  refine z_iadd hC dX7_single_65 ?_
  refine y_istore hC [none, none, some (.int x2), none, some (.int (s0 + s1)), none] dX7_single_66 rfl (Nat.le_of_ble_eq_true rfl) (Nat.le_of_ble_eq_true rfl) rfl ?_
  refine z_bipush (v := nI 127) hC dX7_single_68 (by decide) ?_
  refine z_iload_n hC dX7_single_70 rfl rfl ?_
  refine z_iadd hC dX7_single_71 ?_
  refine z_bipush (v := nI 23) hC dX7_single_72 (by decide) ?_
  refine z_ishl hC dX7_single_74 ?_
  refine z_iload hC dX7_single_75 rfl ?_
  refine z_iadd hC dX7_single_77 ?_
  refine z_ldc (v := nI 8388608) hC kN_X7_235 dX7_single_78 ?_
  refine z_isub hC dX7_single_80 ?_
  obtain rfl := Option.some.inj h
  exact z_iret hC hE dX7_single_81
set_option maxHeartbeats 4000000 in
set_option maxRecDepth 100000 in
theorem s_X7_single_60 {C : mCtx} (hC : mOK cX7_single RX7 6 0 0 C) {res : Int32 × MU} (hE : mEndI C .int res.1 res.2) (x2 : Int32) (s0 : Int32) (u : MU) (h : b_X7_single_60 x2 s0 u = some res) : wat C u 60 [none, none, some (.int x2), none, none, none] [(.int s0)] := by
  unfold b_X7_single_60 at h
  refine z_iconst (v := 1) hC dX7_single_60 (by decide) ?_
  refine z_goto hC 65 dX7_single_61 (by decide) ?_
  exact s_X7_single_65 hC hE x2 1 s0 u h
set_option maxHeartbeats 4000000 in
set_option maxRecDepth 100000 in
theorem s_X7_single_64 {C : mCtx} (hC : mOK cX7_single RX7 6 0 0 C) {res : Int32 × MU} (hE : mEndI C .int res.1 res.2) (x2 : Int32) (s0 : Int32) (u : MU) (h : b_X7_single_64 x2 s0 u = some res) : wat C u 64 [none, none, some (.int x2), none, none, none] [(.int s0)] := by
  unfold b_X7_single_64 at h
  refine z_iconst (v := 0) hC dX7_single_64 (by decide) ?_
  exact s_X7_single_65 hC hE x2 0 s0 u h
set_option maxHeartbeats 4000000 in
set_option maxRecDepth 100000 in
theorem s_X7_single_2 {C : mCtx} (hC : mOK cX7_single RX7 6 0 0 C) {res : Int32 × MU} (hE : mEndI C .int res.1 res.2) (x0 : Int32) (x1 : Int32) (k2 : Int32 → MU → mR) (hk2 : ∀ (x2 : Int32) (u : MU), k2 x2 u = some res → wat C u 2 [some (.int x0), some (.int x1), some (.int x2), none, none, none] []) (x2 : Int32) (u : MU) (h : b_X7_single_2 k2 x0 x1 x2 u = some res) : wat C u 2 [some (.int x0), some (.int x1), some (.int x2), none, none, none] [] := by
  unfold b_X7_single_2 at h
  refine z_iload_n hC dX7_single_2 rfl rfl ?_
  refine z_iload_n hC dX7_single_3 rfl rfl ?_
  refine z_iload_n hC dX7_single_4 rfl rfl ?_
  refine z_iconst (v := 1) hC dX7_single_5 (by decide) ?_
  refine z_iadd hC dX7_single_6 ?_
  refine z_ishl hC dX7_single_7 ?_
  refine z_icmp_lt hC 17 dX7_single_8 (by decide) (fun b1 => ?_) (fun b1 => ?_)
  · rw [if_pos b1] at h
    refine z_iload_n hC dX7_single_17 rfl rfl ?_
    refine z_bipush (v := nI 23) hC dX7_single_18 (by decide) ?_
    refine z_iload_n hC dX7_single_20 rfl rfl ?_
    refine z_isub hC dX7_single_21 ?_
    refine z_ishl hC dX7_single_22 ?_
    refine y_istore_n hC [some (.int x0), some (.int x1), some (.int x2), some (.int (x0 <<< (((nI 23) - x2) &&& 31))), none, none] dX7_single_23 rfl rfl (Nat.le_of_ble_eq_true rfl) (Nat.le_of_ble_eq_true rfl) rfl ?_
    refine z_iload_n hC dX7_single_24 rfl rfl ?_
    refine z_iload_n hC dX7_single_25 rfl rfl ?_
    obtain ⟨g2, h⟩ := gd_some h
    refine z_idiv hC dX7_single_26 (mNz_ne g2) ?_
    refine y_istore hC [some (.int x0), some (.int x1), some (.int x2), some (.int (x0 <<< (((nI 23) - x2) &&& 31))), some (.int ((x0 <<< (((nI 23) - x2) &&& 31)) / x1)), none] dX7_single_27 rfl (Nat.le_of_ble_eq_true rfl) (Nat.le_of_ble_eq_true rfl) rfl ?_
    refine z_iload_n hC dX7_single_29 rfl rfl ?_
    refine z_iload_n hC dX7_single_30 rfl rfl ?_
    obtain ⟨g3, h⟩ := gd_some h
    refine y_irem hC dX7_single_31 (mNz_ne g3) ?_
    refine y_istore hC [some (.int x0), some (.int x1), some (.int x2), some (.int (x0 <<< (((nI 23) - x2) &&& 31))), some (.int ((x0 <<< (((nI 23) - x2) &&& 31)) / x1)), some (.int (irm (x0 <<< (((nI 23) - x2) &&& 31)) x1))] dX7_single_32 rfl (Nat.le_of_ble_eq_true rfl) (Nat.le_of_ble_eq_true rfl) rfl ?_
    refine z_iload hC dX7_single_34 rfl ?_
    refine z_iconst (v := nI 2) hC dX7_single_36 (by decide) ?_
    refine z_iload hC dX7_single_37 rfl ?_
    refine z_imul hC dX7_single_39 ?_
    refine z_iload_n hC dX7_single_40 rfl rfl ?_
    refine z_icmp_gt hC 60 dX7_single_41 (by decide) (fun b4 => ?_) (fun b4 => ?_)
    · rw [if_pos b4] at h
      refine z_mask [false, false, true, false, false, false] ?_
      exact s_X7_single_60 hC hE x2 ((x0 <<< (((nI 23) - x2) &&& 31)) / x1) u h
    · rw [if_neg b4] at h
      refine z_iconst (v := nI 2) hC dX7_single_44 (by decide) ?_
      refine z_iload hC dX7_single_45 rfl ?_
      refine z_imul hC dX7_single_47 ?_
      refine z_iload_n hC dX7_single_48 rfl rfl ?_
      refine z_icmp_ne hC 64 dX7_single_49 (by decide) (fun b5 => ?_) (fun b5 => ?_)
      · rw [if_neg b5] at h
        refine z_mask [false, false, true, false, false, false] ?_
        exact s_X7_single_64 hC hE x2 ((x0 <<< (((nI 23) - x2) &&& 31)) / x1) u h
      · rw [if_pos b5] at h
        refine z_iload hC dX7_single_52 rfl ?_
        refine z_iconst (v := nI 2) hC dX7_single_54 (by decide) ?_
        refine y_irem hC dX7_single_55 (by decide) ?_
        refine z_iconst (v := 1) hC dX7_single_56 (by decide) ?_
        refine z_icmp_ne hC 64 dX7_single_57 (by decide) (fun b6 => ?_) (fun b6 => ?_)
        · rw [if_neg b6] at h
          refine z_mask [false, false, true, false, false, false] ?_
          exact s_X7_single_64 hC hE x2 ((x0 <<< (((nI 23) - x2) &&& 31)) / x1) u h
        · rw [if_pos b6] at h
          refine z_mask [false, false, true, false, false, false] ?_
          exact s_X7_single_60 hC hE x2 ((x0 <<< (((nI 23) - x2) &&& 31)) / x1) u h
  · rw [if_neg b1] at h
    refine y_iinc hC (x2 + 1) [some (.int x0), some (.int x1), some (.int (x2 + 1)), none, none, none] dX7_single_11 rfl rfl rfl (Nat.le_of_ble_eq_true rfl) rfl ?_
    refine z_goto hC 2 dX7_single_14 (by decide) ?_
    exact hk2 (x2 + 1) u h
set_option maxHeartbeats 4000000 in
set_option maxRecDepth 100000 in
theorem t_X7_single_2 {C : mCtx} (hC : mOK cX7_single RX7 6 0 0 C) {res : Int32 × MU} (hE : mEndI C .int res.1 res.2) (x0 : Int32) (x1 : Int32) : ∀ (n : Nat) (x2 : Int32) (u : MU), l_X7_single_2 x0 x1 n x2 u = some res → wat C u 2 [some (.int x0), some (.int x1), some (.int x2), none, none, none] [] := by
  intro n
  induction n with
  | zero => intro x2 u h; exact absurd h (by simp [l_X7_single_2])
  | succ n ih =>
    intro x2 u h
    exact s_X7_single_2 hC hE x0 x1 (fun x2 u => l_X7_single_2 x0 x1 n x2 u) ih x2 u h
set_option maxHeartbeats 4000000 in
set_option maxRecDepth 100000 in
theorem s_X7_single_0 {C : mCtx} (hC : mOK cX7_single RX7 6 0 0 C) {res : Int32 × MU} (hE : mEndI C .int res.1 res.2) (x0 : Int32) (x1 : Int32) (u : MU) (h : f_X7_single x0 x1 u = some res) : wat C u 0 [some (.int x0), some (.int x1), none, none, none, none] [] := by
  unfold f_X7_single at h
  refine z_iconst (v := 0) hC dX7_single_0 (by decide) ?_
  refine y_istore_n hC [some (.int x0), some (.int x1), some (.int 0), none, none, none] dX7_single_1 rfl rfl (Nat.le_of_ble_eq_true rfl) (Nat.le_of_ble_eq_true rfl) rfl ?_
  exact t_X7_single_2 hC hE x0 x1 FU 0 u h
theorem m_X7_single {l : Launch} {dC : Nat → ClassId} {dI : Nat → Nat → Nat} {dA : Nat → ClassId} {as : Nat → Nat} (hD : mDis as) (x0 : Int32) (x1 : Int32) (u : MU) {r : Int32} {v : MU} (h : f_X7_single x0 x1 u = some (r, v)) : mMI l dC dI dA as yX7_single cX7_single 6 .int 0 0 [.int x0, .int x1] u r v := mMIof RX7 [some (.int x0), some (.int x1), none, none, none, none] hD (by decide +kernel) rfl (Nat.le_of_ble_eq_true rfl) rfl (fun C e1 e2 e3 e4 e5 hC hE => by subst e5; exact s_X7_single_0 hC (res := (r, v)) hE x0 x1 u h)
set_option maxHeartbeats 4000000 in
set_option maxRecDepth 100000 in
theorem s_X7_freePairs_42 {C : mCtx} (hC : mOK cX7_freePairs RX7 4 1 25 C) {res : Int32 × MU} (hE : mEndI C .int res.1 res.2) (k4 : Int32 → Int32 → MU → mR) (hk4 : ∀ (x1 : Int32) (x2 : Int32) (u : MU), k4 x1 x2 u = some res → wat C u 4 [some (.ref (cS C 88)), some (.int x1), some (.int x2), none] []) (k14 : Int32 → Int32 → Int32 → MU → mR) (hk14 : ∀ (x1 : Int32) (x2 : Int32) (x3 : Int32) (u : MU), k14 x1 x2 x3 u = some res → wat C u 14 [some (.ref (cS C 88)), some (.int x1), some (.int x2), some (.int x3)] []) (x2 : Int32) (x3 : Int32) (s1 : Int32) (s0 : Int32) (u : MU) (h : b_X7_freePairs_42 k4 k14 x2 x3 s1 s0 u = some res) : wat C u 42 [some (.ref (cS C 88)), none, some (.int x2), some (.int x3)] [(.int s1), (.int s0)] := by
  unfold b_X7_freePairs_42 at h
  refine z_iadd hC dX7_freePairs_42 ?_
  refine y_istore_n hC [some (.ref (cS C 88)), some (.int (s0 + s1)), some (.int x2), some (.int x3)] dX7_freePairs_43 rfl rfl (Nat.le_of_ble_eq_true rfl) (Nat.le_of_ble_eq_true rfl) rfl ?_
  refine y_iinc hC (x3 + 1) [some (.ref (cS C 88)), some (.int (s0 + s1)), some (.int x2), some (.int (x3 + 1))] dX7_freePairs_44 rfl rfl rfl (Nat.le_of_ble_eq_true rfl) rfl ?_
  refine z_goto hC 14 dX7_freePairs_47 (by decide) ?_
  exact hk14 (s0 + s1) x2 (x3 + 1) u h
set_option maxHeartbeats 4000000 in
set_option maxRecDepth 100000 in
theorem s_X7_freePairs_14 {C : mCtx} (hC : mOK cX7_freePairs RX7 4 1 25 C) {res : Int32 × MU} (hE : mEndI C .int res.1 res.2) (k4 : Int32 → Int32 → MU → mR) (hk4 : ∀ (x1 : Int32) (x2 : Int32) (u : MU), k4 x1 x2 u = some res → wat C u 4 [some (.ref (cS C 88)), some (.int x1), some (.int x2), none] []) (k14 : Int32 → Int32 → Int32 → MU → mR) (hk14 : ∀ (x1 : Int32) (x2 : Int32) (x3 : Int32) (u : MU), k14 x1 x2 x3 u = some res → wat C u 14 [some (.ref (cS C 88)), some (.int x1), some (.int x2), some (.int x3)] []) (x1 : Int32) (x2 : Int32) (x3 : Int32) (u : MU) (h : b_X7_freePairs_14 k4 k14 x1 x2 x3 u = some res) : wat C u 14 [some (.ref (cS C 88)), some (.int x1), some (.int x2), some (.int x3)] [] := by
  unfold b_X7_freePairs_14 at h
  refine z_iload_n hC dX7_freePairs_14 rfl rfl ?_
  refine z_iload_n hC dX7_freePairs_15 rfl rfl ?_
  refine z_icmp_ge hC 50 dX7_freePairs_16 (by decide) (fun b1 => ?_) (fun b1 => ?_)
  · rw [if_pos b1] at h
    refine y_iinc hC (x2 + 1) [some (.ref (cS C 88)), some (.int x1), some (.int (x2 + 1)), some (.int x3)] dX7_freePairs_50 rfl rfl rfl (Nat.le_of_ble_eq_true rfl) rfl ?_
    refine z_goto hC 4 dX7_freePairs_53 (by decide) ?_
    refine z_mask [true, true, true, false] ?_
    exact hk4 x1 (x2 + 1) u h
  · rw [if_neg b1] at h
    refine z_iload_n hC dX7_freePairs_19 rfl rfl ?_
    refine z_aload_n hC dX7_freePairs_20 rfl rfl ?_
    refine z_aload_n hC dX7_freePairs_21 rfl rfl ?_
    refine z_iload_n hC dX7_freePairs_22 rfl rfl ?_
    obtain ⟨r2, u2, c2, h⟩ := mB_some h
    refine z_callI hC kC_X7_effectOf kM_X7_209 sh_88 TX7 39 rfl (m_X7_effectOf hC.dis x2 u c2) rfl (Nat.le_of_ble_eq_true rfl) (Nat.le_of_ble_eq_true rfl) (Nat.le_of_ble_eq_true rfl) rfl dX7_freePairs_23 ?_
    refine z_aload_n hC dX7_freePairs_26 rfl rfl ?_
    refine z_iload_n hC dX7_freePairs_27 rfl rfl ?_
    obtain ⟨r3, u3, c3, h⟩ := mB_some h
    refine z_callI hC kC_X7_effectOf kM_X7_209 sh_88 TX7 39 rfl (m_X7_effectOf hC.dis x3 u2 c3) rfl (Nat.le_of_ble_eq_true rfl) (Nat.le_of_ble_eq_true rfl) (Nat.le_of_ble_eq_true rfl) rfl dX7_freePairs_28 ?_
    obtain ⟨r4, u4, c4, h⟩ := mB_some h
    refine z_callI hC kC_X7_causesOf kM_X7_200 sh_88 TX7 39 rfl (m_X7_causesOf hC.dis r2 r3 u3 c4) rfl (Nat.le_of_ble_eq_true rfl) (Nat.le_of_ble_eq_true rfl) (Nat.le_of_ble_eq_true rfl) rfl dX7_freePairs_31 ?_
    refine z_if_ne hC 41 dX7_freePairs_34 (by decide) (fun b5 => ?_) (fun b5 => ?_)
    · rw [if_neg b5] at h
      refine z_iconst (v := 0) hC dX7_freePairs_41 (by decide) ?_
      refine z_mask [true, false, true, true] ?_
      exact s_X7_freePairs_42 hC hE k4 hk4 k14 hk14 x2 x3 0 x1 u4 h
    · rw [if_pos b5] at h
      refine z_iconst (v := 1) hC dX7_freePairs_37 (by decide) ?_
      refine z_goto hC 42 dX7_freePairs_38 (by decide) ?_
      refine z_mask [true, false, true, true] ?_
      exact s_X7_freePairs_42 hC hE k4 hk4 k14 hk14 x2 x3 1 x1 u4 h
set_option maxHeartbeats 4000000 in
set_option maxRecDepth 100000 in
theorem t_X7_freePairs_14 {C : mCtx} (hC : mOK cX7_freePairs RX7 4 1 25 C) {res : Int32 × MU} (hE : mEndI C .int res.1 res.2) (k4 : Int32 → Int32 → MU → mR) (hk4 : ∀ (x1 : Int32) (x2 : Int32) (u : MU), k4 x1 x2 u = some res → wat C u 4 [some (.ref (cS C 88)), some (.int x1), some (.int x2), none] []) : ∀ (n : Nat) (x1 : Int32) (x2 : Int32) (x3 : Int32) (u : MU), l_X7_freePairs_14 k4 n x1 x2 x3 u = some res → wat C u 14 [some (.ref (cS C 88)), some (.int x1), some (.int x2), some (.int x3)] [] := by
  intro n
  induction n with
  | zero => intro x1 x2 x3 u h; exact absurd h (by simp [l_X7_freePairs_14])
  | succ n ih =>
    intro x1 x2 x3 u h
    exact s_X7_freePairs_14 hC hE k4 hk4 (fun x1 x2 x3 u => l_X7_freePairs_14 k4 n x1 x2 x3 u) ih x1 x2 x3 u h
set_option maxHeartbeats 4000000 in
set_option maxRecDepth 100000 in
theorem s_X7_freePairs_4 {C : mCtx} (hC : mOK cX7_freePairs RX7 4 1 25 C) {res : Int32 × MU} (hE : mEndI C .int res.1 res.2) (k4 : Int32 → Int32 → MU → mR) (hk4 : ∀ (x1 : Int32) (x2 : Int32) (u : MU), k4 x1 x2 u = some res → wat C u 4 [some (.ref (cS C 88)), some (.int x1), some (.int x2), none] []) (x1 : Int32) (x2 : Int32) (u : MU) (h : b_X7_freePairs_4 k4 x1 x2 u = some res) : wat C u 4 [some (.ref (cS C 88)), some (.int x1), some (.int x2), none] [] := by
  unfold b_X7_freePairs_4 at h
  refine z_iload_n hC dX7_freePairs_4 rfl rfl ?_
  refine z_aload_n hC dX7_freePairs_5 rfl rfl ?_
  refine z_getI hC kF_X7_203 sh_88 rfl dX7_freePairs_6 ?_
  refine z_icmp_ge hC 56 dX7_freePairs_9 (by decide) (fun b1 => ?_) (fun b1 => ?_)
  · rw [if_pos b1] at h
    refine z_iload_n hC dX7_freePairs_56 rfl rfl ?_
    obtain rfl := Option.some.inj h
    exact z_iret hC hE dX7_freePairs_57
  · rw [if_neg b1] at h
    refine z_iconst (v := 0) hC dX7_freePairs_12 (by decide) ?_
    refine y_istore_n hC [some (.ref (cS C 88)), some (.int x1), some (.int x2), some (.int 0)] dX7_freePairs_13 rfl rfl (Nat.le_of_ble_eq_true rfl) (Nat.le_of_ble_eq_true rfl) rfl ?_
    exact t_X7_freePairs_14 hC hE k4 hk4 FU x1 x2 0 u h
set_option maxHeartbeats 4000000 in
set_option maxRecDepth 100000 in
theorem t_X7_freePairs_4 {C : mCtx} (hC : mOK cX7_freePairs RX7 4 1 25 C) {res : Int32 × MU} (hE : mEndI C .int res.1 res.2) : ∀ (n : Nat) (x1 : Int32) (x2 : Int32) (u : MU), l_X7_freePairs_4 n x1 x2 u = some res → wat C u 4 [some (.ref (cS C 88)), some (.int x1), some (.int x2), none] [] := by
  intro n
  induction n with
  | zero => intro x1 x2 u h; exact absurd h (by simp [l_X7_freePairs_4])
  | succ n ih =>
    intro x1 x2 u h
    exact s_X7_freePairs_4 hC hE (fun x1 x2 u => l_X7_freePairs_4 n x1 x2 u) ih x1 x2 u h
set_option maxHeartbeats 4000000 in
set_option maxRecDepth 100000 in
theorem s_X7_freePairs_0 {C : mCtx} (hC : mOK cX7_freePairs RX7 4 1 25 C) {res : Int32 × MU} (hE : mEndI C .int res.1 res.2) (u : MU) (h : f_X7_freePairs u = some res) : wat C u 0 [some (.ref (cS C 88)), none, none, none] [] := by
  unfold f_X7_freePairs at h
  refine z_iconst (v := 0) hC dX7_freePairs_0 (by decide) ?_
  refine y_istore_n hC [some (.ref (cS C 88)), some (.int 0), none, none] dX7_freePairs_1 rfl rfl (Nat.le_of_ble_eq_true rfl) (Nat.le_of_ble_eq_true rfl) rfl ?_
  refine z_iconst (v := 0) hC dX7_freePairs_2 (by decide) ?_
  refine y_istore_n hC [some (.ref (cS C 88)), some (.int 0), some (.int 0), none] dX7_freePairs_3 rfl rfl (Nat.le_of_ble_eq_true rfl) (Nat.le_of_ble_eq_true rfl) rfl ?_
  exact t_X7_freePairs_4 hC hE FU 0 0 u h
theorem m_X7_freePairs {l : Launch} {dC : Nat → ClassId} {dI : Nat → Nat → Nat} {dA : Nat → ClassId} {as : Nat → Nat} (hD : mDis as) (u : MU) {r : Int32} {v : MU} (h : f_X7_freePairs u = some (r, v)) : mMI l dC dI dA as yX7_freePairs cX7_freePairs 4 .int 1 25 [.ref (as 88)] u r v := mMIof RX7 [some (.ref (as 88)), none, none, none] hD (by decide +kernel) rfl (Nat.le_of_ble_eq_true rfl) rfl (fun C e1 e2 e3 e4 e5 hC hE => by subst e5; exact s_X7_freePairs_0 hC (res := (r, v)) hE u h)
set_option maxHeartbeats 4000000 in
set_option maxRecDepth 100000 in
theorem s_X7_isNormal_27 {C : mCtx} (hC : mOK cX7_isNormal RX7 3 0 0 C) {res : Int32 × MU} (hE : mEndI C .int res.1 res.2) (k4 : Int32 → Int32 → MU → mR) (hk4 : ∀ (x1 : Int32) (x2 : Int32) (u : MU), k4 x1 x2 u = some res → wat C u 4 [some (.ref (cS C 88)), some (.int x1), some (.int x2)] []) (x2 : Int32) (s0 : Int32) (u : MU) (h : b_X7_isNormal_27 k4 x2 s0 u = some res) : wat C u 27 [some (.ref (cS C 88)), none, some (.int x2)] [(.int s0)] := by
  unfold b_X7_isNormal_27 at h
  refine y_istore_n hC [some (.ref (cS C 88)), some (.int s0), some (.int x2)] dX7_isNormal_27 rfl rfl (Nat.le_of_ble_eq_true rfl) (Nat.le_of_ble_eq_true rfl) rfl ?_
  refine y_iinc hC (x2 + 1) [some (.ref (cS C 88)), some (.int s0), some (.int (x2 + 1))] dX7_isNormal_28 rfl rfl rfl (Nat.le_of_ble_eq_true rfl) rfl ?_
  refine z_goto hC 4 dX7_isNormal_31 (by decide) ?_
  exact hk4 s0 (x2 + 1) u h
set_option maxHeartbeats 4000000 in
set_option maxRecDepth 100000 in
theorem s_X7_isNormal_4 {C : mCtx} (hC : mOK cX7_isNormal RX7 3 0 0 C) {res : Int32 × MU} (hE : mEndI C .int res.1 res.2) (k4 : Int32 → Int32 → MU → mR) (hk4 : ∀ (x1 : Int32) (x2 : Int32) (u : MU), k4 x1 x2 u = some res → wat C u 4 [some (.ref (cS C 88)), some (.int x1), some (.int x2)] []) (x1 : Int32) (x2 : Int32) (u : MU) (h : b_X7_isNormal_4 k4 x1 x2 u = some res) : wat C u 4 [some (.ref (cS C 88)), some (.int x1), some (.int x2)] [] := by
  unfold b_X7_isNormal_4 at h
  refine z_iload_n hC dX7_isNormal_4 rfl rfl ?_
  refine z_aload_n hC dX7_isNormal_5 rfl rfl ?_
  refine z_getI hC kF_X7_203 sh_88 rfl dX7_isNormal_6 ?_
  refine z_icmp_ge hC 34 dX7_isNormal_9 (by decide) (fun b1 => ?_) (fun b1 => ?_)
  · rw [if_pos b1] at h
    refine z_iload_n hC dX7_isNormal_34 rfl rfl ?_
    obtain rfl := Option.some.inj h
    exact z_iret hC hE dX7_isNormal_35
  · rw [if_neg b1] at h
    refine z_aload_n hC dX7_isNormal_12 rfl rfl ?_
    refine z_getR hC 101 kF_X7_46 sh_88 rfl dX7_isNormal_13 ?_
    refine z_iload_n hC dX7_isNormal_16 rfl rfl ?_
    obtain ⟨g2, h⟩ := gd_some h
    refine z_iald hC sh_101 g2 dX7_isNormal_17 ?_
    refine z_iload_n hC dX7_isNormal_18 rfl rfl ?_
    refine z_icmp_ne hC 26 dX7_isNormal_19 (by decide) (fun b3 => ?_) (fun b3 => ?_)
    · rw [if_neg b3] at h
      refine z_iconst (v := 0) hC dX7_isNormal_26 (by decide) ?_
      refine z_mask [true, false, true] ?_
      exact s_X7_isNormal_27 hC hE k4 hk4 x2 0 u h
    · rw [if_pos b3] at h
      refine z_iload_n hC dX7_isNormal_22 rfl rfl ?_
      refine z_goto hC 27 dX7_isNormal_23 (by decide) ?_
      refine z_mask [true, false, true] ?_
      exact s_X7_isNormal_27 hC hE k4 hk4 x2 x1 u h
set_option maxHeartbeats 4000000 in
set_option maxRecDepth 100000 in
theorem t_X7_isNormal_4 {C : mCtx} (hC : mOK cX7_isNormal RX7 3 0 0 C) {res : Int32 × MU} (hE : mEndI C .int res.1 res.2) : ∀ (n : Nat) (x1 : Int32) (x2 : Int32) (u : MU), l_X7_isNormal_4 n x1 x2 u = some res → wat C u 4 [some (.ref (cS C 88)), some (.int x1), some (.int x2)] [] := by
  intro n
  induction n with
  | zero => intro x1 x2 u h; exact absurd h (by simp [l_X7_isNormal_4])
  | succ n ih =>
    intro x1 x2 u h
    exact s_X7_isNormal_4 hC hE (fun x1 x2 u => l_X7_isNormal_4 n x1 x2 u) ih x1 x2 u h
set_option maxHeartbeats 4000000 in
set_option maxRecDepth 100000 in
theorem s_X7_isNormal_0 {C : mCtx} (hC : mOK cX7_isNormal RX7 3 0 0 C) {res : Int32 × MU} (hE : mEndI C .int res.1 res.2) (u : MU) (h : f_X7_isNormal u = some res) : wat C u 0 [some (.ref (cS C 88)), none, none] [] := by
  unfold f_X7_isNormal at h
  refine z_iconst (v := 1) hC dX7_isNormal_0 (by decide) ?_
  refine y_istore_n hC [some (.ref (cS C 88)), some (.int 1), none] dX7_isNormal_1 rfl rfl (Nat.le_of_ble_eq_true rfl) (Nat.le_of_ble_eq_true rfl) rfl ?_
  refine z_iconst (v := 0) hC dX7_isNormal_2 (by decide) ?_
  refine y_istore_n hC [some (.ref (cS C 88)), some (.int 1), some (.int 0)] dX7_isNormal_3 rfl rfl (Nat.le_of_ble_eq_true rfl) (Nat.le_of_ble_eq_true rfl) rfl ?_
  exact t_X7_isNormal_4 hC hE FU 1 0 u h
theorem m_X7_isNormal {l : Launch} {dC : Nat → ClassId} {dI : Nat → Nat → Nat} {dA : Nat → ClassId} {as : Nat → Nat} (hD : mDis as) (u : MU) {r : Int32} {v : MU} (h : f_X7_isNormal u = some (r, v)) : mMI l dC dI dA as yX7_isNormal cX7_isNormal 3 .int 0 0 [.ref (as 88)] u r v := mMIof RX7 [some (.ref (as 88)), none, none] hD (by decide +kernel) rfl (Nat.le_of_ble_eq_true rfl) rfl (fun C e1 e2 e3 e4 e5 hC hE => by subst e5; exact s_X7_isNormal_0 hC (res := (r, v)) hE u h)
set_option maxHeartbeats 4000000 in
set_option maxRecDepth 100000 in
theorem s_X7_layNormal_2 {C : mCtx} (hC : mOK cX7_layNormal RX7 2 1 21 C) {res : Int32 × MU} (hE : mEndV C res.2) (k2 : Int32 → MU → mR) (hk2 : ∀ (x1 : Int32) (u : MU), k2 x1 u = some res → wat C u 2 [some (.ref (cS C 88)), some (.int x1)] []) (x1 : Int32) (u : MU) (h : b_X7_layNormal_2 k2 x1 u = some res) : wat C u 2 [some (.ref (cS C 88)), some (.int x1)] [] := by
  unfold b_X7_layNormal_2 at h
  refine z_iload_n hC dX7_layNormal_2 rfl rfl ?_
  refine z_aload_n hC dX7_layNormal_3 rfl rfl ?_
  refine z_getI hC kF_X7_203 sh_88 rfl dX7_layNormal_4 ?_
  refine z_icmp_ge hC 32 dX7_layNormal_7 (by decide) (fun b1 => ?_) (fun b1 => ?_)
  · rw [if_pos b1] at h
    obtain rfl := Option.some.inj h
    exact z_vret hC hE dX7_layNormal_32
  · rw [if_neg b1] at h
    refine z_aload_n hC dX7_layNormal_10 rfl rfl ?_
    refine z_getR hC 102 kF_X7_49 sh_88 rfl dX7_layNormal_11 ?_
    refine z_aload_n hC dX7_layNormal_14 rfl rfl ?_
    refine z_getR hC 101 kF_X7_46 sh_88 rfl dX7_layNormal_15 ?_
    refine z_iload_n hC dX7_layNormal_18 rfl rfl ?_
    obtain ⟨g2, h⟩ := gd_some h
    refine z_iald hC sh_101 g2 dX7_layNormal_19 ?_
    refine z_aload_n hC dX7_layNormal_20 rfl rfl ?_
    refine z_iload_n hC dX7_layNormal_21 rfl rfl ?_
    obtain ⟨r3, u3, c3, h⟩ := mB_some h
    refine z_callI hC kC_X7_effectOf kM_X7_209 sh_88 TX7 39 rfl (m_X7_effectOf hC.dis x1 u c3) rfl (Nat.le_of_ble_eq_true rfl) (Nat.le_of_ble_eq_true rfl) (Nat.le_of_ble_eq_true rfl) rfl dX7_layNormal_22 ?_
    obtain ⟨g4, h⟩ := gd_some h
    obtain ⟨u5, e5, h⟩ := mS_some h
    refine y_iast hC sh_102 g4 dX7_layNormal_25 e5 ?_
    refine y_iinc hC (x1 + 1) [some (.ref (cS C 88)), some (.int (x1 + 1))] dX7_layNormal_26 rfl rfl rfl (Nat.le_of_ble_eq_true rfl) rfl ?_
    refine z_goto hC 2 dX7_layNormal_29 (by decide) ?_
    exact hk2 (x1 + 1) u5 h
set_option maxHeartbeats 4000000 in
set_option maxRecDepth 100000 in
theorem t_X7_layNormal_2 {C : mCtx} (hC : mOK cX7_layNormal RX7 2 1 21 C) {res : Int32 × MU} (hE : mEndV C res.2) : ∀ (n : Nat) (x1 : Int32) (u : MU), l_X7_layNormal_2 n x1 u = some res → wat C u 2 [some (.ref (cS C 88)), some (.int x1)] [] := by
  intro n
  induction n with
  | zero => intro x1 u h; exact absurd h (by simp [l_X7_layNormal_2])
  | succ n ih =>
    intro x1 u h
    exact s_X7_layNormal_2 hC hE (fun x1 u => l_X7_layNormal_2 n x1 u) ih x1 u h
set_option maxHeartbeats 4000000 in
set_option maxRecDepth 100000 in
theorem s_X7_layNormal_0 {C : mCtx} (hC : mOK cX7_layNormal RX7 2 1 21 C) {res : Int32 × MU} (hE : mEndV C res.2) (u : MU) (h : f_X7_layNormal u = some res) : wat C u 0 [some (.ref (cS C 88)), none] [] := by
  unfold f_X7_layNormal at h
  refine z_iconst (v := 0) hC dX7_layNormal_0 (by decide) ?_
  refine y_istore_n hC [some (.ref (cS C 88)), some (.int 0)] dX7_layNormal_1 rfl rfl (Nat.le_of_ble_eq_true rfl) (Nat.le_of_ble_eq_true rfl) rfl ?_
  exact t_X7_layNormal_2 hC hE FU 0 u h
theorem m_X7_layNormal {l : Launch} {dC : Nat → ClassId} {dI : Nat → Nat → Nat} {dA : Nat → ClassId} {as : Nat → Nat} (hD : mDis as) (u : MU) {r : Int32} {v : MU} (h : f_X7_layNormal u = some (r, v)) : mMV l dC dI dA as yX7_layNormal cX7_layNormal 2 1 21 [.ref (as 88)] u v := mMVof RX7 [some (.ref (as 88)), none] hD (by decide +kernel) rfl (Nat.le_of_ble_eq_true rfl) rfl (fun C e1 e2 e3 e4 e5 hC hE => by subst e5; exact s_X7_layNormal_0 hC (res := (r, v)) hE u h)
set_option maxHeartbeats 4000000 in
set_option maxRecDepth 100000 in
theorem s_X7_hold_10 {C : mCtx} (hC : mOK cX7_hold RX7 2 0 0 C) {res : Int32 × MU} (hE : mEndV C res.2) (k10 : Int32 → MU → mR) (hk10 : ∀ (x1 : Int32) (u : MU), k10 x1 u = some res → wat C u 10 [some (.ref (cS C 88)), some (.int x1)] []) (x1 : Int32) (u : MU) (h : b_X7_hold_10 k10 x1 u = some res) : wat C u 10 [some (.ref (cS C 88)), some (.int x1)] [] := by
  unfold b_X7_hold_10 at h
  refine z_iload_n hC dX7_hold_10 rfl rfl ?_
  refine z_bipush (v := nI 16) hC dX7_hold_11 (by decide) ?_
  refine z_icmp_ge hC 46 dX7_hold_13 (by decide) (fun b1 => ?_) (fun b1 => ?_)
  · rw [if_pos b1] at h
    obtain rfl := Option.some.inj h
    exact z_vret hC hE dX7_hold_46
  · rw [if_neg b1] at h
    refine z_aload_n hC dX7_hold_16 rfl rfl ?_
    refine z_getR hC 103 kF_X7_52 sh_88 rfl dX7_hold_17 ?_
    refine z_iload_n hC dX7_hold_20 rfl rfl ?_
    refine z_aload_n hC dX7_hold_21 rfl rfl ?_
    refine z_getR hC 92 kF_X7_19 sh_88 rfl dX7_hold_22 ?_
    refine z_iload_n hC dX7_hold_25 rfl rfl ?_
    obtain ⟨g2, h⟩ := gd_some h
    refine z_iald hC sh_92 g2 dX7_hold_26 ?_
    obtain ⟨g3, h⟩ := gd_some h
    obtain ⟨u4, e4, h⟩ := mS_some h
    refine y_iast hC sh_103 g3 dX7_hold_27 e4 ?_
    refine z_aload_n hC dX7_hold_28 rfl rfl ?_
    refine z_getR hC 104 kF_X7_55 sh_88 rfl dX7_hold_29 ?_
    refine z_iload_n hC dX7_hold_32 rfl rfl ?_
    refine z_aload_n hC dX7_hold_33 rfl rfl ?_
    refine z_getR hC 93 kF_X7_22 sh_88 rfl dX7_hold_34 ?_
    refine z_iload_n hC dX7_hold_37 rfl rfl ?_
    obtain ⟨g5, h⟩ := gd_some h
    refine z_iald hC sh_93 g5 dX7_hold_38 ?_
    obtain ⟨g6, h⟩ := gd_some h
    obtain ⟨u7, e7, h⟩ := mS_some h
    refine y_iast hC sh_104 g6 dX7_hold_39 e7 ?_
    refine y_iinc hC (x1 + 1) [some (.ref (cS C 88)), some (.int (x1 + 1))] dX7_hold_40 rfl rfl rfl (Nat.le_of_ble_eq_true rfl) rfl ?_
    refine z_goto hC 10 dX7_hold_43 (by decide) ?_
    exact hk10 (x1 + 1) u7 h
set_option maxHeartbeats 4000000 in
set_option maxRecDepth 100000 in
theorem t_X7_hold_10 {C : mCtx} (hC : mOK cX7_hold RX7 2 0 0 C) {res : Int32 × MU} (hE : mEndV C res.2) : ∀ (n : Nat) (x1 : Int32) (u : MU), l_X7_hold_10 n x1 u = some res → wat C u 10 [some (.ref (cS C 88)), some (.int x1)] [] := by
  intro n
  induction n with
  | zero => intro x1 u h; exact absurd h (by simp [l_X7_hold_10])
  | succ n ih =>
    intro x1 u h
    exact s_X7_hold_10 hC hE (fun x1 u => l_X7_hold_10 n x1 u) ih x1 u h
set_option maxHeartbeats 4000000 in
set_option maxRecDepth 100000 in
theorem s_X7_hold_0 {C : mCtx} (hC : mOK cX7_hold RX7 2 0 0 C) {res : Int32 × MU} (hE : mEndV C res.2) (u : MU) (h : f_X7_hold u = some res) : wat C u 0 [some (.ref (cS C 88)), none] [] := by
  unfold f_X7_hold at h
  refine z_aload_n hC dX7_hold_0 rfl rfl ?_
  refine z_aload_n hC dX7_hold_1 rfl rfl ?_
  refine z_getI hC kF_X7_203 sh_88 rfl dX7_hold_2 ?_
  obtain ⟨u1, e1, h⟩ := mS_some h
  refine y_putI hC kP_X7_236 sh_88 rfl dX7_hold_5 e1 ?_
  refine z_iconst (v := 0) hC dX7_hold_8 (by decide) ?_
  refine y_istore_n hC [some (.ref (cS C 88)), some (.int 0)] dX7_hold_9 rfl rfl (Nat.le_of_ble_eq_true rfl) (Nat.le_of_ble_eq_true rfl) rfl ?_
  exact t_X7_hold_10 hC hE FU 0 u1 h
theorem m_X7_hold {l : Launch} {dC : Nat → ClassId} {dI : Nat → Nat → Nat} {dA : Nat → ClassId} {as : Nat → Nat} (hD : mDis as) (u : MU) {r : Int32} {v : MU} (h : f_X7_hold u = some (r, v)) : mMV l dC dI dA as yX7_hold cX7_hold 2 0 0 [.ref (as 88)] u v := mMVof RX7 [some (.ref (as 88)), none] hD (by decide +kernel) rfl (Nat.le_of_ble_eq_true rfl) rfl (fun C e1 e2 e3 e4 e5 hC hE => by subst e5; exact s_X7_hold_0 hC (res := (r, v)) hE u h)
set_option maxHeartbeats 4000000 in
set_option maxRecDepth 100000 in
theorem s_X7_giveBack_10 {C : mCtx} (hC : mOK cX7_giveBack RX7 2 0 0 C) {res : Int32 × MU} (hE : mEndV C res.2) (k10 : Int32 → MU → mR) (hk10 : ∀ (x1 : Int32) (u : MU), k10 x1 u = some res → wat C u 10 [some (.ref (cS C 88)), some (.int x1)] []) (x1 : Int32) (u : MU) (h : b_X7_giveBack_10 k10 x1 u = some res) : wat C u 10 [some (.ref (cS C 88)), some (.int x1)] [] := by
  unfold b_X7_giveBack_10 at h
  refine z_iload_n hC dX7_giveBack_10 rfl rfl ?_
  refine z_bipush (v := nI 16) hC dX7_giveBack_11 (by decide) ?_
  refine z_icmp_ge hC 46 dX7_giveBack_13 (by decide) (fun b1 => ?_) (fun b1 => ?_)
  · rw [if_pos b1] at h
    obtain rfl := Option.some.inj h
    exact z_vret hC hE dX7_giveBack_46
  · rw [if_neg b1] at h
    refine z_aload_n hC dX7_giveBack_16 rfl rfl ?_
    refine z_getR hC 92 kF_X7_19 sh_88 rfl dX7_giveBack_17 ?_
    refine z_iload_n hC dX7_giveBack_20 rfl rfl ?_
    refine z_aload_n hC dX7_giveBack_21 rfl rfl ?_
    refine z_getR hC 103 kF_X7_52 sh_88 rfl dX7_giveBack_22 ?_
    refine z_iload_n hC dX7_giveBack_25 rfl rfl ?_
    obtain ⟨g2, h⟩ := gd_some h
    refine z_iald hC sh_103 g2 dX7_giveBack_26 ?_
    obtain ⟨g3, h⟩ := gd_some h
    obtain ⟨u4, e4, h⟩ := mS_some h
    refine y_iast hC sh_92 g3 dX7_giveBack_27 e4 ?_
    refine z_aload_n hC dX7_giveBack_28 rfl rfl ?_
    refine z_getR hC 93 kF_X7_22 sh_88 rfl dX7_giveBack_29 ?_
    refine z_iload_n hC dX7_giveBack_32 rfl rfl ?_
    refine z_aload_n hC dX7_giveBack_33 rfl rfl ?_
    refine z_getR hC 104 kF_X7_55 sh_88 rfl dX7_giveBack_34 ?_
    refine z_iload_n hC dX7_giveBack_37 rfl rfl ?_
    obtain ⟨g5, h⟩ := gd_some h
    refine z_iald hC sh_104 g5 dX7_giveBack_38 ?_
    obtain ⟨g6, h⟩ := gd_some h
    obtain ⟨u7, e7, h⟩ := mS_some h
    refine y_iast hC sh_93 g6 dX7_giveBack_39 e7 ?_
    refine y_iinc hC (x1 + 1) [some (.ref (cS C 88)), some (.int (x1 + 1))] dX7_giveBack_40 rfl rfl rfl (Nat.le_of_ble_eq_true rfl) rfl ?_
    refine z_goto hC 10 dX7_giveBack_43 (by decide) ?_
    exact hk10 (x1 + 1) u7 h
set_option maxHeartbeats 4000000 in
set_option maxRecDepth 100000 in
theorem t_X7_giveBack_10 {C : mCtx} (hC : mOK cX7_giveBack RX7 2 0 0 C) {res : Int32 × MU} (hE : mEndV C res.2) : ∀ (n : Nat) (x1 : Int32) (u : MU), l_X7_giveBack_10 n x1 u = some res → wat C u 10 [some (.ref (cS C 88)), some (.int x1)] [] := by
  intro n
  induction n with
  | zero => intro x1 u h; exact absurd h (by simp [l_X7_giveBack_10])
  | succ n ih =>
    intro x1 u h
    exact s_X7_giveBack_10 hC hE (fun x1 u => l_X7_giveBack_10 n x1 u) ih x1 u h
set_option maxHeartbeats 4000000 in
set_option maxRecDepth 100000 in
theorem s_X7_giveBack_0 {C : mCtx} (hC : mOK cX7_giveBack RX7 2 0 0 C) {res : Int32 × MU} (hE : mEndV C res.2) (u : MU) (h : f_X7_giveBack u = some res) : wat C u 0 [some (.ref (cS C 88)), none] [] := by
  unfold f_X7_giveBack at h
  refine z_aload_n hC dX7_giveBack_0 rfl rfl ?_
  refine z_aload_n hC dX7_giveBack_1 rfl rfl ?_
  refine z_getI hC kF_X7_236 sh_88 rfl dX7_giveBack_2 ?_
  obtain ⟨u1, e1, h⟩ := mS_some h
  refine y_putI hC kP_X7_203 sh_88 rfl dX7_giveBack_5 e1 ?_
  refine z_iconst (v := 0) hC dX7_giveBack_8 (by decide) ?_
  refine y_istore_n hC [some (.ref (cS C 88)), some (.int 0)] dX7_giveBack_9 rfl rfl (Nat.le_of_ble_eq_true rfl) (Nat.le_of_ble_eq_true rfl) rfl ?_
  exact t_X7_giveBack_10 hC hE FU 0 u1 h
theorem m_X7_giveBack {l : Launch} {dC : Nat → ClassId} {dI : Nat → Nat → Nat} {dA : Nat → ClassId} {as : Nat → Nat} (hD : mDis as) (u : MU) {r : Int32} {v : MU} (h : f_X7_giveBack u = some (r, v)) : mMV l dC dI dA as yX7_giveBack cX7_giveBack 2 0 0 [.ref (as 88)] u v := mMVof RX7 [some (.ref (as 88)), none] hD (by decide +kernel) rfl (Nat.le_of_ble_eq_true rfl) rfl (fun C e1 e2 e3 e4 e5 hC hE => by subst e5; exact s_X7_giveBack_0 hC (res := (r, v)) hE u h)
