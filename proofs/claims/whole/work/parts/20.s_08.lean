set_option maxHeartbeats 4000000 in
set_option maxRecDepth 100000 in
theorem s_X7_findReaches_84 {C : mCtx} (hC : mOK cX7_findReaches RX7 4 6 133 C) {res : Int32 × MU} (hE : mEndV C res.2) (k31 : Int32 → MU → mR) (hk31 : ∀ (x1 : Int32) (u : MU), k31 x1 u = some res → wat C u 31 [some (.ref (cS C 88)), some (.int x1), none, none] []) (k39 : Int32 → Int32 → MU → mR) (hk39 : ∀ (x1 : Int32) (x2 : Int32) (u : MU), k39 x1 x2 u = some res → wat C u 39 [some (.ref (cS C 88)), some (.int x1), some (.int x2), none] []) (k47 : Int32 → Int32 → Int32 → MU → mR) (hk47 : ∀ (x1 : Int32) (x2 : Int32) (x3 : Int32) (u : MU), k47 x1 x2 x3 u = some res → wat C u 47 [some (.ref (cS C 88)), some (.int x1), some (.int x2), some (.int x3)] []) (x1 : Int32) (x2 : Int32) (x3 : Int32) (s3 : Int32) (s2 : Int32) (s1 : Int32) (u : MU) (h : b_X7_findReaches_84 k31 k39 k47 x1 x2 x3 s3 s2 s1 u = some res) : wat C u 84 [some (.ref (cS C 88)), some (.int x1), some (.int x2), some (.int x3)] [(.int s3), (.int s2), (.int s1), (.ref (cS C 98))] := by
  unfold b_X7_findReaches_84 at h
  refine z_ior hC dX7_findReaches_84 ?_
  obtain ⟨g1, h⟩ := gd_some h
  obtain ⟨u2, e2, h⟩ := mS_some h
  refine y_iast hC sh_98 g1 dX7_findReaches_85 e2 ?_
  refine y_iinc hC (x3 + 1) [some (.ref (cS C 88)), some (.int x1), some (.int x2), some (.int (x3 + 1))] dX7_findReaches_86 rfl rfl rfl (Nat.le_of_ble_eq_true rfl) rfl ?_
  refine z_goto hC 47 dX7_findReaches_89 (by decide) ?_
  exact hk47 x1 x2 (x3 + 1) u2 h
set_option maxHeartbeats 4000000 in
set_option maxRecDepth 100000 in
theorem s_X7_findReaches_47 {C : mCtx} (hC : mOK cX7_findReaches RX7 4 6 133 C) {res : Int32 × MU} (hE : mEndV C res.2) (k31 : Int32 → MU → mR) (hk31 : ∀ (x1 : Int32) (u : MU), k31 x1 u = some res → wat C u 31 [some (.ref (cS C 88)), some (.int x1), none, none] []) (k39 : Int32 → Int32 → MU → mR) (hk39 : ∀ (x1 : Int32) (x2 : Int32) (u : MU), k39 x1 x2 u = some res → wat C u 39 [some (.ref (cS C 88)), some (.int x1), some (.int x2), none] []) (k47 : Int32 → Int32 → Int32 → MU → mR) (hk47 : ∀ (x1 : Int32) (x2 : Int32) (x3 : Int32) (u : MU), k47 x1 x2 x3 u = some res → wat C u 47 [some (.ref (cS C 88)), some (.int x1), some (.int x2), some (.int x3)] []) (x1 : Int32) (x2 : Int32) (x3 : Int32) (u : MU) (h : b_X7_findReaches_47 k31 k39 k47 x1 x2 x3 u = some res) : wat C u 47 [some (.ref (cS C 88)), some (.int x1), some (.int x2), some (.int x3)] [] := by
  unfold b_X7_findReaches_47 at h
  refine z_iload_n hC dX7_findReaches_47 rfl rfl ?_
  refine z_bipush (v := nI 6) hC dX7_findReaches_48 (by decide) ?_
  refine z_icmp_ge hC 92 dX7_findReaches_50 (by decide) (fun b1 => ?_) (fun b1 => ?_)
  · rw [if_pos b1] at h
    refine y_iinc hC (x2 + 1) [some (.ref (cS C 88)), some (.int x1), some (.int (x2 + 1)), some (.int x3)] dX7_findReaches_92 rfl rfl rfl (Nat.le_of_ble_eq_true rfl) rfl ?_
    refine z_goto hC 39 dX7_findReaches_95 (by decide) ?_
    refine z_mask [true, true, true, false] ?_
    exact hk39 x1 (x2 + 1) u h
  · rw [if_neg b1] at h
    refine z_aload_n hC dX7_findReaches_53 rfl rfl ?_
    refine z_getR hC 98 kF_X7_37 sh_88 rfl dX7_findReaches_54 ?_
    refine z_iload_n hC dX7_findReaches_57 rfl rfl ?_
    refine z_dup2 hC dX7_findReaches_58 rfl rfl ?_
    obtain ⟨g2, h⟩ := gd_some h
    refine z_iald hC sh_98 g2 dX7_findReaches_59 ?_
    refine z_aload_n hC dX7_findReaches_60 rfl rfl ?_
    refine z_getR hC 98 kF_X7_37 sh_88 rfl dX7_findReaches_61 ?_
    refine z_iload_n hC dX7_findReaches_64 rfl rfl ?_
    obtain ⟨g3, h⟩ := gd_some h
    refine z_iald hC sh_98 g3 dX7_findReaches_65 ?_
    refine z_iload_n hC dX7_findReaches_66 rfl rfl ?_
    refine z_ishr hC dX7_findReaches_67 ?_
    refine z_iconst (v := 1) hC dX7_findReaches_68 (by decide) ?_
    refine z_iand hC dX7_findReaches_69 ?_
    refine z_iconst (v := 1) hC dX7_findReaches_70 (by decide) ?_
    refine z_icmp_ne hC 83 dX7_findReaches_71 (by decide) (fun b4 => ?_) (fun b4 => ?_)
    · rw [if_neg b4] at h
      refine z_iconst (v := 0) hC dX7_findReaches_83 (by decide) ?_
      exact s_X7_findReaches_84 hC hE k31 hk31 k39 hk39 k47 hk47 x1 x2 x3 0 (u 98 x2.toNatClampNeg) x2 u h
    · rw [if_pos b4] at h
      refine z_aload_n hC dX7_findReaches_74 rfl rfl ?_
      refine z_getR hC 98 kF_X7_37 sh_88 rfl dX7_findReaches_75 ?_
      refine z_iload_n hC dX7_findReaches_78 rfl rfl ?_
      obtain ⟨g5, h⟩ := gd_some h
      refine z_iald hC sh_98 g5 dX7_findReaches_79 ?_
      refine z_goto hC 84 dX7_findReaches_80 (by decide) ?_
      exact s_X7_findReaches_84 hC hE k31 hk31 k39 hk39 k47 hk47 x1 x2 x3 (u 98 x3.toNatClampNeg) (u 98 x2.toNatClampNeg) x2 u h
set_option maxHeartbeats 4000000 in
set_option maxRecDepth 100000 in
theorem t_X7_findReaches_47 {C : mCtx} (hC : mOK cX7_findReaches RX7 4 6 133 C) {res : Int32 × MU} (hE : mEndV C res.2) (k31 : Int32 → MU → mR) (hk31 : ∀ (x1 : Int32) (u : MU), k31 x1 u = some res → wat C u 31 [some (.ref (cS C 88)), some (.int x1), none, none] []) (k39 : Int32 → Int32 → MU → mR) (hk39 : ∀ (x1 : Int32) (x2 : Int32) (u : MU), k39 x1 x2 u = some res → wat C u 39 [some (.ref (cS C 88)), some (.int x1), some (.int x2), none] []) : ∀ (n : Nat) (x1 : Int32) (x2 : Int32) (x3 : Int32) (u : MU), l_X7_findReaches_47 k31 k39 n x1 x2 x3 u = some res → wat C u 47 [some (.ref (cS C 88)), some (.int x1), some (.int x2), some (.int x3)] [] := by
  intro n
  induction n with
  | zero => intro x1 x2 x3 u h; exact absurd h (by simp [l_X7_findReaches_47])
  | succ n ih =>
    intro x1 x2 x3 u h
    exact s_X7_findReaches_47 hC hE k31 hk31 k39 hk39 (fun x1 x2 x3 u => l_X7_findReaches_47 k31 k39 n x1 x2 x3 u) ih x1 x2 x3 u h
set_option maxHeartbeats 4000000 in
set_option maxRecDepth 100000 in
theorem s_X7_findReaches_39 {C : mCtx} (hC : mOK cX7_findReaches RX7 4 6 133 C) {res : Int32 × MU} (hE : mEndV C res.2) (k31 : Int32 → MU → mR) (hk31 : ∀ (x1 : Int32) (u : MU), k31 x1 u = some res → wat C u 31 [some (.ref (cS C 88)), some (.int x1), none, none] []) (k39 : Int32 → Int32 → MU → mR) (hk39 : ∀ (x1 : Int32) (x2 : Int32) (u : MU), k39 x1 x2 u = some res → wat C u 39 [some (.ref (cS C 88)), some (.int x1), some (.int x2), none] []) (x1 : Int32) (x2 : Int32) (u : MU) (h : b_X7_findReaches_39 k31 k39 x1 x2 u = some res) : wat C u 39 [some (.ref (cS C 88)), some (.int x1), some (.int x2), none] [] := by
  unfold b_X7_findReaches_39 at h
  refine z_iload_n hC dX7_findReaches_39 rfl rfl ?_
  refine z_bipush (v := nI 6) hC dX7_findReaches_40 (by decide) ?_
  refine z_icmp_ge hC 98 dX7_findReaches_42 (by decide) (fun b1 => ?_) (fun b1 => ?_)
  · rw [if_pos b1] at h
    refine y_iinc hC (x1 + 1) [some (.ref (cS C 88)), some (.int (x1 + 1)), some (.int x2), none] dX7_findReaches_98 rfl rfl rfl (Nat.le_of_ble_eq_true rfl) rfl ?_
    refine z_goto hC 31 dX7_findReaches_101 (by decide) ?_
    refine z_mask [true, true, false, false] ?_
    exact hk31 (x1 + 1) u h
  · rw [if_neg b1] at h
    refine z_iconst (v := 0) hC dX7_findReaches_45 (by decide) ?_
    refine y_istore_n hC [some (.ref (cS C 88)), some (.int x1), some (.int x2), some (.int 0)] dX7_findReaches_46 rfl rfl (Nat.le_of_ble_eq_true rfl) (Nat.le_of_ble_eq_true rfl) rfl ?_
    exact t_X7_findReaches_47 hC hE k31 hk31 k39 hk39 FU x1 x2 0 u h
set_option maxHeartbeats 4000000 in
set_option maxRecDepth 100000 in
theorem t_X7_findReaches_39 {C : mCtx} (hC : mOK cX7_findReaches RX7 4 6 133 C) {res : Int32 × MU} (hE : mEndV C res.2) (k31 : Int32 → MU → mR) (hk31 : ∀ (x1 : Int32) (u : MU), k31 x1 u = some res → wat C u 31 [some (.ref (cS C 88)), some (.int x1), none, none] []) : ∀ (n : Nat) (x1 : Int32) (x2 : Int32) (u : MU), l_X7_findReaches_39 k31 n x1 x2 u = some res → wat C u 39 [some (.ref (cS C 88)), some (.int x1), some (.int x2), none] [] := by
  intro n
  induction n with
  | zero => intro x1 x2 u h; exact absurd h (by simp [l_X7_findReaches_39])
  | succ n ih =>
    intro x1 x2 u h
    exact s_X7_findReaches_39 hC hE k31 hk31 (fun x1 x2 u => l_X7_findReaches_39 k31 n x1 x2 u) ih x1 x2 u h
set_option maxHeartbeats 4000000 in
set_option maxRecDepth 100000 in
theorem s_X7_findReaches_31 {C : mCtx} (hC : mOK cX7_findReaches RX7 4 6 133 C) {res : Int32 × MU} (hE : mEndV C res.2) (k31 : Int32 → MU → mR) (hk31 : ∀ (x1 : Int32) (u : MU), k31 x1 u = some res → wat C u 31 [some (.ref (cS C 88)), some (.int x1), none, none] []) (x1 : Int32) (u : MU) (h : b_X7_findReaches_31 k31 x1 u = some res) : wat C u 31 [some (.ref (cS C 88)), some (.int x1), none, none] [] := by
  unfold b_X7_findReaches_31 at h
  refine z_iload_n hC dX7_findReaches_31 rfl rfl ?_
  refine z_bipush (v := nI 6) hC dX7_findReaches_32 (by decide) ?_
  refine z_icmp_ge hC 104 dX7_findReaches_34 (by decide) (fun b1 => ?_) (fun b1 => ?_)
  · rw [if_pos b1] at h
    obtain rfl := Option.some.inj h
    exact z_vret hC hE dX7_findReaches_104
  · rw [if_neg b1] at h
    refine z_iconst (v := 0) hC dX7_findReaches_37 (by decide) ?_
    refine y_istore_n hC [some (.ref (cS C 88)), some (.int x1), some (.int 0), none] dX7_findReaches_38 rfl rfl (Nat.le_of_ble_eq_true rfl) (Nat.le_of_ble_eq_true rfl) rfl ?_
    exact t_X7_findReaches_39 hC hE k31 hk31 FU x1 0 u h
set_option maxHeartbeats 4000000 in
set_option maxRecDepth 100000 in
theorem t_X7_findReaches_31 {C : mCtx} (hC : mOK cX7_findReaches RX7 4 6 133 C) {res : Int32 × MU} (hE : mEndV C res.2) : ∀ (n : Nat) (x1 : Int32) (u : MU), l_X7_findReaches_31 n x1 u = some res → wat C u 31 [some (.ref (cS C 88)), some (.int x1), none, none] [] := by
  intro n
  induction n with
  | zero => intro x1 u h; exact absurd h (by simp [l_X7_findReaches_31])
  | succ n ih =>
    intro x1 u h
    exact s_X7_findReaches_31 hC hE (fun x1 u => l_X7_findReaches_31 n x1 u) ih x1 u h
set_option maxHeartbeats 4000000 in
set_option maxRecDepth 100000 in
theorem s_X7_findReaches_2 {C : mCtx} (hC : mOK cX7_findReaches RX7 4 6 133 C) {res : Int32 × MU} (hE : mEndV C res.2) (k2 : Int32 → MU → mR) (hk2 : ∀ (x1 : Int32) (u : MU), k2 x1 u = some res → wat C u 2 [some (.ref (cS C 88)), some (.int x1), none, none] []) (x1 : Int32) (u : MU) (h : b_X7_findReaches_2 k2 x1 u = some res) : wat C u 2 [some (.ref (cS C 88)), some (.int x1), none, none] [] := by
  unfold b_X7_findReaches_2 at h
  refine z_iload_n hC dX7_findReaches_2 rfl rfl ?_
  refine z_bipush (v := nI 6) hC dX7_findReaches_3 (by decide) ?_
  refine z_icmp_ge hC 29 dX7_findReaches_5 (by decide) (fun b1 => ?_) (fun b1 => ?_)
  · rw [if_pos b1] at h
    refine z_iconst (v := 0) hC dX7_findReaches_29 (by decide) ?_
    refine y_istore_n hC [some (.ref (cS C 88)), some (.int 0), none, none] dX7_findReaches_30 rfl rfl (Nat.le_of_ble_eq_true rfl) (Nat.le_of_ble_eq_true rfl) rfl ?_
    exact t_X7_findReaches_31 hC hE FU 0 u h
  · rw [if_neg b1] at h
    refine z_aload_n hC dX7_findReaches_8 rfl rfl ?_
    refine z_getR hC 98 kF_X7_37 sh_88 rfl dX7_findReaches_9 ?_
    refine z_iload_n hC dX7_findReaches_12 rfl rfl ?_
    refine z_iconst (v := 1) hC dX7_findReaches_13 (by decide) ?_
    refine z_iload_n hC dX7_findReaches_14 rfl rfl ?_
    refine z_ishl hC dX7_findReaches_15 ?_
    refine z_aload_n hC dX7_findReaches_16 rfl rfl ?_
    refine z_iload_n hC dX7_findReaches_17 rfl rfl ?_
    obtain ⟨r2, u2, c2, h⟩ := mB_some h
    refine z_callI hC kC_X7_callsOf kM_X7_167 sh_88 TX7 39 rfl (m_X7_callsOf hC.dis x1 u c2) rfl (Nat.le_of_ble_eq_true rfl) (Nat.le_of_ble_eq_true rfl) (Nat.le_of_ble_eq_true rfl) rfl dX7_findReaches_18 ?_
    refine z_ior hC dX7_findReaches_21 ?_
    obtain ⟨g3, h⟩ := gd_some h
    obtain ⟨u4, e4, h⟩ := mS_some h
    refine y_iast hC sh_98 g3 dX7_findReaches_22 e4 ?_
    refine y_iinc hC (x1 + 1) [some (.ref (cS C 88)), some (.int (x1 + 1)), none, none] dX7_findReaches_23 rfl rfl rfl (Nat.le_of_ble_eq_true rfl) rfl ?_
    refine z_goto hC 2 dX7_findReaches_26 (by decide) ?_
    exact hk2 (x1 + 1) u4 h
set_option maxHeartbeats 4000000 in
set_option maxRecDepth 100000 in
theorem t_X7_findReaches_2 {C : mCtx} (hC : mOK cX7_findReaches RX7 4 6 133 C) {res : Int32 × MU} (hE : mEndV C res.2) : ∀ (n : Nat) (x1 : Int32) (u : MU), l_X7_findReaches_2 n x1 u = some res → wat C u 2 [some (.ref (cS C 88)), some (.int x1), none, none] [] := by
  intro n
  induction n with
  | zero => intro x1 u h; exact absurd h (by simp [l_X7_findReaches_2])
  | succ n ih =>
    intro x1 u h
    exact s_X7_findReaches_2 hC hE (fun x1 u => l_X7_findReaches_2 n x1 u) ih x1 u h
set_option maxHeartbeats 4000000 in
set_option maxRecDepth 100000 in
theorem s_X7_findReaches_0 {C : mCtx} (hC : mOK cX7_findReaches RX7 4 6 133 C) {res : Int32 × MU} (hE : mEndV C res.2) (u : MU) (h : f_X7_findReaches u = some res) : wat C u 0 [some (.ref (cS C 88)), none, none, none] [] := by
  unfold f_X7_findReaches at h
  refine z_iconst (v := 0) hC dX7_findReaches_0 (by decide) ?_
  refine y_istore_n hC [some (.ref (cS C 88)), some (.int 0), none, none] dX7_findReaches_1 rfl rfl (Nat.le_of_ble_eq_true rfl) (Nat.le_of_ble_eq_true rfl) rfl ?_
  exact t_X7_findReaches_2 hC hE FU 0 u h
theorem m_X7_findReaches {l : Launch} {dC : Nat → ClassId} {dI : Nat → Nat → Nat} {dA : Nat → ClassId} {as : Nat → Nat} (hD : mDis as) (u : MU) {r : Int32} {v : MU} (h : f_X7_findReaches u = some (r, v)) : mMV l dC dI dA as yX7_findReaches cX7_findReaches 4 6 133 [.ref (as 88)] u v := mMVof RX7 [some (.ref (as 88)), none, none, none] hD (by decide +kernel) rfl (Nat.le_of_ble_eq_true rfl) rfl (fun C e1 e2 e3 e4 e5 hC hE => by subst e5; exact s_X7_findReaches_0 hC (res := (r, v)) hE u h)
set_option maxHeartbeats 4000000 in
set_option maxRecDepth 100000 in
theorem s_X7_isKnown_40 {C : mCtx} (hC : mOK cX7_isKnown RX7 4 6 132 C) {res : Int32 × MU} (hE : mEndI C .boolean res.1 res.2) (x1 : Int32) (k4 : Int32 → Int32 → MU → mR) (hk4 : ∀ (x2 : Int32) (x3 : Int32) (u : MU), k4 x2 x3 u = some res → wat C u 4 [some (.ref (cS C 88)), some (.int x1), some (.int x2), some (.int x3)] []) (x3 : Int32) (s0 : Int32) (u : MU) (h : b_X7_isKnown_40 k4 x1 x3 s0 u = some res) : wat C u 40 [some (.ref (cS C 88)), some (.int x1), none, some (.int x3)] [(.int s0)] := by
  unfold b_X7_isKnown_40 at h
  refine y_istore_n hC [some (.ref (cS C 88)), some (.int x1), some (.int s0), some (.int x3)] dX7_isKnown_40 rfl rfl (Nat.le_of_ble_eq_true rfl) (Nat.le_of_ble_eq_true rfl) rfl ?_
  refine y_iinc hC (x3 + 1) [some (.ref (cS C 88)), some (.int x1), some (.int s0), some (.int (x3 + 1))] dX7_isKnown_41 rfl rfl rfl (Nat.le_of_ble_eq_true rfl) rfl ?_
  refine z_goto hC 4 dX7_isKnown_44 (by decide) ?_
  exact hk4 s0 (x3 + 1) u h
set_option maxHeartbeats 4000000 in
set_option maxRecDepth 100000 in
theorem s_X7_isKnown_35 {C : mCtx} (hC : mOK cX7_isKnown RX7 4 6 132 C) {res : Int32 × MU} (hE : mEndI C .boolean res.1 res.2) (x1 : Int32) (k4 : Int32 → Int32 → MU → mR) (hk4 : ∀ (x2 : Int32) (x3 : Int32) (u : MU), k4 x2 x3 u = some res → wat C u 4 [some (.ref (cS C 88)), some (.int x1), some (.int x2), some (.int x3)] []) (x3 : Int32) (u : MU) (h : b_X7_isKnown_35 k4 x1 x3 u = some res) : wat C u 35 [some (.ref (cS C 88)), some (.int x1), none, some (.int x3)] [] := by
  unfold b_X7_isKnown_35 at h
  refine z_iconst (v := 1) hC dX7_isKnown_35 (by decide) ?_
  refine z_goto hC 40 dX7_isKnown_36 (by decide) ?_
  exact s_X7_isKnown_40 hC hE x1 k4 hk4 x3 1 u h
set_option maxHeartbeats 4000000 in
set_option maxRecDepth 100000 in
theorem s_X7_isKnown_39 {C : mCtx} (hC : mOK cX7_isKnown RX7 4 6 132 C) {res : Int32 × MU} (hE : mEndI C .boolean res.1 res.2) (x1 : Int32) (k4 : Int32 → Int32 → MU → mR) (hk4 : ∀ (x2 : Int32) (x3 : Int32) (u : MU), k4 x2 x3 u = some res → wat C u 4 [some (.ref (cS C 88)), some (.int x1), some (.int x2), some (.int x3)] []) (x3 : Int32) (u : MU) (h : b_X7_isKnown_39 k4 x1 x3 u = some res) : wat C u 39 [some (.ref (cS C 88)), some (.int x1), none, some (.int x3)] [] := by
  unfold b_X7_isKnown_39 at h
  refine z_iconst (v := 0) hC dX7_isKnown_39 (by decide) ?_
  exact s_X7_isKnown_40 hC hE x1 k4 hk4 x3 0 u h
set_option maxHeartbeats 4000000 in
set_option maxRecDepth 100000 in
theorem s_X7_isKnown_4 {C : mCtx} (hC : mOK cX7_isKnown RX7 4 6 132 C) {res : Int32 × MU} (hE : mEndI C .boolean res.1 res.2) (x1 : Int32) (k4 : Int32 → Int32 → MU → mR) (hk4 : ∀ (x2 : Int32) (x3 : Int32) (u : MU), k4 x2 x3 u = some res → wat C u 4 [some (.ref (cS C 88)), some (.int x1), some (.int x2), some (.int x3)] []) (x2 : Int32) (x3 : Int32) (u : MU) (h : b_X7_isKnown_4 k4 x1 x2 x3 u = some res) : wat C u 4 [some (.ref (cS C 88)), some (.int x1), some (.int x2), some (.int x3)] [] := by
  unfold b_X7_isKnown_4 at h
  refine z_iload_n hC dX7_isKnown_4 rfl rfl ?_
  refine z_bipush (v := nI 6) hC dX7_isKnown_5 (by decide) ?_
  refine z_icmp_ge hC 47 dX7_isKnown_7 (by decide) (fun b1 => ?_) (fun b1 => ?_)
  · rw [if_pos b1] at h
    refine z_iload_n hC dX7_isKnown_47 rfl rfl ?_
    obtain ⟨g2, h⟩ := gd_some h
    obtain rfl := Option.some.inj h
    exact z_zret hC hE g2 dX7_isKnown_48
  · rw [if_neg b1] at h
    refine z_iload_n hC dX7_isKnown_10 rfl rfl ?_
    refine z_if_eq hC 39 dX7_isKnown_11 (by decide) (fun b3 => ?_) (fun b3 => ?_)
    · rw [if_pos b3] at h
      refine z_mask [true, true, false, true] ?_
      exact s_X7_isKnown_39 hC hE x1 k4 hk4 x3 u h
    · rw [if_neg b3] at h
      refine z_aload_n hC dX7_isKnown_14 rfl rfl ?_
      refine z_getR hC 98 kF_X7_37 sh_88 rfl dX7_isKnown_15 ?_
      refine z_iload_n hC dX7_isKnown_18 rfl rfl ?_
      obtain ⟨g4, h⟩ := gd_some h
      refine z_iald hC sh_98 g4 dX7_isKnown_19 ?_
      refine z_iload_n hC dX7_isKnown_20 rfl rfl ?_
      refine z_ishr hC dX7_isKnown_21 ?_
      refine z_iconst (v := 1) hC dX7_isKnown_22 (by decide) ?_
      refine z_iand hC dX7_isKnown_23 ?_
      refine z_if_eq hC 35 dX7_isKnown_24 (by decide) (fun b5 => ?_) (fun b5 => ?_)
      · rw [if_pos b5] at h
        refine z_mask [true, true, false, true] ?_
        exact s_X7_isKnown_35 hC hE x1 k4 hk4 x3 u h
      · rw [if_neg b5] at h
        refine z_aload_n hC dX7_isKnown_27 rfl rfl ?_
        refine z_iload_n hC dX7_isKnown_28 rfl rfl ?_
        obtain ⟨r6, u6, c6, h⟩ := mB_some h
        refine z_callI hC kC_X7_faultOf kM_X7_159 sh_88 TX7 39 rfl (m_X7_faultOf hC.dis x3 u c6) rfl (Nat.le_of_ble_eq_true rfl) (Nat.le_of_ble_eq_true rfl) (Nat.le_of_ble_eq_true rfl) rfl dX7_isKnown_29 ?_
        refine z_if_ge hC 39 dX7_isKnown_32 (by decide) (fun b7 => ?_) (fun b7 => ?_)
        · rw [if_pos b7] at h
          refine z_mask [true, true, false, true] ?_
          exact s_X7_isKnown_39 hC hE x1 k4 hk4 x3 u6 h
        · rw [if_neg b7] at h
          refine z_mask [true, true, false, true] ?_
          exact s_X7_isKnown_35 hC hE x1 k4 hk4 x3 u6 h
set_option maxHeartbeats 4000000 in
set_option maxRecDepth 100000 in
theorem t_X7_isKnown_4 {C : mCtx} (hC : mOK cX7_isKnown RX7 4 6 132 C) {res : Int32 × MU} (hE : mEndI C .boolean res.1 res.2) (x1 : Int32) : ∀ (n : Nat) (x2 : Int32) (x3 : Int32) (u : MU), l_X7_isKnown_4 x1 n x2 x3 u = some res → wat C u 4 [some (.ref (cS C 88)), some (.int x1), some (.int x2), some (.int x3)] [] := by
  intro n
  induction n with
  | zero => intro x2 x3 u h; exact absurd h (by simp [l_X7_isKnown_4])
  | succ n ih =>
    intro x2 x3 u h
    exact s_X7_isKnown_4 hC hE x1 (fun x2 x3 u => l_X7_isKnown_4 x1 n x2 x3 u) ih x2 x3 u h
set_option maxHeartbeats 4000000 in
set_option maxRecDepth 100000 in
theorem s_X7_isKnown_0 {C : mCtx} (hC : mOK cX7_isKnown RX7 4 6 132 C) {res : Int32 × MU} (hE : mEndI C .boolean res.1 res.2) (x1 : Int32) (u : MU) (h : f_X7_isKnown x1 u = some res) : wat C u 0 [some (.ref (cS C 88)), some (.int x1), none, none] [] := by
  unfold f_X7_isKnown at h
  refine z_iconst (v := 1) hC dX7_isKnown_0 (by decide) ?_
  refine y_istore_n hC [some (.ref (cS C 88)), some (.int x1), some (.int 1), none] dX7_isKnown_1 rfl rfl (Nat.le_of_ble_eq_true rfl) (Nat.le_of_ble_eq_true rfl) rfl ?_
  refine z_iconst (v := 0) hC dX7_isKnown_2 (by decide) ?_
  refine y_istore_n hC [some (.ref (cS C 88)), some (.int x1), some (.int 1), some (.int 0)] dX7_isKnown_3 rfl rfl (Nat.le_of_ble_eq_true rfl) (Nat.le_of_ble_eq_true rfl) rfl ?_
  exact t_X7_isKnown_4 hC hE x1 FU 1 0 u h
theorem m_X7_isKnown {l : Launch} {dC : Nat → ClassId} {dI : Nat → Nat → Nat} {dA : Nat → ClassId} {as : Nat → Nat} (hD : mDis as) (x1 : Int32) (u : MU) {r : Int32} {v : MU} (h : f_X7_isKnown x1 u = some (r, v)) : mMI l dC dI dA as yX7_isKnown cX7_isKnown 4 .boolean 6 132 [.ref (as 88), .int x1] u r v := mMIof RX7 [some (.ref (as 88)), some (.int x1), none, none] hD (by decide +kernel) rfl (Nat.le_of_ble_eq_true rfl) rfl (fun C e1 e2 e3 e4 e5 hC hE => by subst e5; exact s_X7_isKnown_0 hC (res := (r, v)) hE x1 u h)
set_option maxHeartbeats 4000000 in
set_option maxRecDepth 100000 in
theorem s_X7_more_20 {C : mCtx} (hC : mOK cX7_more RX7 3 0 0 C) {res : Int32 × MU} (hE : mEndI C .int res.1 res.2) (x1 : Int32) (x2 : Int32) (s1 : Int32) (u : MU) (h : b_X7_more_20 x1 x2 s1 u = some res) : wat C u 20 [none, some (.int x1), some (.int x2)] [(.int s1), (.ref (cS C 88))] := by
  unfold b_X7_more_20 at h
  obtain ⟨g1, h⟩ := gd_some h
  obtain ⟨u2, e2, h⟩ := mS_some h
  refine y_putZ hC g1 kP_X7_170 sh_88 rfl dX7_more_20 e2 ?_
  refine z_iload_n hC dX7_more_23 rfl rfl ?_
  refine z_iload_n hC dX7_more_24 rfl rfl ?_
  refine z_ior hC dX7_more_25 ?_
  obtain rfl := Option.some.inj h
  exact z_iret hC hE dX7_more_26
set_option maxHeartbeats 4000000 in
set_option maxRecDepth 100000 in
theorem s_X7_more_15 {C : mCtx} (hC : mOK cX7_more RX7 3 0 0 C) {res : Int32 × MU} (hE : mEndI C .int res.1 res.2) (x1 : Int32) (x2 : Int32) (u : MU) (h : b_X7_more_15 x1 x2 u = some res) : wat C u 15 [none, some (.int x1), some (.int x2)] [(.ref (cS C 88))] := by
  unfold b_X7_more_15 at h
  refine z_iconst (v := 1) hC dX7_more_15 (by decide) ?_
  refine z_goto hC 20 dX7_more_16 (by decide) ?_
  exact s_X7_more_20 hC hE x1 x2 1 u h
set_option maxHeartbeats 4000000 in
set_option maxRecDepth 100000 in
theorem s_X7_more_0 {C : mCtx} (hC : mOK cX7_more RX7 3 0 0 C) {res : Int32 × MU} (hE : mEndI C .int res.1 res.2) (x1 : Int32) (x2 : Int32) (u : MU) (h : f_X7_more x1 x2 u = some res) : wat C u 0 [some (.ref (cS C 88)), some (.int x1), some (.int x2)] [] := by
  unfold f_X7_more at h
  refine z_aload_n hC dX7_more_0 rfl rfl ?_
  refine z_aload_n hC dX7_more_1 rfl rfl ?_
  refine z_getI hC kF_X7_170 sh_88 rfl dX7_more_2 ?_
  refine z_if_ne hC 15 dX7_more_5 (by decide) (fun b1 => ?_) (fun b1 => ?_)
  · rw [if_neg b1] at h
    refine z_mask [false, true, true] ?_
    exact s_X7_more_15 hC hE x1 x2 u h
  · rw [if_pos b1] at h
    refine z_iload_n hC dX7_more_8 rfl rfl ?_
    refine z_iload_n hC dX7_more_9 rfl rfl ?_
    refine z_ior hC dX7_more_10 ?_
    refine z_iload_n hC dX7_more_11 rfl rfl ?_
    refine z_icmp_eq hC 19 dX7_more_12 (by decide) (fun b2 => ?_) (fun b2 => ?_)
    · rw [if_pos b2] at h
      refine z_iconst (v := 0) hC dX7_more_19 (by decide) ?_
      refine z_mask [false, true, true] ?_
      exact s_X7_more_20 hC hE x1 x2 0 u h
    · rw [if_neg b2] at h
      refine z_mask [false, true, true] ?_
      exact s_X7_more_15 hC hE x1 x2 u h
theorem m_X7_more {l : Launch} {dC : Nat → ClassId} {dI : Nat → Nat → Nat} {dA : Nat → ClassId} {as : Nat → Nat} (hD : mDis as) (x1 : Int32) (x2 : Int32) (u : MU) {r : Int32} {v : MU} (h : f_X7_more x1 x2 u = some (r, v)) : mMI l dC dI dA as yX7_more cX7_more 3 .int 0 0 [.ref (as 88), .int x1, .int x2] u r v := mMIof RX7 [some (.ref (as 88)), some (.int x1), some (.int x2)] hD (by decide +kernel) rfl (Nat.le_of_ble_eq_true rfl) rfl (fun C e1 e2 e3 e4 e5 hC hE => by subst e5; exact s_X7_more_0 hC (res := (r, v)) hE x1 x2 u h)
set_option maxHeartbeats 4000000 in
set_option maxRecDepth 100000 in
theorem s_X7_takeIn_0 {C : mCtx} (hC : mOK cX7_takeIn RX7 6 1 22 C) {res : Int32 × MU} (hE : mEndV C res.2) (x1 : Int32) (x2 : Int32) (x3 : Int32) (x4 : Int32) (x5 : Int32) (u : MU) (h : f_X7_takeIn x1 x2 x3 x4 x5 u = some res) : wat C u 0 [some (.ref (cS C 88)), some (.int x1), some (.int x2), some (.int x3), some (.int x4), some (.int x5)] [] := by
  unfold f_X7_takeIn at h
  refine z_aload_n hC dX7_takeIn_0 rfl rfl ?_
  refine z_getR hC 94 kF_X7_25 sh_88 rfl dX7_takeIn_1 ?_
  refine z_iload_n hC dX7_takeIn_4 rfl rfl ?_
  refine z_aload_n hC dX7_takeIn_5 rfl rfl ?_
  refine z_aload_n hC dX7_takeIn_6 rfl rfl ?_
  refine z_getR hC 94 kF_X7_25 sh_88 rfl dX7_takeIn_7 ?_
  refine z_iload_n hC dX7_takeIn_10 rfl rfl ?_
  obtain ⟨g1, h⟩ := gd_some h
  refine z_iald hC sh_94 g1 dX7_takeIn_11 ?_
  refine z_iload_n hC dX7_takeIn_12 rfl rfl ?_
  obtain ⟨r2, u2, c2, h⟩ := mB_some h
  refine z_callI hC kC_X7_more kM_X7_174 sh_88 TX7 39 rfl (m_X7_more hC.dis (u 94 x1.toNatClampNeg) x2 u c2) rfl (Nat.le_of_ble_eq_true rfl) (Nat.le_of_ble_eq_true rfl) (Nat.le_of_ble_eq_true rfl) rfl dX7_takeIn_13 ?_
  obtain ⟨g3, h⟩ := gd_some h
  obtain ⟨u4, e4, h⟩ := mS_some h
  refine y_iast hC sh_94 g3 dX7_takeIn_16 e4 ?_
  refine z_aload_n hC dX7_takeIn_17 rfl rfl ?_
  refine z_getR hC 95 kF_X7_28 sh_88 rfl dX7_takeIn_18 ?_
  refine z_iload_n hC dX7_takeIn_21 rfl rfl ?_
  refine z_aload_n hC dX7_takeIn_22 rfl rfl ?_
  refine z_aload_n hC dX7_takeIn_23 rfl rfl ?_
  refine z_getR hC 95 kF_X7_28 sh_88 rfl dX7_takeIn_24 ?_
  refine z_iload_n hC dX7_takeIn_27 rfl rfl ?_
  obtain ⟨g5, h⟩ := gd_some h
  refine z_iald hC sh_95 g5 dX7_takeIn_28 ?_
  refine z_iload_n hC dX7_takeIn_29 rfl rfl ?_
  obtain ⟨r6, u6, c6, h⟩ := mB_some h
  refine z_callI hC kC_X7_more kM_X7_174 sh_88 TX7 39 rfl (m_X7_more hC.dis (u4 95 x1.toNatClampNeg) x3 u4 c6) rfl (Nat.le_of_ble_eq_true rfl) (Nat.le_of_ble_eq_true rfl) (Nat.le_of_ble_eq_true rfl) rfl dX7_takeIn_30 ?_
  obtain ⟨g7, h⟩ := gd_some h
  obtain ⟨u8, e8, h⟩ := mS_some h
  refine y_iast hC sh_95 g7 dX7_takeIn_33 e8 ?_
  refine z_aload_n hC dX7_takeIn_34 rfl rfl ?_
  refine z_getR hC 96 kF_X7_31 sh_88 rfl dX7_takeIn_35 ?_
  refine z_iload_n hC dX7_takeIn_38 rfl rfl ?_
  refine z_aload_n hC dX7_takeIn_39 rfl rfl ?_
  refine z_aload_n hC dX7_takeIn_40 rfl rfl ?_
  refine z_getR hC 96 kF_X7_31 sh_88 rfl dX7_takeIn_41 ?_
  refine z_iload_n hC dX7_takeIn_44 rfl rfl ?_
  obtain ⟨g9, h⟩ := gd_some h
  refine z_iald hC sh_96 g9 dX7_takeIn_45 ?_
  refine z_iload hC dX7_takeIn_46 rfl ?_
  obtain ⟨r10, u10, c10, h⟩ := mB_some h
  refine z_callI hC kC_X7_more kM_X7_174 sh_88 TX7 39 rfl (m_X7_more hC.dis (u8 96 x1.toNatClampNeg) x4 u8 c10) rfl (Nat.le_of_ble_eq_true rfl) (Nat.le_of_ble_eq_true rfl) (Nat.le_of_ble_eq_true rfl) rfl dX7_takeIn_48 ?_
  obtain ⟨g11, h⟩ := gd_some h
  obtain ⟨u12, e12, h⟩ := mS_some h
  refine y_iast hC sh_96 g11 dX7_takeIn_51 e12 ?_
  refine z_aload_n hC dX7_takeIn_52 rfl rfl ?_
  refine z_getR hC 97 kF_X7_34 sh_88 rfl dX7_takeIn_53 ?_
  refine z_iload_n hC dX7_takeIn_56 rfl rfl ?_
  refine z_aload_n hC dX7_takeIn_57 rfl rfl ?_
  refine z_aload_n hC dX7_takeIn_58 rfl rfl ?_
  refine z_getR hC 97 kF_X7_34 sh_88 rfl dX7_takeIn_59 ?_
  refine z_iload_n hC dX7_takeIn_62 rfl rfl ?_
  obtain ⟨g13, h⟩ := gd_some h
  refine z_iald hC sh_97 g13 dX7_takeIn_63 ?_
  refine z_iload hC dX7_takeIn_64 rfl ?_
  obtain ⟨r14, u14, c14, h⟩ := mB_some h
  refine z_callI hC kC_X7_more kM_X7_174 sh_88 TX7 39 rfl (m_X7_more hC.dis (u12 97 x1.toNatClampNeg) x5 u12 c14) rfl (Nat.le_of_ble_eq_true rfl) (Nat.le_of_ble_eq_true rfl) (Nat.le_of_ble_eq_true rfl) rfl dX7_takeIn_66 ?_
  obtain ⟨g15, h⟩ := gd_some h
  obtain ⟨u16, e16, h⟩ := mS_some h
  refine y_iast hC sh_97 g15 dX7_takeIn_69 e16 ?_
  obtain rfl := Option.some.inj h
  exact z_vret hC hE dX7_takeIn_70
theorem m_X7_takeIn {l : Launch} {dC : Nat → ClassId} {dI : Nat → Nat → Nat} {dA : Nat → ClassId} {as : Nat → Nat} (hD : mDis as) (x1 : Int32) (x2 : Int32) (x3 : Int32) (x4 : Int32) (x5 : Int32) (u : MU) {r : Int32} {v : MU} (h : f_X7_takeIn x1 x2 x3 x4 x5 u = some (r, v)) : mMV l dC dI dA as yX7_takeIn cX7_takeIn 6 1 22 [.ref (as 88), .int x1, .int x2, .int x3, .int x4, .int x5] u v := mMVof RX7 [some (.ref (as 88)), some (.int x1), some (.int x2), some (.int x3), some (.int x4), some (.int x5)] hD (by decide +kernel) rfl (Nat.le_of_ble_eq_true rfl) rfl (fun C e1 e2 e3 e4 e5 hC hE => by subst e5; exact s_X7_takeIn_0 hC (res := (r, v)) hE x1 x2 x3 x4 x5 u h)
set_option maxHeartbeats 4000000 in
set_option maxRecDepth 100000 in
theorem s_X7_addEffects_177 {C : mCtx} (hC : mOK cX7_addEffects RX7 6 5 111 C) {res : Int32 × MU} (hE : mEndV C res.2) (x2 : Int32) (k12 : Int32 → MU → mR) (hk12 : ∀ (x3 : Int32) (u : MU), k12 x3 u = some res → wat C u 12 [some (.ref (cS C 88)), none, some (.int x2), some (.int x3), none, none] []) (x3 : Int32) (u : MU) (h : b_X7_addEffects_177 k12 x2 x3 u = some res) : wat C u 177 [some (.ref (cS C 88)), none, some (.int x2), some (.int x3), none, none] [] := by
  unfold b_X7_addEffects_177 at h
  refine z_goto hC 12 dX7_addEffects_177 (by decide) ?_
  exact hk12 x3 u h
set_option maxHeartbeats 4000000 in
set_option maxRecDepth 100000 in
theorem s_X7_addEffects_173 {C : mCtx} (hC : mOK cX7_addEffects RX7 6 5 111 C) {res : Int32 × MU} (hE : mEndV C res.2) (x2 : Int32) (k12 : Int32 → MU → mR) (hk12 : ∀ (x3 : Int32) (u : MU), k12 x3 u = some res → wat C u 12 [some (.ref (cS C 88)), none, some (.int x2), some (.int x3), none, none] []) (x3 : Int32) (s4 : Int32) (s3 : Int32) (s2 : Int32) (s1 : Int32) (u : MU) (h : b_X7_addEffects_173 k12 x2 x3 s4 s3 s2 s1 u = some res) : wat C u 173 [some (.ref (cS C 88)), none, some (.int x2), some (.int x3), none, none] [(.int s4), (.int s3), (.int s2), (.int s1), (.ref (cS C 88))] := by
  unfold b_X7_addEffects_173 at h
  refine z_iconst (v := 0) hC dX7_addEffects_173 (by decide) ?_
  obtain ⟨r1, u1, c1, h⟩ := mB_some h
  refine z_callV hC kC_X7_takeIn kM_X7_178 sh_88 TX7 39 rfl (m_X7_takeIn hC.dis s1 s2 s3 s4 0 u c1) rfl (Nat.le_of_ble_eq_true rfl) (Nat.le_of_ble_eq_true rfl) (Nat.le_of_ble_eq_true rfl) rfl dX7_addEffects_174 ?_
  exact s_X7_addEffects_177 hC hE x2 k12 hk12 x3 u1 h
set_option maxHeartbeats 4000000 in
set_option maxRecDepth 100000 in
theorem s_X7_addEffects_158 {C : mCtx} (hC : mOK cX7_addEffects RX7 6 5 111 C) {res : Int32 × MU} (hE : mEndV C res.2) (x2 : Int32) (k12 : Int32 → MU → mR) (hk12 : ∀ (x3 : Int32) (u : MU), k12 x3 u = some res → wat C u 12 [some (.ref (cS C 88)), none, some (.int x2), some (.int x3), none, none] []) (x3 : Int32) (x5 : Int32) (s3 : Int32) (s2 : Int32) (s1 : Int32) (u : MU) (h : b_X7_addEffects_158 k12 x2 x3 x5 s3 s2 s1 u = some res) : wat C u 158 [some (.ref (cS C 88)), none, some (.int x2), some (.int x3), none, some (.int x5)] [(.int s3), (.int s2), (.int s1), (.ref (cS C 88))] := by
  unfold b_X7_addEffects_158 at h
  refine z_iload hC dX7_addEffects_158 rfl ?_
  refine z_if_eq hC 167 dX7_addEffects_160 (by decide) (fun b1 => ?_) (fun b1 => ?_)
  · rw [if_pos b1] at h
    refine z_iconst (v := 1) hC dX7_addEffects_167 (by decide) ?_
    refine z_aload_n hC dX7_addEffects_168 rfl rfl ?_
    refine z_getI hC kF_X7_124 sh_88 rfl dX7_addEffects_169 ?_
    refine z_ishl hC dX7_addEffects_172 ?_
    refine z_mask [true, false, true, true, false, false] ?_
    exact s_X7_addEffects_173 hC hE x2 k12 hk12 x3 (1 <<< ((u 88 11) &&& 31)) s3 s2 s1 u h
  · rw [if_neg b1] at h
    refine z_iconst (v := 0) hC dX7_addEffects_163 (by decide) ?_
    refine z_goto hC 173 dX7_addEffects_164 (by decide) ?_
    refine z_mask [true, false, true, true, false, false] ?_
    exact s_X7_addEffects_173 hC hE x2 k12 hk12 x3 0 s3 s2 s1 u h
set_option maxHeartbeats 4000000 in
set_option maxRecDepth 100000 in
theorem s_X7_addEffects_135 {C : mCtx} (hC : mOK cX7_addEffects RX7 6 5 111 C) {res : Int32 × MU} (hE : mEndV C res.2) (x2 : Int32) (k12 : Int32 → MU → mR) (hk12 : ∀ (x3 : Int32) (u : MU), k12 x3 u = some res → wat C u 12 [some (.ref (cS C 88)), none, some (.int x2), some (.int x3), none, none] []) (x3 : Int32) (s0 : Int32) (u : MU) (h : b_X7_addEffects_135 k12 x2 x3 s0 u = some res) : wat C u 135 [some (.ref (cS C 88)), none, some (.int x2), some (.int x3), none, none] [(.int s0)] := by
  unfold b_X7_addEffects_135 at h
  refine y_istore hC [some (.ref (cS C 88)), none, some (.int x2), some (.int x3), none, some (.int s0)] dX7_addEffects_135 rfl (Nat.le_of_ble_eq_true rfl) (Nat.le_of_ble_eq_true rfl) rfl ?_
  refine z_aload_n hC dX7_addEffects_137 rfl rfl ?_
  refine z_iload_n hC dX7_addEffects_138 rfl rfl ?_
  refine z_aload_n hC dX7_addEffects_139 rfl rfl ?_
  refine z_getI hC kF_X7_115 sh_88 rfl dX7_addEffects_140 ?_
  refine z_iload hC dX7_addEffects_143 rfl ?_
  refine z_if_eq hC 157 dX7_addEffects_145 (by decide) (fun b1 => ?_) (fun b1 => ?_)
  · rw [if_pos b1] at h
    refine z_iconst (v := 0) hC dX7_addEffects_157 (by decide) ?_
    exact s_X7_addEffects_158 hC hE x2 k12 hk12 x3 s0 0 (u 88 9) x3 u h
  · rw [if_neg b1] at h
    refine z_iconst (v := 1) hC dX7_addEffects_148 (by decide) ?_
    refine z_aload_n hC dX7_addEffects_149 rfl rfl ?_
    refine z_getI hC kF_X7_124 sh_88 rfl dX7_addEffects_150 ?_
    refine z_ishl hC dX7_addEffects_153 ?_
    refine z_goto hC 158 dX7_addEffects_154 (by decide) ?_
    exact s_X7_addEffects_158 hC hE x2 k12 hk12 x3 s0 (1 <<< ((u 88 11) &&& 31)) (u 88 9) x3 u h
set_option maxHeartbeats 4000000 in
set_option maxRecDepth 100000 in
theorem s_X7_addEffects_130 {C : mCtx} (hC : mOK cX7_addEffects RX7 6 5 111 C) {res : Int32 × MU} (hE : mEndV C res.2) (x2 : Int32) (k12 : Int32 → MU → mR) (hk12 : ∀ (x3 : Int32) (u : MU), k12 x3 u = some res → wat C u 12 [some (.ref (cS C 88)), none, some (.int x2), some (.int x3), none, none] []) (x3 : Int32) (u : MU) (h : b_X7_addEffects_130 k12 x2 x3 u = some res) : wat C u 130 [some (.ref (cS C 88)), none, some (.int x2), some (.int x3), none, none] [] := by
  unfold b_X7_addEffects_130 at h
  refine z_iconst (v := 1) hC dX7_addEffects_130 (by decide) ?_
  refine z_goto hC 135 dX7_addEffects_131 (by decide) ?_
  exact s_X7_addEffects_135 hC hE x2 k12 hk12 x3 1 u h
set_option maxHeartbeats 4000000 in
set_option maxRecDepth 100000 in
theorem s_X7_addEffects_12 {C : mCtx} (hC : mOK cX7_addEffects RX7 6 5 111 C) {res : Int32 × MU} (hE : mEndV C res.2) (x2 : Int32) (k12 : Int32 → MU → mR) (hk12 : ∀ (x3 : Int32) (u : MU), k12 x3 u = some res → wat C u 12 [some (.ref (cS C 88)), none, some (.int x2), some (.int x3), none, none] []) (x3 : Int32) (u : MU) (h : b_X7_addEffects_12 k12 x2 x3 u = some res) : wat C u 12 [some (.ref (cS C 88)), none, some (.int x2), some (.int x3), none, none] [] := by
  unfold b_X7_addEffects_12 at h
  refine z_aload_n hC dX7_addEffects_12 rfl rfl ?_
  obtain ⟨r1, u1, c1, h⟩ := mB_some h
  refine z_callI hC kC_X7_isMore kM_X7_153 sh_88 TX7 39 rfl (m_X7_isMore hC.dis u c1) rfl (Nat.le_of_ble_eq_true rfl) (Nat.le_of_ble_eq_true rfl) (Nat.le_of_ble_eq_true rfl) rfl dX7_addEffects_13 ?_
  refine z_if_eq hC 180 dX7_addEffects_16 (by decide) (fun b2 => ?_) (fun b2 => ?_)
  · rw [if_pos b2] at h
    obtain rfl := Option.some.inj h
    exact z_vret hC hE dX7_addEffects_180
  · rw [if_neg b2] at h
    refine z_aload_n hC dX7_addEffects_19 rfl rfl ?_
    refine z_iload_n hC dX7_addEffects_20 rfl rfl ?_
    obtain ⟨r3, u3, c3, h⟩ := mB_some h
    refine z_callI hC kC_X7_statement kM_X7_156 sh_88 TX7 39 rfl (m_X7_statement hC.dis x2 u1 c3) rfl (Nat.le_of_ble_eq_true rfl) (Nat.le_of_ble_eq_true rfl) (Nat.le_of_ble_eq_true rfl) rfl dX7_addEffects_21 ?_
    refine z_if_eq hC 180 dX7_addEffects_24 (by decide) (fun b4 => ?_) (fun b4 => ?_)
    · rw [if_pos b4] at h
      obtain rfl := Option.some.inj h
      exact z_vret hC hE dX7_addEffects_180
    · rw [if_neg b4] at h
      refine z_bipush (v := nI 12) hC dX7_addEffects_27 (by decide) ?_
      refine z_aload_n hC dX7_addEffects_29 rfl rfl ?_
      refine z_getI hC kF_X7_127 sh_88 rfl dX7_addEffects_30 ?_
      refine z_imul hC dX7_addEffects_33 ?_
      refine z_aload_n hC dX7_addEffects_34 rfl rfl ?_
      refine z_getI hC kF_X7_130 sh_88 rfl dX7_addEffects_35 ?_
      refine z_iadd hC dX7_addEffects_38 ?_
      refine y_istore hC [some (.ref (cS C 88)), none, some (.int x2), some (.int x3), some (.int (((nI 12) * (u3 88 12)) + (u3 88 13))), none] dX7_addEffects_39 rfl (Nat.le_of_ble_eq_true rfl) (Nat.le_of_ble_eq_true rfl) rfl ?_
      refine z_aload_n hC dX7_addEffects_41 rfl rfl ?_
      refine z_getI hC kF_X7_133 sh_88 rfl dX7_addEffects_42 ?_
      refine z_bipush (v := nI 99) hC dX7_addEffects_45 (by decide) ?_
      refine z_icmp_ne hC 86 dX7_addEffects_47 (by decide) (fun b5 => ?_) (fun b5 => ?_)
      · rw [if_neg b5] at h
        refine z_aload_n hC dX7_addEffects_86 rfl rfl ?_
        refine z_getI hC kF_X7_133 sh_88 rfl dX7_addEffects_87 ?_
        refine z_bipush (v := nI 63) hC dX7_addEffects_90 (by decide) ?_
        refine z_icmp_ne hC 112 dX7_addEffects_92 (by decide) (fun b6 => ?_) (fun b6 => ?_)
        · rw [if_neg b6] at h
          refine z_aload_n hC dX7_addEffects_112 rfl rfl ?_
          refine z_getI hC kF_X7_133 sh_88 rfl dX7_addEffects_113 ?_
          refine z_bipush (v := nI 61) hC dX7_addEffects_116 (by decide) ?_
          refine z_icmp_eq hC 130 dX7_addEffects_118 (by decide) (fun b7 => ?_) (fun b7 => ?_)
          · rw [if_pos b7] at h
            refine z_mask [true, false, true, true, false, false] ?_
            exact s_X7_addEffects_130 hC hE x2 k12 hk12 x3 u3 h
          · rw [if_neg b7] at h
            refine z_aload_n hC dX7_addEffects_121 rfl rfl ?_
            refine z_getI hC kF_X7_133 sh_88 rfl dX7_addEffects_122 ?_
            refine z_bipush (v := nI 35) hC dX7_addEffects_125 (by decide) ?_
            refine z_icmp_ne hC 134 dX7_addEffects_127 (by decide) (fun b8 => ?_) (fun b8 => ?_)
            · rw [if_neg b8] at h
              refine z_iconst (v := 0) hC dX7_addEffects_134 (by decide) ?_
              refine z_mask [true, false, true, true, false, false] ?_
              exact s_X7_addEffects_135 hC hE x2 k12 hk12 x3 0 u3 h
            · rw [if_pos b8] at h
              refine z_mask [true, false, true, true, false, false] ?_
              exact s_X7_addEffects_130 hC hE x2 k12 hk12 x3 u3 h
        · rw [if_pos b6] at h
          refine z_aload_n hC dX7_addEffects_95 rfl rfl ?_
          refine z_iload_n hC dX7_addEffects_96 rfl rfl ?_
          refine z_iconst (v := 1) hC dX7_addEffects_97 (by decide) ?_
          refine z_aload_n hC dX7_addEffects_98 rfl rfl ?_
          refine z_getI hC kF_X7_124 sh_88 rfl dX7_addEffects_99 ?_
          refine z_ishl hC dX7_addEffects_102 ?_
          refine z_iconst (v := 0) hC dX7_addEffects_103 (by decide) ?_
          refine z_iconst (v := 0) hC dX7_addEffects_104 (by decide) ?_
          refine z_iconst (v := 1) hC dX7_addEffects_105 (by decide) ?_
          obtain ⟨r9, u9, c9, h⟩ := mB_some h
          refine z_callV hC kC_X7_takeIn kM_X7_178 sh_88 TX7 39 rfl (m_X7_takeIn hC.dis x3 (1 <<< ((u3 88 11) &&& 31)) 0 0 1 u3 c9) rfl (Nat.le_of_ble_eq_true rfl) (Nat.le_of_ble_eq_true rfl) (Nat.le_of_ble_eq_true rfl) rfl dX7_addEffects_106 ?_
          refine z_goto hC 177 dX7_addEffects_109 (by decide) ?_
          refine z_mask [true, false, true, true, false, false] ?_
          exact s_X7_addEffects_177 hC hE x2 k12 hk12 x3 u9 h
      · rw [if_pos b5] at h
        refine z_aload_n hC dX7_addEffects_50 rfl rfl ?_
        refine z_iload_n hC dX7_addEffects_51 rfl rfl ?_
        refine z_aload_n hC dX7_addEffects_52 rfl rfl ?_
        refine z_getR hC 94 kF_X7_25 sh_88 rfl dX7_addEffects_53 ?_
        refine z_iload hC dX7_addEffects_56 rfl ?_
        obtain ⟨g10, h⟩ := gd_some h
        refine z_iald hC sh_94 g10 dX7_addEffects_58 ?_
        refine z_aload_n hC dX7_addEffects_59 rfl rfl ?_
        refine z_getR hC 95 kF_X7_28 sh_88 rfl dX7_addEffects_60 ?_
        refine z_iload hC dX7_addEffects_63 rfl ?_
        obtain ⟨g11, h⟩ := gd_some h
        refine z_iald hC sh_95 g11 dX7_addEffects_65 ?_
        refine z_aload_n hC dX7_addEffects_66 rfl rfl ?_
        refine z_getR hC 96 kF_X7_31 sh_88 rfl dX7_addEffects_67 ?_
        refine z_iload hC dX7_addEffects_70 rfl ?_
        obtain ⟨g12, h⟩ := gd_some h
        refine z_iald hC sh_96 g12 dX7_addEffects_72 ?_
        refine z_aload_n hC dX7_addEffects_73 rfl rfl ?_
        refine z_getR hC 97 kF_X7_34 sh_88 rfl dX7_addEffects_74 ?_
        refine z_iload hC dX7_addEffects_77 rfl ?_
        obtain ⟨g13, h⟩ := gd_some h
        refine z_iald hC sh_97 g13 dX7_addEffects_79 ?_
        obtain ⟨r14, u14, c14, h⟩ := mB_some h
        refine z_callV hC kC_X7_takeIn kM_X7_178 sh_88 TX7 39 rfl (m_X7_takeIn hC.dis x3 (u3 94 (((nI 12) * (u3 88 12)) + (u3 88 13)).toNatClampNeg) (u3 95 (((nI 12) * (u3 88 12)) + (u3 88 13)).toNatClampNeg) (u3 96 (((nI 12) * (u3 88 12)) + (u3 88 13)).toNatClampNeg) (u3 97 (((nI 12) * (u3 88 12)) + (u3 88 13)).toNatClampNeg) u3 c14) rfl (Nat.le_of_ble_eq_true rfl) (Nat.le_of_ble_eq_true rfl) (Nat.le_of_ble_eq_true rfl) rfl dX7_addEffects_80 ?_
        refine z_goto hC 177 dX7_addEffects_83 (by decide) ?_
        refine z_mask [true, false, true, true, false, false] ?_
        exact s_X7_addEffects_177 hC hE x2 k12 hk12 x3 u14 h
set_option maxHeartbeats 4000000 in
set_option maxRecDepth 100000 in
theorem t_X7_addEffects_12 {C : mCtx} (hC : mOK cX7_addEffects RX7 6 5 111 C) {res : Int32 × MU} (hE : mEndV C res.2) (x2 : Int32) : ∀ (n : Nat) (x3 : Int32) (u : MU), l_X7_addEffects_12 x2 n x3 u = some res → wat C u 12 [some (.ref (cS C 88)), none, some (.int x2), some (.int x3), none, none] [] := by
  intro n
  induction n with
  | zero => intro x3 u h; exact absurd h (by simp [l_X7_addEffects_12])
  | succ n ih =>
    intro x3 u h
    exact s_X7_addEffects_12 hC hE x2 (fun x3 u => l_X7_addEffects_12 x2 n x3 u) ih x3 u h
set_option maxHeartbeats 4000000 in
set_option maxRecDepth 100000 in
theorem s_X7_addEffects_0 {C : mCtx} (hC : mOK cX7_addEffects RX7 6 5 111 C) {res : Int32 × MU} (hE : mEndV C res.2) (x1 : Int32) (x2 : Int32) (u : MU) (h : f_X7_addEffects x1 x2 u = some res) : wat C u 0 [some (.ref (cS C 88)), some (.int x1), some (.int x2), none, none, none] [] := by
  unfold f_X7_addEffects at h
  refine z_bipush (v := nI 12) hC dX7_addEffects_0 (by decide) ?_
  refine z_iload_n hC dX7_addEffects_2 rfl rfl ?_
  refine z_imul hC dX7_addEffects_3 ?_
  refine z_iload_n hC dX7_addEffects_4 rfl rfl ?_
  refine z_iadd hC dX7_addEffects_5 ?_
  refine y_istore_n hC [some (.ref (cS C 88)), some (.int x1), some (.int x2), some (.int (((nI 12) * x1) + x2)), none, none] dX7_addEffects_6 rfl rfl (Nat.le_of_ble_eq_true rfl) (Nat.le_of_ble_eq_true rfl) rfl ?_
  refine z_aload_n hC dX7_addEffects_7 rfl rfl ?_
  refine z_iload_n hC dX7_addEffects_8 rfl rfl ?_
  obtain ⟨r1, u1, c1, h⟩ := mB_some h
  refine z_callV hC kC_X7_begin kM_X7_149 sh_88 TX7 39 rfl (m_X7_begin hC.dis x1 u c1) rfl (Nat.le_of_ble_eq_true rfl) (Nat.le_of_ble_eq_true rfl) (Nat.le_of_ble_eq_true rfl) rfl dX7_addEffects_9 ?_
  refine z_mask [true, false, true, true, false, false] ?_
  exact t_X7_addEffects_12 hC hE x2 FU (((nI 12) * x1) + x2) u1 h
theorem m_X7_addEffects {l : Launch} {dC : Nat → ClassId} {dI : Nat → Nat → Nat} {dA : Nat → ClassId} {as : Nat → Nat} (hD : mDis as) (x1 : Int32) (x2 : Int32) (u : MU) {r : Int32} {v : MU} (h : f_X7_addEffects x1 x2 u = some (r, v)) : mMV l dC dI dA as yX7_addEffects cX7_addEffects 6 5 111 [.ref (as 88), .int x1, .int x2] u v := mMVof RX7 [some (.ref (as 88)), some (.int x1), some (.int x2), none, none, none] hD (by decide +kernel) rfl (Nat.le_of_ble_eq_true rfl) rfl (fun C e1 e2 e3 e4 e5 hC hE => by subst e5; exact s_X7_addEffects_0 hC (res := (r, v)) hE x1 x2 u h)
set_option maxHeartbeats 4000000 in
set_option maxRecDepth 100000 in
theorem s_X7_findEffects_65 {C : mCtx} (hC : mOK cX7_findEffects RX7 2 7 156 C) {res : Int32 × MU} (hE : mEndV C res.2) (k51 : MU → mR) (hk51 : ∀ (u : MU), k51 u = some res → wat C u 51 [some (.ref (cS C 88)), none] []) (k65 : Int32 → MU → mR) (hk65 : ∀ (x1 : Int32) (u : MU), k65 x1 u = some res → wat C u 65 [some (.ref (cS C 88)), some (.int x1)] []) (x1 : Int32) (u : MU) (h : b_X7_findEffects_65 k51 k65 x1 u = some res) : wat C u 65 [some (.ref (cS C 88)), some (.int x1)] [] := by
  unfold b_X7_findEffects_65 at h
  refine z_iload_n hC dX7_findEffects_65 rfl rfl ?_
  refine z_bipush (v := nI 72) hC dX7_findEffects_66 (by decide) ?_
  refine z_icmp_ge hC 89 dX7_findEffects_68 (by decide) (fun b1 => ?_) (fun b1 => ?_)
  · rw [if_pos b1] at h
    refine z_goto hC 51 dX7_findEffects_89 (by decide) ?_
    refine z_mask [true, false] ?_
    exact hk51 u h
  · rw [if_neg b1] at h
    refine z_aload_n hC dX7_findEffects_71 rfl rfl ?_
    refine z_iload_n hC dX7_findEffects_72 rfl rfl ?_
    refine z_bipush (v := nI 12) hC dX7_findEffects_73 (by decide) ?_
    refine z_idiv hC dX7_findEffects_75 (by decide) ?_
    refine z_iload_n hC dX7_findEffects_76 rfl rfl ?_
    refine z_bipush (v := nI 12) hC dX7_findEffects_77 (by decide) ?_
    refine y_irem hC dX7_findEffects_79 (by decide) ?_
    obtain ⟨r2, u2, c2, h⟩ := mB_some h
    refine z_callV hC kC_X7_addEffects kM_X7_185 sh_88 TX7 39 rfl (m_X7_addEffects hC.dis (x1 / (nI 12)) (irm x1 (nI 12)) u c2) rfl (Nat.le_of_ble_eq_true rfl) (Nat.le_of_ble_eq_true rfl) (Nat.le_of_ble_eq_true rfl) rfl dX7_findEffects_80 ?_
    refine y_iinc hC (x1 + 1) [some (.ref (cS C 88)), some (.int (x1 + 1))] dX7_findEffects_83 rfl rfl rfl (Nat.le_of_ble_eq_true rfl) rfl ?_
    refine z_goto hC 65 dX7_findEffects_86 (by decide) ?_
    exact hk65 (x1 + 1) u2 h
set_option maxHeartbeats 4000000 in
set_option maxRecDepth 100000 in
theorem t_X7_findEffects_65 {C : mCtx} (hC : mOK cX7_findEffects RX7 2 7 156 C) {res : Int32 × MU} (hE : mEndV C res.2) (k51 : MU → mR) (hk51 : ∀ (u : MU), k51 u = some res → wat C u 51 [some (.ref (cS C 88)), none] []) : ∀ (n : Nat) (x1 : Int32) (u : MU), l_X7_findEffects_65 k51 n x1 u = some res → wat C u 65 [some (.ref (cS C 88)), some (.int x1)] [] := by
  intro n
  induction n with
  | zero => intro x1 u h; exact absurd h (by simp [l_X7_findEffects_65])
  | succ n ih =>
    intro x1 u h
    exact s_X7_findEffects_65 hC hE k51 hk51 (fun x1 u => l_X7_findEffects_65 k51 n x1 u) ih x1 u h
set_option maxHeartbeats 4000000 in
set_option maxRecDepth 100000 in
theorem s_X7_findEffects_51 {C : mCtx} (hC : mOK cX7_findEffects RX7 2 7 156 C) {res : Int32 × MU} (hE : mEndV C res.2) (k51 : MU → mR) (hk51 : ∀ (u : MU), k51 u = some res → wat C u 51 [some (.ref (cS C 88)), none] []) (u : MU) (h : b_X7_findEffects_51 k51 u = some res) : wat C u 51 [some (.ref (cS C 88)), none] [] := by
  unfold b_X7_findEffects_51 at h
  refine z_aload_n hC dX7_findEffects_51 rfl rfl ?_
  refine z_getI hC kF_X7_170 sh_88 rfl dX7_findEffects_52 ?_
  refine z_if_eq hC 92 dX7_findEffects_55 (by decide) (fun b1 => ?_) (fun b1 => ?_)
  · rw [if_pos b1] at h
    obtain rfl := Option.some.inj h
    exact z_vret hC hE dX7_findEffects_92
  · rw [if_neg b1] at h
    refine z_aload_n hC dX7_findEffects_58 rfl rfl ?_
    refine z_iconst (v := 0) hC dX7_findEffects_59 (by decide) ?_
    obtain ⟨u2, e2, h⟩ := mS_some h
    refine y_putZ hC rfl kP_X7_170 sh_88 rfl dX7_findEffects_60 e2 ?_
    refine z_iconst (v := 0) hC dX7_findEffects_63 (by decide) ?_
    refine y_istore_n hC [some (.ref (cS C 88)), some (.int 0)] dX7_findEffects_64 rfl rfl (Nat.le_of_ble_eq_true rfl) (Nat.le_of_ble_eq_true rfl) rfl ?_
    exact t_X7_findEffects_65 hC hE k51 hk51 FU 0 u2 h
set_option maxHeartbeats 4000000 in
set_option maxRecDepth 100000 in
theorem t_X7_findEffects_51 {C : mCtx} (hC : mOK cX7_findEffects RX7 2 7 156 C) {res : Int32 × MU} (hE : mEndV C res.2) : ∀ (n : Nat) (u : MU), l_X7_findEffects_51 n u = some res → wat C u 51 [some (.ref (cS C 88)), none] [] := by
  intro n
  induction n with
  | zero => intro u h; exact absurd h (by simp [l_X7_findEffects_51])
  | succ n ih =>
    intro u h
    exact s_X7_findEffects_51 hC hE (fun u => l_X7_findEffects_51 n u) ih u h
set_option maxHeartbeats 4000000 in
set_option maxRecDepth 100000 in
theorem s_X7_findEffects_6 {C : mCtx} (hC : mOK cX7_findEffects RX7 2 7 156 C) {res : Int32 × MU} (hE : mEndV C res.2) (k6 : Int32 → MU → mR) (hk6 : ∀ (x1 : Int32) (u : MU), k6 x1 u = some res → wat C u 6 [some (.ref (cS C 88)), some (.int x1)] []) (x1 : Int32) (u : MU) (h : b_X7_findEffects_6 k6 x1 u = some res) : wat C u 6 [some (.ref (cS C 88)), some (.int x1)] [] := by
  unfold b_X7_findEffects_6 at h
  refine z_iload_n hC dX7_findEffects_6 rfl rfl ?_
  refine z_bipush (v := nI 72) hC dX7_findEffects_7 (by decide) ?_
  refine z_icmp_ge hC 46 dX7_findEffects_9 (by decide) (fun b1 => ?_) (fun b1 => ?_)
  · rw [if_pos b1] at h
    refine z_aload_n hC dX7_findEffects_46 rfl rfl ?_
    refine z_iconst (v := 1) hC dX7_findEffects_47 (by decide) ?_
    obtain ⟨u2, e2, h⟩ := mS_some h
    refine y_putZ hC rfl kP_X7_170 sh_88 rfl dX7_findEffects_48 e2 ?_
    refine z_mask [true, false] ?_
    exact t_X7_findEffects_51 hC hE FU u2 h
  · rw [if_neg b1] at h
    refine z_aload_n hC dX7_findEffects_12 rfl rfl ?_
    refine z_getR hC 94 kF_X7_25 sh_88 rfl dX7_findEffects_13 ?_
    refine z_iload_n hC dX7_findEffects_16 rfl rfl ?_
    refine z_iconst (v := 0) hC dX7_findEffects_17 (by decide) ?_
    obtain ⟨g3, h⟩ := gd_some h
    obtain ⟨u4, e4, h⟩ := mS_some h
    refine y_iast hC sh_94 g3 dX7_findEffects_18 e4 ?_
    refine z_aload_n hC dX7_findEffects_19 rfl rfl ?_
    refine z_getR hC 95 kF_X7_28 sh_88 rfl dX7_findEffects_20 ?_
    refine z_iload_n hC dX7_findEffects_23 rfl rfl ?_
    refine z_iconst (v := 0) hC dX7_findEffects_24 (by decide) ?_
    obtain ⟨g5, h⟩ := gd_some h
    obtain ⟨u6, e6, h⟩ := mS_some h
    refine y_iast hC sh_95 g5 dX7_findEffects_25 e6 ?_
    refine z_aload_n hC dX7_findEffects_26 rfl rfl ?_
    refine z_getR hC 96 kF_X7_31 sh_88 rfl dX7_findEffects_27 ?_
    refine z_iload_n hC dX7_findEffects_30 rfl rfl ?_
    refine z_iconst (v := 0) hC dX7_findEffects_31 (by decide) ?_
    obtain ⟨g7, h⟩ := gd_some h
    obtain ⟨u8, e8, h⟩ := mS_some h
    refine y_iast hC sh_96 g7 dX7_findEffects_32 e8 ?_
    refine z_aload_n hC dX7_findEffects_33 rfl rfl ?_
    refine z_getR hC 97 kF_X7_34 sh_88 rfl dX7_findEffects_34 ?_
    refine z_iload_n hC dX7_findEffects_37 rfl rfl ?_
    refine z_iconst (v := 0) hC dX7_findEffects_38 (by decide) ?_
    obtain ⟨g9, h⟩ := gd_some h
    obtain ⟨u10, e10, h⟩ := mS_some h
    refine y_iast hC sh_97 g9 dX7_findEffects_39 e10 ?_
    refine y_iinc hC (x1 + 1) [some (.ref (cS C 88)), some (.int (x1 + 1))] dX7_findEffects_40 rfl rfl rfl (Nat.le_of_ble_eq_true rfl) rfl ?_
    refine z_goto hC 6 dX7_findEffects_43 (by decide) ?_
    exact hk6 (x1 + 1) u10 h
set_option maxHeartbeats 4000000 in
set_option maxRecDepth 100000 in
theorem t_X7_findEffects_6 {C : mCtx} (hC : mOK cX7_findEffects RX7 2 7 156 C) {res : Int32 × MU} (hE : mEndV C res.2) : ∀ (n : Nat) (x1 : Int32) (u : MU), l_X7_findEffects_6 n x1 u = some res → wat C u 6 [some (.ref (cS C 88)), some (.int x1)] [] := by
  intro n
  induction n with
  | zero => intro x1 u h; exact absurd h (by simp [l_X7_findEffects_6])
  | succ n ih =>
    intro x1 u h
    exact s_X7_findEffects_6 hC hE (fun x1 u => l_X7_findEffects_6 n x1 u) ih x1 u h
set_option maxHeartbeats 4000000 in
set_option maxRecDepth 100000 in
theorem s_X7_findEffects_0 {C : mCtx} (hC : mOK cX7_findEffects RX7 2 7 156 C) {res : Int32 × MU} (hE : mEndV C res.2) (u : MU) (h : f_X7_findEffects u = some res) : wat C u 0 [some (.ref (cS C 88)), none] [] := by
  unfold f_X7_findEffects at h
  refine z_aload_n hC dX7_findEffects_0 rfl rfl ?_
  obtain ⟨r1, u1, c1, h⟩ := mB_some h
  refine z_callV hC kC_X7_findReaches kM_X7_182 sh_88 TX7 39 rfl (m_X7_findReaches hC.dis u c1) rfl (Nat.le_of_ble_eq_true rfl) (Nat.le_of_ble_eq_true rfl) (Nat.le_of_ble_eq_true rfl) rfl dX7_findEffects_1 ?_
  refine z_iconst (v := 0) hC dX7_findEffects_4 (by decide) ?_
  refine y_istore_n hC [some (.ref (cS C 88)), some (.int 0)] dX7_findEffects_5 rfl rfl (Nat.le_of_ble_eq_true rfl) (Nat.le_of_ble_eq_true rfl) rfl ?_
  exact t_X7_findEffects_6 hC hE FU 0 u1 h
theorem m_X7_findEffects {l : Launch} {dC : Nat → ClassId} {dI : Nat → Nat → Nat} {dA : Nat → ClassId} {as : Nat → Nat} (hD : mDis as) (u : MU) {r : Int32} {v : MU} (h : f_X7_findEffects u = some (r, v)) : mMV l dC dI dA as yX7_findEffects cX7_findEffects 2 7 156 [.ref (as 88)] u v := mMVof RX7 [some (.ref (as 88)), none] hD (by decide +kernel) rfl (Nat.le_of_ble_eq_true rfl) rfl (fun C e1 e2 e3 e4 e5 hC hE => by subst e5; exact s_X7_findEffects_0 hC (res := (r, v)) hE u h)
set_option maxHeartbeats 4000000 in
set_option maxRecDepth 100000 in
theorem s_X7_effect_0 {C : mCtx} (hC : mOK cX7_effect RX7 5 8 177 C) {res : Int32 × MU} (hE : mEndI C .int res.1 res.2) (x1 : Int32) (x2 : Int32) (x3 : Int32) (u : MU) (h : f_X7_effect x1 x2 x3 u = some res) : wat C u 0 [some (.ref (cS C 88)), some (.int x1), some (.int x2), some (.int x3), none] [] := by
  unfold f_X7_effect at h
  refine z_iload_n hC dX7_effect_0 rfl rfl ?_
  obtain ⟨r1, u1, c1, h⟩ := mB_some h
  refine z_callSI hC kC_X7_isRoutine kM_X7_87 (m_X7_isRoutine hC.dis x1 u c1) rfl (Nat.le_of_ble_eq_true rfl) (Nat.le_of_ble_eq_true rfl) (Nat.le_of_ble_eq_true rfl) rfl dX7_effect_1 ?_
  refine z_if_ne hC 9 dX7_effect_4 (by decide) (fun b2 => ?_) (fun b2 => ?_)
  · rw [if_neg b2] at h
    refine z_iload_n hC dX7_effect_9 rfl rfl ?_
    obtain ⟨r3, u3, c3, h⟩ := mB_some h
    refine z_callSI hC kC_X7_isGiven kM_X7_189 (m_X7_isGiven hC.dis x2 u1 c3) rfl (Nat.le_of_ble_eq_true rfl) (Nat.le_of_ble_eq_true rfl) (Nat.le_of_ble_eq_true rfl) rfl dX7_effect_10 ?_
    refine z_if_eq hC 28 dX7_effect_13 (by decide) (fun b4 => ?_) (fun b4 => ?_)
    · rw [if_pos b4] at h
      refine z_bipush (v := (-2)) hC dX7_effect_28 (by decide) ?_
      obtain rfl := Option.some.inj h
      exact z_iret hC hE dX7_effect_30
    · rw [if_neg b4] at h
      refine z_iload_n hC dX7_effect_16 rfl rfl ?_
      refine z_i2l hC dX7_effect_17 ?_
      refine z_lconst (v := 0) hC dX7_effect_18 (by decide) ?_
      refine z_ldc2 hC kN_X7_192 dX7_effect_19 ?_
      obtain ⟨r5, u5, c5, h⟩ := mB_some h
      refine z_callSI hC kC_X7_in kM_X7_79 (m_X7_in hC.dis x3.toInt64 0 3 u3 c5) rfl (Nat.le_of_ble_eq_true rfl) (Nat.le_of_ble_eq_true rfl) (Nat.le_of_ble_eq_true rfl) rfl dX7_effect_22 ?_
      refine z_if_ne hC 31 dX7_effect_25 (by decide) (fun b6 => ?_) (fun b6 => ?_)
      · rw [if_neg b6] at h
        refine z_aload_n hC dX7_effect_31 rfl rfl ?_
        obtain ⟨r7, u7, c7, h⟩ := mB_some h
        refine z_callV hC kC_X7_findEffects kM_X7_194 sh_88 TX7 39 rfl (m_X7_findEffects hC.dis u5 c7) rfl (Nat.le_of_ble_eq_true rfl) (Nat.le_of_ble_eq_true rfl) (Nat.le_of_ble_eq_true rfl) rfl dX7_effect_32 ?_
        refine z_aload_n hC dX7_effect_35 rfl rfl ?_
        refine z_iload_n hC dX7_effect_36 rfl rfl ?_
        obtain ⟨r8, u8, c8, h⟩ := mB_some h
        refine z_callI hC kC_X7_isKnown kM_X7_197 sh_88 TX7 39 rfl (m_X7_isKnown hC.dis x1 u7 c8) rfl (Nat.le_of_ble_eq_true rfl) (Nat.le_of_ble_eq_true rfl) (Nat.le_of_ble_eq_true rfl) rfl dX7_effect_37 ?_
        refine z_if_ne hC 46 dX7_effect_40 (by decide) (fun b9 => ?_) (fun b9 => ?_)
        · rw [if_neg b9] at h
          refine z_bipush (v := nI 12) hC dX7_effect_46 (by decide) ?_
          refine z_iload_n hC dX7_effect_48 rfl rfl ?_
          refine z_imul hC dX7_effect_49 ?_
          refine z_iload_n hC dX7_effect_50 rfl rfl ?_
          refine z_iadd hC dX7_effect_51 ?_
          refine y_istore hC [some (.ref (cS C 88)), some (.int x1), some (.int x2), some (.int x3), some (.int (((nI 12) * x1) + x2))] dX7_effect_52 rfl (Nat.le_of_ble_eq_true rfl) (Nat.le_of_ble_eq_true rfl) rfl ?_
          refine z_iload_n hC dX7_effect_54 rfl rfl ?_
          refine z_if_ne hC 68 dX7_effect_55 (by decide) (fun b10 => ?_) (fun b10 => ?_)
          · rw [if_neg b10] at h
            refine z_iload_n hC dX7_effect_68 rfl rfl ?_
            refine z_iconst (v := 1) hC dX7_effect_69 (by decide) ?_
            refine z_icmp_ne hC 83 dX7_effect_70 (by decide) (fun b11 => ?_) (fun b11 => ?_)
            · rw [if_neg b11] at h
              refine z_iload_n hC dX7_effect_83 rfl rfl ?_
              refine z_iconst (v := nI 2) hC dX7_effect_84 (by decide) ?_
              refine z_icmp_ne hC 98 dX7_effect_85 (by decide) (fun b12 => ?_) (fun b12 => ?_)
              · rw [if_neg b12] at h
                refine z_aload_n hC dX7_effect_98 rfl rfl ?_
                refine z_getR hC 97 kF_X7_34 sh_88 rfl dX7_effect_99 ?_
                refine z_iload hC dX7_effect_102 rfl ?_
                obtain ⟨g13, h⟩ := gd_some h
                refine z_iald hC sh_97 g13 dX7_effect_104 ?_
                obtain rfl := Option.some.inj h
                exact z_iret hC hE dX7_effect_105
              · rw [if_pos b12] at h
                refine z_aload_n hC dX7_effect_88 rfl rfl ?_
                refine z_getR hC 96 kF_X7_31 sh_88 rfl dX7_effect_89 ?_
                refine z_iload hC dX7_effect_92 rfl ?_
                obtain ⟨g14, h⟩ := gd_some h
                refine z_iald hC sh_96 g14 dX7_effect_94 ?_
                refine z_goto hC 105 dX7_effect_95 (by decide) ?_
                obtain rfl := Option.some.inj h
                exact z_iret hC hE dX7_effect_105
            · rw [if_pos b11] at h
              refine z_aload_n hC dX7_effect_73 rfl rfl ?_
              refine z_getR hC 95 kF_X7_28 sh_88 rfl dX7_effect_74 ?_
              refine z_iload hC dX7_effect_77 rfl ?_
              obtain ⟨g15, h⟩ := gd_some h
              refine z_iald hC sh_95 g15 dX7_effect_79 ?_
              refine z_goto hC 105 dX7_effect_80 (by decide) ?_
              obtain rfl := Option.some.inj h
              exact z_iret hC hE dX7_effect_105
          · rw [if_pos b10] at h
            refine z_aload_n hC dX7_effect_58 rfl rfl ?_
            refine z_getR hC 94 kF_X7_25 sh_88 rfl dX7_effect_59 ?_
            refine z_iload hC dX7_effect_62 rfl ?_
            obtain ⟨g16, h⟩ := gd_some h
            refine z_iald hC sh_94 g16 dX7_effect_64 ?_
            refine z_goto hC 105 dX7_effect_65 (by decide) ?_
            obtain rfl := Option.some.inj h
            exact z_iret hC hE dX7_effect_105
        · rw [if_pos b9] at h
          refine z_bipush (v := (-5)) hC dX7_effect_43 (by decide) ?_
          obtain rfl := Option.some.inj h
          exact z_iret hC hE dX7_effect_45
      · rw [if_pos b6] at h
        refine z_bipush (v := (-2)) hC dX7_effect_28 (by decide) ?_
        obtain rfl := Option.some.inj h
        exact z_iret hC hE dX7_effect_30
  · rw [if_pos b2] at h
    refine z_iconst (v := (-1)) hC dX7_effect_7 (by decide) ?_
    obtain rfl := Option.some.inj h
    exact z_iret hC hE dX7_effect_8
theorem m_X7_effect {l : Launch} {dC : Nat → ClassId} {dI : Nat → Nat → Nat} {dA : Nat → ClassId} {as : Nat → Nat} (hD : mDis as) (x1 : Int32) (x2 : Int32) (x3 : Int32) (u : MU) {r : Int32} {v : MU} (h : f_X7_effect x1 x2 x3 u = some (r, v)) : mMI l dC dI dA as yX7_effect cX7_effect 5 .int 8 177 [.ref (as 88), .int x1, .int x2, .int x3] u r v := mMIof RX7 [some (.ref (as 88)), some (.int x1), some (.int x2), some (.int x3), none] hD (by decide +kernel) rfl (Nat.le_of_ble_eq_true rfl) rfl (fun C e1 e2 e3 e4 e5 hC hE => by subst e5; exact s_X7_effect_0 hC (res := (r, v)) hE x1 x2 x3 u h)
