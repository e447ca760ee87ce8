set_option maxHeartbeats 4000000 in
set_option maxRecDepth 100000 in
theorem s_X0_goRound_66 {C : mCtx} (hC : mOK cX0_goRound RX0 5 2 49 C) {res : Int32 × MU} (hE : mEndI C .boolean res.1 res.2) (k4 : Int32 → Int32 → MU → mR) (hk4 : ∀ (x2 : Int32) (x3 : Int32) (u : MU), k4 x2 x3 u = some res → wat C u 4 [some (.ref (cS C 2)), some (.ref (cS C 1)), some (.int x2), some (.int x3), none] []) (k31 : Int32 → Int32 → Int32 → MU → mR) (hk31 : ∀ (x2 : Int32) (x3 : Int32) (x4 : Int32) (u : MU), k31 x2 x3 x4 u = some res → wat C u 31 [some (.ref (cS C 2)), some (.ref (cS C 1)), some (.int x2), some (.int x3), some (.int x4)] []) (x3 : Int32) (x4 : Int32) (s0 : Int32) (u : MU) (h : b_X0_goRound_66 k4 k31 x3 x4 s0 u = some res) : wat C u 66 [some (.ref (cS C 2)), some (.ref (cS C 1)), none, some (.int x3), some (.int x4)] [(.int s0)] := by
  unfold b_X0_goRound_66 at h
  refine y_istore_n hC [some (.ref (cS C 2)), some (.ref (cS C 1)), some (.int s0), some (.int x3), some (.int x4)] dX0_goRound_66 rfl rfl (Nat.le_of_ble_eq_true rfl) (Nat.le_of_ble_eq_true rfl) rfl ?_
  refine y_iinc hC (x4 + 1) [some (.ref (cS C 2)), some (.ref (cS C 1)), some (.int s0), some (.int x3), some (.int (x4 + 1))] dX0_goRound_67 rfl rfl rfl (Nat.le_of_ble_eq_true rfl) rfl ?_
  refine z_goto hC 31 dX0_goRound_70 (by decide) ?_
  exact hk31 s0 x3 (x4 + 1) u h
set_option maxHeartbeats 4000000 in
set_option maxRecDepth 100000 in
theorem s_X0_goRound_61 {C : mCtx} (hC : mOK cX0_goRound RX0 5 2 49 C) {res : Int32 × MU} (hE : mEndI C .boolean res.1 res.2) (k4 : Int32 → Int32 → MU → mR) (hk4 : ∀ (x2 : Int32) (x3 : Int32) (u : MU), k4 x2 x3 u = some res → wat C u 4 [some (.ref (cS C 2)), some (.ref (cS C 1)), some (.int x2), some (.int x3), none] []) (k31 : Int32 → Int32 → Int32 → MU → mR) (hk31 : ∀ (x2 : Int32) (x3 : Int32) (x4 : Int32) (u : MU), k31 x2 x3 x4 u = some res → wat C u 31 [some (.ref (cS C 2)), some (.ref (cS C 1)), some (.int x2), some (.int x3), some (.int x4)] []) (x3 : Int32) (x4 : Int32) (u : MU) (h : b_X0_goRound_61 k4 k31 x3 x4 u = some res) : wat C u 61 [some (.ref (cS C 2)), some (.ref (cS C 1)), none, some (.int x3), some (.int x4)] [] := by
  unfold b_X0_goRound_61 at h
  refine z_iconst (v := 1) hC dX0_goRound_61 (by decide) ?_
  refine z_goto hC 66 dX0_goRound_62 (by decide) ?_
  exact s_X0_goRound_66 hC hE k4 hk4 k31 hk31 x3 x4 1 u h
set_option maxHeartbeats 4000000 in
set_option maxRecDepth 100000 in
theorem s_X0_goRound_73 {C : mCtx} (hC : mOK cX0_goRound RX0 5 2 49 C) {res : Int32 × MU} (hE : mEndI C .boolean res.1 res.2) (k4 : Int32 → Int32 → MU → mR) (hk4 : ∀ (x2 : Int32) (x3 : Int32) (u : MU), k4 x2 x3 u = some res → wat C u 4 [some (.ref (cS C 2)), some (.ref (cS C 1)), some (.int x2), some (.int x3), none] []) (x2 : Int32) (x3 : Int32) (u : MU) (h : b_X0_goRound_73 k4 x2 x3 u = some res) : wat C u 73 [some (.ref (cS C 2)), some (.ref (cS C 1)), some (.int x2), some (.int x3), none] [] := by
  unfold b_X0_goRound_73 at h
  refine y_iinc hC (x3 + 1) [some (.ref (cS C 2)), some (.ref (cS C 1)), some (.int x2), some (.int (x3 + 1)), none] dX0_goRound_73 rfl rfl rfl (Nat.le_of_ble_eq_true rfl) rfl ?_
  refine z_goto hC 4 dX0_goRound_76 (by decide) ?_
  exact hk4 x2 (x3 + 1) u h
set_option maxHeartbeats 4000000 in
set_option maxRecDepth 100000 in
theorem s_X0_goRound_31 {C : mCtx} (hC : mOK cX0_goRound RX0 5 2 49 C) {res : Int32 × MU} (hE : mEndI C .boolean res.1 res.2) (k4 : Int32 → Int32 → MU → mR) (hk4 : ∀ (x2 : Int32) (x3 : Int32) (u : MU), k4 x2 x3 u = some res → wat C u 4 [some (.ref (cS C 2)), some (.ref (cS C 1)), some (.int x2), some (.int x3), none] []) (k31 : Int32 → Int32 → Int32 → MU → mR) (hk31 : ∀ (x2 : Int32) (x3 : Int32) (x4 : Int32) (u : MU), k31 x2 x3 x4 u = some res → wat C u 31 [some (.ref (cS C 2)), some (.ref (cS C 1)), some (.int x2), some (.int x3), some (.int x4)] []) (x2 : Int32) (x3 : Int32) (x4 : Int32) (u : MU) (h : b_X0_goRound_31 k4 k31 x2 x3 x4 u = some res) : wat C u 31 [some (.ref (cS C 2)), some (.ref (cS C 1)), some (.int x2), some (.int x3), some (.int x4)] [] := by
  unfold b_X0_goRound_31 at h
  refine z_iload hC dX0_goRound_31 rfl ?_
  refine z_bipush (v := nI 12) hC dX0_goRound_33 (by decide) ?_
  refine z_icmp_ge hC 73 dX0_goRound_35 (by decide) (fun b1 => ?_) (fun b1 => ?_)
  · rw [if_pos b1] at h
    refine z_mask [true, true, true, true, false] ?_
    exact s_X0_goRound_73 hC hE k4 hk4 x2 x3 u h
  · rw [if_neg b1] at h
    refine z_aload_n hC dX0_goRound_38 rfl rfl ?_
    refine z_aload_n hC dX0_goRound_39 rfl rfl ?_
    refine z_iload_n hC dX0_goRound_40 rfl rfl ?_
    obtain ⟨g2, h⟩ := gd_some h
    refine z_aald hC (rtn x3) sh_1 (fun _ => rfl) g2 (rtn_at g2) dX0_goRound_41 ?_
    refine z_iload_n hC dX0_goRound_42 rfl rfl ?_
    refine z_bipush (v := nI 12) hC dX0_goRound_43 (by decide) ?_
    refine z_imul hC dX0_goRound_45 ?_
    refine z_iload hC dX0_goRound_46 rfl ?_
    refine z_iadd hC dX0_goRound_48 ?_
    refine z_iload hC dX0_goRound_49 rfl ?_
    obtain ⟨r3, u3, c3, h⟩ := mB_some h
    refine z_callI hC kC_X0_takeFromCallees kM_X0_95 sh_2 TX0 6 rfl (m_X0_takeFromCallees hC.dis (rtn x3) ((rtn_ok g2)) ((x3 * (nI 12)) + x4) x4 u c3) rfl (Nat.le_of_ble_eq_true rfl) (Nat.le_of_ble_eq_true rfl) (Nat.le_of_ble_eq_true rfl) rfl dX0_goRound_51 ?_
    refine z_if_ne hC 61 dX0_goRound_54 (by decide) (fun b4 => ?_) (fun b4 => ?_)
    · rw [if_neg b4] at h
      refine z_mask [true, true, false, true, true] ?_
      exact s_X0_goRound_61 hC hE k4 hk4 k31 hk31 x3 x4 u3 h
    · rw [if_pos b4] at h
      refine z_iload_n hC dX0_goRound_57 rfl rfl ?_
      refine z_if_eq hC 65 dX0_goRound_58 (by decide) (fun b5 => ?_) (fun b5 => ?_)
      · rw [if_pos b5] at h
        refine z_iconst (v := 0) hC dX0_goRound_65 (by decide) ?_
        refine z_mask [true, true, false, true, true] ?_
        exact s_X0_goRound_66 hC hE k4 hk4 k31 hk31 x3 x4 0 u3 h
      · rw [if_neg b5] at h
        refine z_mask [true, true, false, true, true] ?_
        exact s_X0_goRound_61 hC hE k4 hk4 k31 hk31 x3 x4 u3 h
set_option maxHeartbeats 4000000 in
set_option maxRecDepth 100000 in
theorem t_X0_goRound_31 {C : mCtx} (hC : mOK cX0_goRound RX0 5 2 49 C) {res : Int32 × MU} (hE : mEndI C .boolean res.1 res.2) (k4 : Int32 → Int32 → MU → mR) (hk4 : ∀ (x2 : Int32) (x3 : Int32) (u : MU), k4 x2 x3 u = some res → wat C u 4 [some (.ref (cS C 2)), some (.ref (cS C 1)), some (.int x2), some (.int x3), none] []) : ∀ (n : Nat) (x2 : Int32) (x3 : Int32) (x4 : Int32) (u : MU), l_X0_goRound_31 k4 n x2 x3 x4 u = some res → wat C u 31 [some (.ref (cS C 2)), some (.ref (cS C 1)), some (.int x2), some (.int x3), some (.int x4)] [] := by
  intro n
  induction n with
  | zero => intro x2 x3 x4 u h; exact absurd h (by simp [l_X0_goRound_31])
  | succ n ih =>
    intro x2 x3 x4 u h
    exact s_X0_goRound_31 hC hE k4 hk4 (fun x2 x3 x4 u => l_X0_goRound_31 k4 n x2 x3 x4 u) ih x2 x3 x4 u h
set_option maxHeartbeats 4000000 in
set_option maxRecDepth 100000 in
theorem s_X0_goRound_4 {C : mCtx} (hC : mOK cX0_goRound RX0 5 2 49 C) {res : Int32 × MU} (hE : mEndI C .boolean res.1 res.2) (k4 : Int32 → Int32 → MU → mR) (hk4 : ∀ (x2 : Int32) (x3 : Int32) (u : MU), k4 x2 x3 u = some res → wat C u 4 [some (.ref (cS C 2)), some (.ref (cS C 1)), some (.int x2), some (.int x3), none] []) (x2 : Int32) (x3 : Int32) (u : MU) (h : b_X0_goRound_4 k4 x2 x3 u = some res) : wat C u 4 [some (.ref (cS C 2)), some (.ref (cS C 1)), some (.int x2), some (.int x3), none] [] := by
  unfold b_X0_goRound_4 at h
  refine z_iload_n hC dX0_goRound_4 rfl rfl ?_
  refine z_bipush (v := nI 6) hC dX0_goRound_5 (by decide) ?_
  refine z_icmp_ge hC 79 dX0_goRound_7 (by decide) (fun b1 => ?_) (fun b1 => ?_)
  · rw [if_pos b1] at h
    refine z_iload_n hC dX0_goRound_79 rfl rfl ?_
    obtain ⟨g2, h⟩ := gd_some h
    obtain rfl := Option.some.inj h
    exact z_zret hC hE g2 dX0_goRound_80
  · rw [if_neg b1] at h
    refine z_aload_n hC dX0_goRound_10 rfl rfl ?_
    refine z_getR hC 7 kF_X0_24 sh_2 rfl dX0_goRound_11 ?_
    refine z_iload_n hC dX0_goRound_14 rfl rfl ?_
    obtain ⟨g3, h⟩ := gd_some h
    refine z_zald hC sh_7 g3 dX0_goRound_15 ?_
    refine z_if_eq hC 73 dX0_goRound_16 (by decide) (fun b4 => ?_) (fun b4 => ?_)
    · rw [if_pos b4] at h
      exact s_X0_goRound_73 hC hE k4 hk4 x2 x3 u h
    · rw [if_neg b4] at h
      refine z_aload_n hC dX0_goRound_19 rfl rfl ?_
      refine z_iload_n hC dX0_goRound_20 rfl rfl ?_
      obtain ⟨g5, h⟩ := gd_some h
      refine z_aald hC (rtn x3) sh_1 (fun _ => rfl) g5 (rtn_at g5) dX0_goRound_21 ?_
      obtain ⟨r6, u6, c6, h⟩ := mB_some h
      refine z_callI hC kC_X5_calleeBits kM_X0_65 (rtn_ok g5).1 TX5 12 rfl (m_X5_calleeBits hC.dis (rtn x3) ((rtn_ok g5)) u c6) rfl (Nat.le_of_ble_eq_true rfl) (Nat.le_of_ble_eq_true rfl) (Nat.le_of_ble_eq_true rfl) rfl dX0_goRound_22 ?_
      refine z_if_eq hC 73 dX0_goRound_25 (by decide) (fun b7 => ?_) (fun b7 => ?_)
      · rw [if_pos b7] at h
        exact s_X0_goRound_73 hC hE k4 hk4 x2 x3 u6 h
      · rw [if_neg b7] at h
        refine z_iconst (v := 0) hC dX0_goRound_28 (by decide) ?_
        refine y_istore hC [some (.ref (cS C 2)), some (.ref (cS C 1)), some (.int x2), some (.int x3), some (.int 0)] dX0_goRound_29 rfl (Nat.le_of_ble_eq_true rfl) (Nat.le_of_ble_eq_true rfl) rfl ?_
        exact t_X0_goRound_31 hC hE k4 hk4 FU x2 x3 0 u6 h
set_option maxHeartbeats 4000000 in
set_option maxRecDepth 100000 in
theorem t_X0_goRound_4 {C : mCtx} (hC : mOK cX0_goRound RX0 5 2 49 C) {res : Int32 × MU} (hE : mEndI C .boolean res.1 res.2) : ∀ (n : Nat) (x2 : Int32) (x3 : Int32) (u : MU), l_X0_goRound_4 n x2 x3 u = some res → wat C u 4 [some (.ref (cS C 2)), some (.ref (cS C 1)), some (.int x2), some (.int x3), none] [] := by
  intro n
  induction n with
  | zero => intro x2 x3 u h; exact absurd h (by simp [l_X0_goRound_4])
  | succ n ih =>
    intro x2 x3 u h
    exact s_X0_goRound_4 hC hE (fun x2 x3 u => l_X0_goRound_4 n x2 x3 u) ih x2 x3 u h
set_option maxHeartbeats 4000000 in
set_option maxRecDepth 100000 in
theorem s_X0_goRound_0 {C : mCtx} (hC : mOK cX0_goRound RX0 5 2 49 C) {res : Int32 × MU} (hE : mEndI C .boolean res.1 res.2) (u : MU) (h : f_X0_goRound u = some res) : wat C u 0 [some (.ref (cS C 2)), some (.ref (cS C 1)), none, none, none] [] := by
  unfold f_X0_goRound at h
  refine z_iconst (v := 0) hC dX0_goRound_0 (by decide) ?_
  refine y_istore_n hC [some (.ref (cS C 2)), some (.ref (cS C 1)), some (.int 0), none, none] dX0_goRound_1 rfl rfl (Nat.le_of_ble_eq_true rfl) (Nat.le_of_ble_eq_true rfl) rfl ?_
  refine z_iconst (v := 0) hC dX0_goRound_2 (by decide) ?_
  refine y_istore_n hC [some (.ref (cS C 2)), some (.ref (cS C 1)), some (.int 0), some (.int 0), none] dX0_goRound_3 rfl rfl (Nat.le_of_ble_eq_true rfl) (Nat.le_of_ble_eq_true rfl) rfl ?_
  exact t_X0_goRound_4 hC hE FU 0 0 u h
theorem m_X0_goRound {l : Launch} {dC : Nat → ClassId} {dI : Nat → Nat → Nat} {dA : Nat → ClassId} {as : Nat → Nat} (hD : mDis as) (u : MU) {r : Int32} {v : MU} (h : f_X0_goRound u = some (r, v)) : mMI l dC dI dA as yX0_goRound cX0_goRound 5 .boolean 2 49 [.ref (as 2), .ref (as 1)] u r v := mMIof RX0 [some (.ref (as 2)), some (.ref (as 1)), none, none, none] hD (by decide +kernel) rfl (Nat.le_of_ble_eq_true rfl) rfl (fun C e1 e2 e3 e4 e5 hC hE => by subst e5; exact s_X0_goRound_0 hC (res := (r, v)) hE u h)
set_option maxHeartbeats 4000000 in
set_option maxRecDepth 100000 in
theorem s_X0_find_23 {C : mCtx} (hC : mOK cX0_find RX0 4 3 73 C) {res : Int32 × MU} (hE : mEndV C res.2) (k15 : Int32 → MU → mR) (hk15 : ∀ (x2 : Int32) (u : MU), k15 x2 u = some res → wat C u 15 [some (.ref (cS C 2)), some (.ref (cS C 1)), some (.int x2), none] []) (k23 : Int32 → Int32 → MU → mR) (hk23 : ∀ (x2 : Int32) (x3 : Int32) (u : MU), k23 x2 x3 u = some res → wat C u 23 [some (.ref (cS C 2)), some (.ref (cS C 1)), some (.int x2), some (.int x3)] []) (x2 : Int32) (x3 : Int32) (u : MU) (h : b_X0_find_23 k15 k23 x2 x3 u = some res) : wat C u 23 [some (.ref (cS C 2)), some (.ref (cS C 1)), some (.int x2), some (.int x3)] [] := by
  unfold b_X0_find_23 at h
  refine z_iload_n hC dX0_find_23 rfl rfl ?_
  refine z_bipush (v := nI 12) hC dX0_find_24 (by decide) ?_
  refine z_icmp_ge hC 44 dX0_find_26 (by decide) (fun b1 => ?_) (fun b1 => ?_)
  · rw [if_pos b1] at h
    refine y_iinc hC (x2 + 1) [some (.ref (cS C 2)), some (.ref (cS C 1)), some (.int (x2 + 1)), some (.int x3)] dX0_find_44 rfl rfl rfl (Nat.le_of_ble_eq_true rfl) rfl ?_
    refine z_goto hC 15 dX0_find_47 (by decide) ?_
    refine z_mask [true, true, true, false] ?_
    exact hk15 (x2 + 1) u h
  · rw [if_neg b1] at h
    refine z_aload_n hC dX0_find_29 rfl rfl ?_
    refine z_aload_n hC dX0_find_30 rfl rfl ?_
    refine z_iload_n hC dX0_find_31 rfl rfl ?_
    obtain ⟨g2, h⟩ := gd_some h
    refine z_aald hC (rtn x2) sh_1 (fun _ => rfl) g2 (rtn_at g2) dX0_find_32 ?_
    refine z_iload_n hC dX0_find_33 rfl rfl ?_
    refine z_iload_n hC dX0_find_34 rfl rfl ?_
    obtain ⟨r3, u3, c3, h⟩ := mB_some h
    refine z_callV hC kC_X0_startWithOwn kM_X0_36 sh_2 TX0 6 rfl (m_X0_startWithOwn hC.dis (rtn x2) ((rtn_ok g2)) x2 x3 u c3) rfl (Nat.le_of_ble_eq_true rfl) (Nat.le_of_ble_eq_true rfl) (Nat.le_of_ble_eq_true rfl) rfl dX0_find_35 ?_
    refine y_iinc hC (x3 + 1) [some (.ref (cS C 2)), some (.ref (cS C 1)), some (.int x2), some (.int (x3 + 1))] dX0_find_38 rfl rfl rfl (Nat.le_of_ble_eq_true rfl) rfl ?_
    refine z_goto hC 23 dX0_find_41 (by decide) ?_
    exact hk23 x2 (x3 + 1) u3 h
set_option maxHeartbeats 4000000 in
set_option maxRecDepth 100000 in
theorem t_X0_find_23 {C : mCtx} (hC : mOK cX0_find RX0 4 3 73 C) {res : Int32 × MU} (hE : mEndV C res.2) (k15 : Int32 → MU → mR) (hk15 : ∀ (x2 : Int32) (u : MU), k15 x2 u = some res → wat C u 15 [some (.ref (cS C 2)), some (.ref (cS C 1)), some (.int x2), none] []) : ∀ (n : Nat) (x2 : Int32) (x3 : Int32) (u : MU), l_X0_find_23 k15 n x2 x3 u = some res → wat C u 23 [some (.ref (cS C 2)), some (.ref (cS C 1)), some (.int x2), some (.int x3)] [] := by
  intro n
  induction n with
  | zero => intro x2 x3 u h; exact absurd h (by simp [l_X0_find_23])
  | succ n ih =>
    intro x2 x3 u h
    exact s_X0_find_23 hC hE k15 hk15 (fun x2 x3 u => l_X0_find_23 k15 n x2 x3 u) ih x2 x3 u h
set_option maxHeartbeats 4000000 in
set_option maxRecDepth 100000 in
theorem s_X0_find_77 {C : mCtx} (hC : mOK cX0_find RX0 4 3 73 C) {res : Int32 × MU} (hE : mEndV C res.2) (u : MU) (h : b_X0_find_77 u = some res) : wat C u 77 [some (.ref (cS C 2)), none, none, none] [] := by
  unfold b_X0_find_77 at h
  refine z_aload_n hC dX0_find_77 rfl rfl ?_
  refine z_iconst (v := 1) hC dX0_find_78 (by decide) ?_
  obtain ⟨u1, e1, h⟩ := mS_some h
  refine y_putZ hC rfl kP_X0_28 sh_2 rfl dX0_find_79 e1 ?_
  obtain rfl := Option.some.inj h
  exact z_vret hC hE dX0_find_82
set_option maxHeartbeats 4000000 in
set_option maxRecDepth 100000 in
theorem s_X0_find_54 {C : mCtx} (hC : mOK cX0_find RX0 4 3 73 C) {res : Int32 × MU} (hE : mEndV C res.2) (k54 : Int32 → Int32 → MU → mR) (hk54 : ∀ (x2 : Int32) (x3 : Int32) (u : MU), k54 x2 x3 u = some res → wat C u 54 [some (.ref (cS C 2)), some (.ref (cS C 1)), some (.int x2), some (.int x3)] []) (x2 : Int32) (x3 : Int32) (u : MU) (h : b_X0_find_54 k54 x2 x3 u = some res) : wat C u 54 [some (.ref (cS C 2)), some (.ref (cS C 1)), some (.int x2), some (.int x3)] [] := by
  unfold b_X0_find_54 at h
  refine z_iload_n hC dX0_find_54 rfl rfl ?_
  refine z_sipush (v := nI 3961) hC dX0_find_55 (by decide) ?_
  refine z_icmp_ge hC 77 dX0_find_58 (by decide) (fun b1 => ?_) (fun b1 => ?_)
  · rw [if_pos b1] at h
    refine z_mask [true, false, false, false] ?_
    exact s_X0_find_77 hC hE u h
  · rw [if_neg b1] at h
    refine z_iload_n hC dX0_find_61 rfl rfl ?_
    refine z_if_eq hC 77 dX0_find_62 (by decide) (fun b2 => ?_) (fun b2 => ?_)
    · rw [if_pos b2] at h
      refine z_mask [true, false, false, false] ?_
      exact s_X0_find_77 hC hE u h
    · rw [if_neg b2] at h
      refine z_aload_n hC dX0_find_65 rfl rfl ?_
      refine z_aload_n hC dX0_find_66 rfl rfl ?_
      obtain ⟨r3, u3, c3, h⟩ := mB_some h
      refine z_callI hC kC_X0_goRound kM_X0_40 sh_2 TX0 6 rfl (m_X0_goRound hC.dis u c3) rfl (Nat.le_of_ble_eq_true rfl) (Nat.le_of_ble_eq_true rfl) (Nat.le_of_ble_eq_true rfl) rfl dX0_find_67 ?_
      refine y_istore_n hC [some (.ref (cS C 2)), some (.ref (cS C 1)), some (.int r3), some (.int x3)] dX0_find_70 rfl rfl (Nat.le_of_ble_eq_true rfl) (Nat.le_of_ble_eq_true rfl) rfl ?_
      refine y_iinc hC (x3 + 1) [some (.ref (cS C 2)), some (.ref (cS C 1)), some (.int r3), some (.int (x3 + 1))] dX0_find_71 rfl rfl rfl (Nat.le_of_ble_eq_true rfl) rfl ?_
      refine z_goto hC 54 dX0_find_74 (by decide) ?_
      exact hk54 r3 (x3 + 1) u3 h
set_option maxHeartbeats 4000000 in
set_option maxRecDepth 100000 in
theorem t_X0_find_54 {C : mCtx} (hC : mOK cX0_find RX0 4 3 73 C) {res : Int32 × MU} (hE : mEndV C res.2) : ∀ (n : Nat) (x2 : Int32) (x3 : Int32) (u : MU), l_X0_find_54 n x2 x3 u = some res → wat C u 54 [some (.ref (cS C 2)), some (.ref (cS C 1)), some (.int x2), some (.int x3)] [] := by
  intro n
  induction n with
  | zero => intro x2 x3 u h; exact absurd h (by simp [l_X0_find_54])
  | succ n ih =>
    intro x2 x3 u h
    exact s_X0_find_54 hC hE (fun x2 x3 u => l_X0_find_54 n x2 x3 u) ih x2 x3 u h
set_option maxHeartbeats 4000000 in
set_option maxRecDepth 100000 in
theorem s_X0_find_15 {C : mCtx} (hC : mOK cX0_find RX0 4 3 73 C) {res : Int32 × MU} (hE : mEndV C res.2) (k15 : Int32 → MU → mR) (hk15 : ∀ (x2 : Int32) (u : MU), k15 x2 u = some res → wat C u 15 [some (.ref (cS C 2)), some (.ref (cS C 1)), some (.int x2), none] []) (x2 : Int32) (u : MU) (h : b_X0_find_15 k15 x2 u = some res) : wat C u 15 [some (.ref (cS C 2)), some (.ref (cS C 1)), some (.int x2), none] [] := by
  unfold b_X0_find_15 at h
  refine z_iload_n hC dX0_find_15 rfl rfl ?_
  refine z_bipush (v := nI 6) hC dX0_find_16 (by decide) ?_
  refine z_icmp_ge hC 50 dX0_find_18 (by decide) (fun b1 => ?_) (fun b1 => ?_)
  · rw [if_pos b1] at h
    refine z_iconst (v := 1) hC dX0_find_50 (by decide) ?_
    refine y_istore_n hC [some (.ref (cS C 2)), some (.ref (cS C 1)), some (.int 1), none] dX0_find_51 rfl rfl (Nat.le_of_ble_eq_true rfl) (Nat.le_of_ble_eq_true rfl) rfl ?_
    refine z_iconst (v := 0) hC dX0_find_52 (by decide) ?_
    refine y_istore_n hC [some (.ref (cS C 2)), some (.ref (cS C 1)), some (.int 1), some (.int 0)] dX0_find_53 rfl rfl (Nat.le_of_ble_eq_true rfl) (Nat.le_of_ble_eq_true rfl) rfl ?_
    exact t_X0_find_54 hC hE FU 1 0 u h
  · rw [if_neg b1] at h
    refine z_iconst (v := 0) hC dX0_find_21 (by decide) ?_
    refine y_istore_n hC [some (.ref (cS C 2)), some (.ref (cS C 1)), some (.int x2), some (.int 0)] dX0_find_22 rfl rfl (Nat.le_of_ble_eq_true rfl) (Nat.le_of_ble_eq_true rfl) rfl ?_
    exact t_X0_find_23 hC hE k15 hk15 FU x2 0 u h
set_option maxHeartbeats 4000000 in
set_option maxRecDepth 100000 in
theorem t_X0_find_15 {C : mCtx} (hC : mOK cX0_find RX0 4 3 73 C) {res : Int32 × MU} (hE : mEndV C res.2) : ∀ (n : Nat) (x2 : Int32) (u : MU), l_X0_find_15 n x2 u = some res → wat C u 15 [some (.ref (cS C 2)), some (.ref (cS C 1)), some (.int x2), none] [] := by
  intro n
  induction n with
  | zero => intro x2 u h; exact absurd h (by simp [l_X0_find_15])
  | succ n ih =>
    intro x2 u h
    exact s_X0_find_15 hC hE (fun x2 u => l_X0_find_15 n x2 u) ih x2 u h
set_option maxHeartbeats 4000000 in
set_option maxRecDepth 100000 in
theorem s_X0_find_0 {C : mCtx} (hC : mOK cX0_find RX0 4 3 73 C) {res : Int32 × MU} (hE : mEndV C res.2) (u : MU) (h : f_X0_find u = some res) : wat C u 0 [some (.ref (cS C 2)), some (.ref (cS C 1)), none, none] [] := by
  unfold f_X0_find at h
  refine z_aload_n hC dX0_find_0 rfl rfl ?_
  refine z_getI hC kF_X0_28 sh_2 rfl dX0_find_1 ?_
  refine z_if_eq hC 8 dX0_find_4 (by decide) (fun b1 => ?_) (fun b1 => ?_)
  · rw [if_pos b1] at h
    refine z_aload_n hC dX0_find_8 rfl rfl ?_
    refine z_aload_n hC dX0_find_9 rfl rfl ?_
    obtain ⟨r2, u2, c2, h⟩ := mB_some h
    refine z_callV hC kC_X0_findKnown kM_X0_32 sh_2 TX0 6 rfl (m_X0_findKnown hC.dis u c2) rfl (Nat.le_of_ble_eq_true rfl) (Nat.le_of_ble_eq_true rfl) (Nat.le_of_ble_eq_true rfl) rfl dX0_find_10 ?_
    refine z_iconst (v := 0) hC dX0_find_13 (by decide) ?_
    refine y_istore_n hC [some (.ref (cS C 2)), some (.ref (cS C 1)), some (.int 0), none] dX0_find_14 rfl rfl (Nat.le_of_ble_eq_true rfl) (Nat.le_of_ble_eq_true rfl) rfl ?_
    exact t_X0_find_15 hC hE FU 0 u2 h
  · rw [if_neg b1] at h
    obtain rfl := Option.some.inj h
    exact z_vret hC hE dX0_find_7
theorem m_X0_find {l : Launch} {dC : Nat → ClassId} {dI : Nat → Nat → Nat} {dA : Nat → ClassId} {as : Nat → Nat} (hD : mDis as) (u : MU) {r : Int32} {v : MU} (h : f_X0_find u = some (r, v)) : mMV l dC dI dA as yX0_find cX0_find 4 3 73 [.ref (as 2), .ref (as 1)] u v := mMVof RX0 [some (.ref (as 2)), some (.ref (as 1)), none, none] hD (by decide +kernel) rfl (Nat.le_of_ble_eq_true rfl) rfl (fun C e1 e2 e3 e4 e5 hC hE => by subst e5; exact s_X0_find_0 hC (res := (r, v)) hE u h)
set_option maxHeartbeats 4000000 in
set_option maxRecDepth 100000 in
theorem s_X0_knowsAll_2 {C : mCtx} (hC : mOK cX0_knowsAll RX0 3 0 0 C) {res : Int32 × MU} (hE : mEndI C .boolean res.1 res.2) (q1 : Nat) (hq1 : okX4 q1) (k2 : Int32 → MU → mR) (hk2 : ∀ (x2 : Int32) (u : MU), k2 x2 u = some res → wat C u 2 [some (.ref (cS C 2)), some (.ref (cS C q1)), some (.int x2)] []) (x2 : Int32) (u : MU) (h : b_X0_knowsAll_2 k2 q1 x2 u = some res) : wat C u 2 [some (.ref (cS C 2)), some (.ref (cS C q1)), some (.int x2)] [] := by
  unfold b_X0_knowsAll_2 at h
  refine z_iload_n hC dX0_knowsAll_2 rfl rfl ?_
  refine z_aload_n hC dX0_knowsAll_3 rfl rfl ?_
  refine z_getI hC kF_X0_44 hq1.1 rfl dX0_knowsAll_4 ?_
  refine z_icmp_ge hC 32 dX0_knowsAll_7 (by decide) (fun b1 => ?_) (fun b1 => ?_)
  · rw [if_pos b1] at h
    refine z_iconst (v := 1) hC dX0_knowsAll_32 (by decide) ?_
    obtain rfl := Option.some.inj h
    exact z_zret hC hE rfl dX0_knowsAll_33
  · rw [if_neg b1] at h
    refine z_aload_n hC dX0_knowsAll_10 rfl rfl ?_
    refine z_getR hC 7 kF_X0_24 sh_2 rfl dX0_knowsAll_11 ?_
    refine z_aload_n hC dX0_knowsAll_14 rfl rfl ?_
    refine z_getR hC (q1 + 1) kF_X0_50 hq1.1 rfl dX0_knowsAll_15 ?_
    refine z_iload_n hC dX0_knowsAll_18 rfl rfl ?_
    obtain ⟨g2, h⟩ := gd_some h
    refine z_iald hC hq1.2.1 g2 dX0_knowsAll_19 ?_
    obtain ⟨g3, h⟩ := gd_some h
    refine z_zald hC sh_7 g3 dX0_knowsAll_20 ?_
    refine z_if_ne hC 26 dX0_knowsAll_21 (by decide) (fun b4 => ?_) (fun b4 => ?_)
    · rw [if_neg b4] at h
      refine y_iinc hC (x2 + 1) [some (.ref (cS C 2)), some (.ref (cS C q1)), some (.int (x2 + 1))] dX0_knowsAll_26 rfl rfl rfl (Nat.le_of_ble_eq_true rfl) rfl ?_
      refine z_goto hC 2 dX0_knowsAll_29 (by decide) ?_
      exact hk2 (x2 + 1) u h
    · rw [if_pos b4] at h
      refine z_iconst (v := 0) hC dX0_knowsAll_24 (by decide) ?_
      obtain rfl := Option.some.inj h
      exact z_zret hC hE rfl dX0_knowsAll_25
set_option maxHeartbeats 4000000 in
set_option maxRecDepth 100000 in
theorem t_X0_knowsAll_2 {C : mCtx} (hC : mOK cX0_knowsAll RX0 3 0 0 C) {res : Int32 × MU} (hE : mEndI C .boolean res.1 res.2) (q1 : Nat) (hq1 : okX4 q1) : ∀ (n : Nat) (x2 : Int32) (u : MU), l_X0_knowsAll_2 q1 n x2 u = some res → wat C u 2 [some (.ref (cS C 2)), some (.ref (cS C q1)), some (.int x2)] [] := by
  intro n
  induction n with
  | zero => intro x2 u h; exact absurd h (by simp [l_X0_knowsAll_2])
  | succ n ih =>
    intro x2 u h
    exact s_X0_knowsAll_2 hC hE q1 hq1 (fun x2 u => l_X0_knowsAll_2 q1 n x2 u) ih x2 u h
set_option maxHeartbeats 4000000 in
set_option maxRecDepth 100000 in
theorem s_X0_knowsAll_0 {C : mCtx} (hC : mOK cX0_knowsAll RX0 3 0 0 C) {res : Int32 × MU} (hE : mEndI C .boolean res.1 res.2) (q1 : Nat) (hq1 : okX4 q1) (u : MU) (h : f_X0_knowsAll q1 u = some res) : wat C u 0 [some (.ref (cS C 2)), some (.ref (cS C q1)), none] [] := by
  unfold f_X0_knowsAll at h
  refine z_iconst (v := 0) hC dX0_knowsAll_0 (by decide) ?_
  refine y_istore_n hC [some (.ref (cS C 2)), some (.ref (cS C q1)), some (.int 0)] dX0_knowsAll_1 rfl rfl (Nat.le_of_ble_eq_true rfl) (Nat.le_of_ble_eq_true rfl) rfl ?_
  exact t_X0_knowsAll_2 hC hE q1 hq1 FU 0 u h
theorem m_X0_knowsAll {l : Launch} {dC : Nat → ClassId} {dI : Nat → Nat → Nat} {dA : Nat → ClassId} {as : Nat → Nat} (hD : mDis as) (q1 : Nat) (hq1 : okX4 q1) (u : MU) {r : Int32} {v : MU} (h : f_X0_knowsAll q1 u = some (r, v)) : mMI l dC dI dA as yX0_knowsAll cX0_knowsAll 3 .boolean 0 0 [.ref (as 2), .ref (as q1)] u r v := mMIof RX0 [some (.ref (as 2)), some (.ref (as q1)), none] hD (by decide +kernel) rfl (Nat.le_of_ble_eq_true rfl) rfl (fun C e1 e2 e3 e4 e5 hC hE => by subst e5; exact s_X0_knowsAll_0 hC (res := (r, v)) hE q1 hq1 u h)
set_option maxHeartbeats 4000000 in
set_option maxRecDepth 100000 in
theorem s_X0_part_0 {C : mCtx} (hC : mOK cX0_part RX0 5 0 0 C) {res : Int32 × MU} (hE : mEndI C .int res.1 res.2) (x1 : Int32) (x2 : Int32) (x3 : Int32) (u : MU) (h : f_X0_part x1 x2 x3 u = some res) : wat C u 0 [some (.ref (cS C 2)), some (.int x1), some (.int x2), some (.int x3), none] [] := by
  unfold f_X0_part at h
  refine z_iload_n hC dX0_part_0 rfl rfl ?_
  refine z_bipush (v := nI 12) hC dX0_part_1 (by decide) ?_
  refine z_imul hC dX0_part_3 ?_
  refine z_iload_n hC dX0_part_4 rfl rfl ?_
  refine z_iadd hC dX0_part_5 ?_
  refine y_istore hC [some (.ref (cS C 2)), some (.int x1), some (.int x2), some (.int x3), some (.int ((x1 * (nI 12)) + x2))] dX0_part_6 rfl (Nat.le_of_ble_eq_true rfl) (Nat.le_of_ble_eq_true rfl) rfl ?_
  refine z_iload_n hC dX0_part_8 rfl rfl ?_
  by_cases b1 : x3 = 0
  · rw [if_pos b1] at h
    refine z_tin hC 40 dX0_part_9 (0) b1 (by decide) (by decide) rfl (by decide) ?_
    refine z_aload_n hC dX0_part_40 rfl rfl ?_
    refine z_getR hC 3 kF_X0_11 sh_2 rfl dX0_part_41 ?_
    refine z_iload hC dX0_part_44 rfl ?_
    obtain ⟨g2, h⟩ := gd_some h
    refine z_iald hC sh_3 g2 dX0_part_46 ?_
    obtain rfl := Option.some.inj h
    exact z_iret hC hE dX0_part_47
  · rw [if_neg b1] at h
    by_cases b3 : x3 = 1
    · rw [if_pos b3] at h
      refine z_tin hC 48 dX0_part_9 (1) b3 (by decide) (by decide) rfl (by decide) ?_
      refine z_aload_n hC dX0_part_48 rfl rfl ?_
      refine z_getR hC 4 kF_X0_15 sh_2 rfl dX0_part_49 ?_
      refine z_iload hC dX0_part_52 rfl ?_
      obtain ⟨g4, h⟩ := gd_some h
      refine z_iald hC sh_4 g4 dX0_part_54 ?_
      obtain rfl := Option.some.inj h
      exact z_iret hC hE dX0_part_55
    · rw [if_neg b3] at h
      by_cases b5 : x3 = nI 2
      · rw [if_pos b5] at h
        refine z_tin hC 56 dX0_part_9 (nI 2) b5 (by decide) (by decide) rfl (by decide) ?_
        refine z_aload_n hC dX0_part_56 rfl rfl ?_
        refine z_getR hC 5 kF_X0_18 sh_2 rfl dX0_part_57 ?_
        refine z_iload hC dX0_part_60 rfl ?_
        obtain ⟨g6, h⟩ := gd_some h
        refine z_iald hC sh_5 g6 dX0_part_62 ?_
        obtain rfl := Option.some.inj h
        exact z_iret hC hE dX0_part_63
      · rw [if_neg b5] at h
        by_cases b7 : x3 = nI 3
        · rw [if_pos b7] at h
          refine z_tin hC 64 dX0_part_9 (nI 3) b7 (by decide) (by decide) rfl (by decide) ?_
          refine z_aload_n hC dX0_part_64 rfl rfl ?_
          refine z_getR hC 6 kF_X0_21 sh_2 rfl dX0_part_65 ?_
          refine z_iload hC dX0_part_68 rfl ?_
          obtain ⟨g8, h⟩ := gd_some h
          refine z_iald hC sh_6 g8 dX0_part_70 ?_
          obtain rfl := Option.some.inj h
          exact z_iret hC hE dX0_part_71
        · rw [if_neg b7] at h
          refine z_tout hC 72 dX0_part_9 (tab_out (a := 3) (by intro k hk; match k, hk with | 0, _ => exact b1 | 1, _ => exact b3 | 2, _ => exact b5 | 3, _ => exact b7 | k + 4, hk => omega) (by decide)) (by decide) ?_
          refine z_iconst (v := 0) hC dX0_part_72 (by decide) ?_
          obtain rfl := Option.some.inj h
          exact z_iret hC hE dX0_part_73
theorem m_X0_part {l : Launch} {dC : Nat → ClassId} {dI : Nat → Nat → Nat} {dA : Nat → ClassId} {as : Nat → Nat} (hD : mDis as) (x1 : Int32) (x2 : Int32) (x3 : Int32) (u : MU) {r : Int32} {v : MU} (h : f_X0_part x1 x2 x3 u = some (r, v)) : mMI l dC dI dA as yX0_part cX0_part 5 .int 0 0 [.ref (as 2), .int x1, .int x2, .int x3] u r v := mMIof RX0 [some (.ref (as 2)), some (.int x1), some (.int x2), some (.int x3), none] hD (by decide +kernel) rfl (Nat.le_of_ble_eq_true rfl) rfl (fun C e1 e2 e3 e4 e5 hC hE => by subst e5; exact s_X0_part_0 hC (res := (r, v)) hE x1 x2 x3 u h)
set_option maxHeartbeats 4000000 in
set_option maxRecDepth 100000 in
theorem s_X0_between_114 {C : mCtx} (hC : mOK cX0_between RX0 10 0 0 C) {res : Int32 × MU} (hE : mEndI C .int res.1 res.2) (x5 : Int32) (x6 : Int32) (x9 : Int32) (u : MU) (h : b_X0_between_114 x5 x6 x9 u = some res) : wat C u 114 [some (.ref (cS C 2)), none, none, none, none, some (.int x5), some (.int x6), none, none, some (.int x9)] [] := by
  unfold b_X0_between_114 at h
  refine z_aload_n hC dX0_between_114 rfl rfl ?_
  refine z_getR hC 6 kF_X0_21 sh_2 rfl dX0_between_115 ?_
  refine z_iload hC dX0_between_118 rfl ?_
  obtain ⟨g1, h⟩ := gd_some h
  refine z_iald hC sh_6 g1 dX0_between_120 ?_
  refine z_iconst (v := 1) hC dX0_between_121 (by decide) ?_
  refine z_icmp_ne hC 142 dX0_between_122 (by decide) (fun b2 => ?_) (fun b2 => ?_)
  · rw [if_neg b2] at h
    refine z_iload hC dX0_between_142 rfl ?_
    obtain rfl := Option.some.inj h
    exact z_iret hC hE dX0_between_144
  · rw [if_pos b2] at h
    refine z_aload_n hC dX0_between_125 rfl rfl ?_
    refine z_getR hC 6 kF_X0_21 sh_2 rfl dX0_between_126 ?_
    refine z_iload hC dX0_between_129 rfl ?_
    obtain ⟨g3, h⟩ := gd_some h
    refine z_iald hC sh_6 g3 dX0_between_131 ?_
    refine z_iconst (v := 1) hC dX0_between_132 (by decide) ?_
    refine z_icmp_ne hC 142 dX0_between_133 (by decide) (fun b4 => ?_) (fun b4 => ?_)
    · rw [if_neg b4] at h
      refine z_iload hC dX0_between_142 rfl ?_
      obtain rfl := Option.some.inj h
      exact z_iret hC hE dX0_between_144
    · rw [if_pos b4] at h
      refine z_iload hC dX0_between_136 rfl ?_
      refine z_iconst (v := nI 4) hC dX0_between_138 (by decide) ?_
      refine z_ior hC dX0_between_139 ?_
      refine y_istore hC [some (.ref (cS C 2)), none, none, none, none, some (.int x5), some (.int x6), none, none, some (.int (x9 ||| (nI 4)))] dX0_between_140 rfl (Nat.le_of_ble_eq_true rfl) (Nat.le_of_ble_eq_true rfl) rfl ?_
      refine z_iload hC dX0_between_142 rfl ?_
      obtain rfl := Option.some.inj h
      exact z_iret hC hE dX0_between_144
set_option maxHeartbeats 4000000 in
set_option maxRecDepth 100000 in
theorem s_X0_between_84 {C : mCtx} (hC : mOK cX0_between RX0 10 0 0 C) {res : Int32 × MU} (hE : mEndI C .int res.1 res.2) (x5 : Int32) (x6 : Int32) (x7 : Int32) (x8 : Int32) (x9 : Int32) (u : MU) (h : b_X0_between_84 x5 x6 x7 x8 x9 u = some res) : wat C u 84 [some (.ref (cS C 2)), none, none, none, none, some (.int x5), some (.int x6), some (.int x7), some (.int x8), some (.int x9)] [] := by
  unfold b_X0_between_84 at h
  refine z_aload_n hC dX0_between_84 rfl rfl ?_
  refine z_getR hC 3 kF_X0_11 sh_2 rfl dX0_between_85 ?_
  refine z_iload hC dX0_between_88 rfl ?_
  obtain ⟨g1, h⟩ := gd_some h
  refine z_iald hC sh_3 g1 dX0_between_90 ?_
  refine z_iload hC dX0_between_91 rfl ?_
  refine z_iand hC dX0_between_93 ?_
  refine z_aload_n hC dX0_between_94 rfl rfl ?_
  refine z_getR hC 3 kF_X0_11 sh_2 rfl dX0_between_95 ?_
  refine z_iload hC dX0_between_98 rfl ?_
  obtain ⟨g2, h⟩ := gd_some h
  refine z_iald hC sh_3 g2 dX0_between_100 ?_
  refine z_iload hC dX0_between_101 rfl ?_
  refine z_iand hC dX0_between_103 ?_
  refine z_ior hC dX0_between_104 ?_
  refine z_if_eq hC 114 dX0_between_105 (by decide) (fun b3 => ?_) (fun b3 => ?_)
  · rw [if_pos b3] at h
    refine z_mask [true, false, false, false, false, true, true, false, false, true] ?_
    exact s_X0_between_114 hC hE x5 x6 x9 u h
  · rw [if_neg b3] at h
    refine z_iload hC dX0_between_108 rfl ?_
    refine z_iconst (v := nI 2) hC dX0_between_110 (by decide) ?_
    refine z_ior hC dX0_between_111 ?_
    refine y_istore hC [some (.ref (cS C 2)), none, none, none, none, some (.int x5), some (.int x6), some (.int x7), some (.int x8), some (.int (x9 ||| (nI 2)))] dX0_between_112 rfl (Nat.le_of_ble_eq_true rfl) (Nat.le_of_ble_eq_true rfl) rfl ?_
    refine z_mask [true, false, false, false, false, true, true, false, false, true] ?_
    exact s_X0_between_114 hC hE x5 x6 (x9 ||| (nI 2)) u h
set_option maxHeartbeats 4000000 in
set_option maxRecDepth 100000 in
theorem s_X0_between_0 {C : mCtx} (hC : mOK cX0_between RX0 10 0 0 C) {res : Int32 × MU} (hE : mEndI C .int res.1 res.2) (x1 : Int32) (x2 : Int32) (x3 : Int32) (x4 : Int32) (u : MU) (h : f_X0_between x1 x2 x3 x4 u = some res) : wat C u 0 [some (.ref (cS C 2)), some (.int x1), some (.int x2), some (.int x3), some (.int x4), none, none, none, none, none] [] := by
  unfold f_X0_between at h
  refine z_iload_n hC dX0_between_0 rfl rfl ?_
  refine z_bipush (v := nI 12) hC dX0_between_1 (by decide) ?_
  refine z_imul hC dX0_between_3 ?_
  refine z_iload_n hC dX0_between_4 rfl rfl ?_
  refine z_iadd hC dX0_between_5 ?_
  refine y_istore hC [some (.ref (cS C 2)), some (.int x1), some (.int x2), some (.int x3), some (.int x4), some (.int ((x1 * (nI 12)) + x2)), none, none, none, none] dX0_between_6 rfl (Nat.le_of_ble_eq_true rfl) (Nat.le_of_ble_eq_true rfl) rfl ?_
  refine z_iload_n hC dX0_between_8 rfl rfl ?_
  refine z_bipush (v := nI 12) hC dX0_between_9 (by decide) ?_
  refine z_imul hC dX0_between_11 ?_
  refine z_iload hC dX0_between_12 rfl ?_
  refine z_iadd hC dX0_between_14 ?_
  refine y_istore hC [some (.ref (cS C 2)), some (.int x1), some (.int x2), some (.int x3), some (.int x4), some (.int ((x1 * (nI 12)) + x2)), some (.int ((x3 * (nI 12)) + x4)), none, none, none] dX0_between_15 rfl (Nat.le_of_ble_eq_true rfl) (Nat.le_of_ble_eq_true rfl) rfl ?_
  refine z_aload_n hC dX0_between_17 rfl rfl ?_
  refine z_getR hC 4 kF_X0_15 sh_2 rfl dX0_between_18 ?_
  refine z_iload hC dX0_between_21 rfl ?_
  obtain ⟨g1, h⟩ := gd_some h
  refine z_iald hC sh_4 g1 dX0_between_23 ?_
  refine z_aload_n hC dX0_between_24 rfl rfl ?_
  refine z_getR hC 5 kF_X0_18 sh_2 rfl dX0_between_25 ?_
  refine z_iload hC dX0_between_28 rfl ?_
  obtain ⟨g2, h⟩ := gd_some h
  refine z_iald hC sh_5 g2 dX0_between_30 ?_
  refine z_ior hC dX0_between_31 ?_
  refine y_istore hC [some (.ref (cS C 2)), some (.int x1), some (.int x2), some (.int x3), some (.int x4), some (.int ((x1 * (nI 12)) + x2)), some (.int ((x3 * (nI 12)) + x4)), some (.int ((u 4 ((x1 * (nI 12)) + x2).toNatClampNeg) ||| (u 5 ((x1 * (nI 12)) + x2).toNatClampNeg))), none, none] dX0_between_32 rfl (Nat.le_of_ble_eq_true rfl) (Nat.le_of_ble_eq_true rfl) rfl ?_
  refine z_aload_n hC dX0_between_34 rfl rfl ?_
  refine z_getR hC 4 kF_X0_15 sh_2 rfl dX0_between_35 ?_
  refine z_iload hC dX0_between_38 rfl ?_
  obtain ⟨g3, h⟩ := gd_some h
  refine z_iald hC sh_4 g3 dX0_between_40 ?_
  refine z_aload_n hC dX0_between_41 rfl rfl ?_
  refine z_getR hC 5 kF_X0_18 sh_2 rfl dX0_between_42 ?_
  refine z_iload hC dX0_between_45 rfl ?_
  obtain ⟨g4, h⟩ := gd_some h
  refine z_iald hC sh_5 g4 dX0_between_47 ?_
  refine z_ior hC dX0_between_48 ?_
  refine y_istore hC [some (.ref (cS C 2)), some (.int x1), some (.int x2), some (.int x3), some (.int x4), some (.int ((x1 * (nI 12)) + x2)), some (.int ((x3 * (nI 12)) + x4)), some (.int ((u 4 ((x1 * (nI 12)) + x2).toNatClampNeg) ||| (u 5 ((x1 * (nI 12)) + x2).toNatClampNeg))), some (.int ((u 4 ((x3 * (nI 12)) + x4).toNatClampNeg) ||| (u 5 ((x3 * (nI 12)) + x4).toNatClampNeg))), none] dX0_between_49 rfl (Nat.le_of_ble_eq_true rfl) (Nat.le_of_ble_eq_true rfl) rfl ?_
  refine z_iconst (v := 0) hC dX0_between_51 (by decide) ?_
  refine y_istore hC [some (.ref (cS C 2)), some (.int x1), some (.int x2), some (.int x3), some (.int x4), some (.int ((x1 * (nI 12)) + x2)), some (.int ((x3 * (nI 12)) + x4)), some (.int ((u 4 ((x1 * (nI 12)) + x2).toNatClampNeg) ||| (u 5 ((x1 * (nI 12)) + x2).toNatClampNeg))), some (.int ((u 4 ((x3 * (nI 12)) + x4).toNatClampNeg) ||| (u 5 ((x3 * (nI 12)) + x4).toNatClampNeg))), some (.int 0)] dX0_between_52 rfl (Nat.le_of_ble_eq_true rfl) (Nat.le_of_ble_eq_true rfl) rfl ?_
  refine z_aload_n hC dX0_between_54 rfl rfl ?_
  refine z_getR hC 4 kF_X0_15 sh_2 rfl dX0_between_55 ?_
  refine z_iload hC dX0_between_58 rfl ?_
  obtain ⟨g5, h⟩ := gd_some h
  refine z_iald hC sh_4 g5 dX0_between_60 ?_
  refine z_iload hC dX0_between_61 rfl ?_
  refine z_iand hC dX0_between_63 ?_
  refine z_aload_n hC dX0_between_64 rfl rfl ?_
  refine z_getR hC 4 kF_X0_15 sh_2 rfl dX0_between_65 ?_
  refine z_iload hC dX0_between_68 rfl ?_
  obtain ⟨g6, h⟩ := gd_some h
  refine z_iald hC sh_4 g6 dX0_between_70 ?_
  refine z_iload hC dX0_between_71 rfl ?_
  refine z_iand hC dX0_between_73 ?_
  refine z_ior hC dX0_between_74 ?_
  refine z_if_eq hC 84 dX0_between_75 (by decide) (fun b7 => ?_) (fun b7 => ?_)
  · rw [if_pos b7] at h
    refine z_mask [true, false, false, false, false, true, true, true, true, true] ?_
    exact s_X0_between_84 hC hE ((x1 * (nI 12)) + x2) ((x3 * (nI 12)) + x4) ((u 4 ((x1 * (nI 12)) + x2).toNatClampNeg) ||| (u 5 ((x1 * (nI 12)) + x2).toNatClampNeg)) ((u 4 ((x3 * (nI 12)) + x4).toNatClampNeg) ||| (u 5 ((x3 * (nI 12)) + x4).toNatClampNeg)) 0 u h
  · rw [if_neg b7] at h
    refine z_iload hC dX0_between_78 rfl ?_
    refine z_iconst (v := 1) hC dX0_between_80 (by decide) ?_
    refine z_ior hC dX0_between_81 ?_
    refine y_istore hC [some (.ref (cS C 2)), some (.int x1), some (.int x2), some (.int x3), some (.int x4), some (.int ((x1 * (nI 12)) + x2)), some (.int ((x3 * (nI 12)) + x4)), some (.int ((u 4 ((x1 * (nI 12)) + x2).toNatClampNeg) ||| (u 5 ((x1 * (nI 12)) + x2).toNatClampNeg))), some (.int ((u 4 ((x3 * (nI 12)) + x4).toNatClampNeg) ||| (u 5 ((x3 * (nI 12)) + x4).toNatClampNeg))), some (.int (0 ||| 1))] dX0_between_82 rfl (Nat.le_of_ble_eq_true rfl) (Nat.le_of_ble_eq_true rfl) rfl ?_
    refine z_mask [true, false, false, false, false, true, true, true, true, true] ?_
    exact s_X0_between_84 hC hE ((x1 * (nI 12)) + x2) ((x3 * (nI 12)) + x4) ((u 4 ((x1 * (nI 12)) + x2).toNatClampNeg) ||| (u 5 ((x1 * (nI 12)) + x2).toNatClampNeg)) ((u 4 ((x3 * (nI 12)) + x4).toNatClampNeg) ||| (u 5 ((x3 * (nI 12)) + x4).toNatClampNeg)) (0 ||| 1) u h
theorem m_X0_between {l : Launch} {dC : Nat → ClassId} {dI : Nat → Nat → Nat} {dA : Nat → ClassId} {as : Nat → Nat} (hD : mDis as) (x1 : Int32) (x2 : Int32) (x3 : Int32) (x4 : Int32) (u : MU) {r : Int32} {v : MU} (h : f_X0_between x1 x2 x3 x4 u = some (r, v)) : mMI l dC dI dA as yX0_between cX0_between 10 .int 0 0 [.ref (as 2), .int x1, .int x2, .int x3, .int x4] u r v := mMIof RX0 [some (.ref (as 2)), some (.int x1), some (.int x2), some (.int x3), some (.int x4), none, none, none, none, none] hD (by decide +kernel) rfl (Nat.le_of_ble_eq_true rfl) rfl (fun C e1 e2 e3 e4 e5 hC hE => by subst e5; exact s_X0_between_0 hC (res := (r, v)) hE x1 x2 x3 x4 u h)
set_option maxHeartbeats 4000000 in
set_option maxRecDepth 100000 in
theorem s_X0_free_0 {C : mCtx} (hC : mOK cX0_free RX0 4 1 29 C) {res : Int32 × MU} (hE : mEndI C .boolean res.1 res.2) (q1 : Nat) (hq1 : okX4 q1) (x2 : Int32) (x3 : Int32) (u : MU) (h : f_X0_free q1 x2 x3 u = some res) : wat C u 0 [some (.ref (cS C 2)), some (.ref (cS C q1)), some (.int x2), some (.int x3)] [] := by
  unfold f_X0_free at h
  refine z_aload_n hC dX0_free_0 rfl rfl ?_
  refine z_aload_n hC dX0_free_1 rfl rfl ?_
  refine z_getR hC (q1 + 1) kF_X0_50 hq1.1 rfl dX0_free_2 ?_
  refine z_iload_n hC dX0_free_5 rfl rfl ?_
  obtain ⟨g1, h⟩ := gd_some h
  refine z_iald hC hq1.2.1 g1 dX0_free_6 ?_
  refine z_aload_n hC dX0_free_7 rfl rfl ?_
  refine z_getR hC (q1 + 2) kF_X0_53 hq1.1 rfl dX0_free_8 ?_
  refine z_iload_n hC dX0_free_11 rfl rfl ?_
  obtain ⟨g2, h⟩ := gd_some h
  refine z_iald hC hq1.2.2 g2 dX0_free_12 ?_
  refine z_aload_n hC dX0_free_13 rfl rfl ?_
  refine z_getR hC (q1 + 1) kF_X0_50 hq1.1 rfl dX0_free_14 ?_
  refine z_iload_n hC dX0_free_17 rfl rfl ?_
  obtain ⟨g3, h⟩ := gd_some h
  refine z_iald hC hq1.2.1 g3 dX0_free_18 ?_
  refine z_aload_n hC dX0_free_19 rfl rfl ?_
  refine z_getR hC (q1 + 2) kF_X0_53 hq1.1 rfl dX0_free_20 ?_
  refine z_iload_n hC dX0_free_23 rfl rfl ?_
  obtain ⟨g4, h⟩ := gd_some h
  refine z_iald hC hq1.2.2 g4 dX0_free_24 ?_
  obtain ⟨r5, u5, c5, h⟩ := mB_some h
  refine z_callI hC kC_X0_between kM_X0_56 sh_2 TX0 6 rfl (m_X0_between hC.dis (u (q1 + 1) x2.toNatClampNeg) (u (q1 + 2) x2.toNatClampNeg) (u (q1 + 1) x3.toNatClampNeg) (u (q1 + 2) x3.toNatClampNeg) u c5) rfl (Nat.le_of_ble_eq_true rfl) (Nat.le_of_ble_eq_true rfl) (Nat.le_of_ble_eq_true rfl) rfl dX0_free_25 ?_
  refine z_if_ne hC 35 dX0_free_28 (by decide) (fun b6 => ?_) (fun b6 => ?_)
  · rw [if_neg b6] at h
    refine z_iconst (v := 0) hC dX0_free_35 (by decide) ?_
    obtain rfl := Option.some.inj h
    exact z_zret hC hE rfl dX0_free_36
  · rw [if_pos b6] at h
    refine z_iconst (v := 1) hC dX0_free_31 (by decide) ?_
    refine z_goto hC 36 dX0_free_32 (by decide) ?_
    obtain rfl := Option.some.inj h
    exact z_zret hC hE rfl dX0_free_36
theorem m_X0_free {l : Launch} {dC : Nat → ClassId} {dI : Nat → Nat → Nat} {dA : Nat → ClassId} {as : Nat → Nat} (hD : mDis as) (q1 : Nat) (hq1 : okX4 q1) (x2 : Int32) (x3 : Int32) (u : MU) {r : Int32} {v : MU} (h : f_X0_free q1 x2 x3 u = some (r, v)) : mMI l dC dI dA as yX0_free cX0_free 4 .boolean 1 29 [.ref (as 2), .ref (as q1), .int x2, .int x3] u r v := mMIof RX0 [some (.ref (as 2)), some (.ref (as q1)), some (.int x2), some (.int x3)] hD (by decide +kernel) rfl (Nat.le_of_ble_eq_true rfl) rfl (fun C e1 e2 e3 e4 e5 hC hE => by subst e5; exact s_X0_free_0 hC (res := (r, v)) hE q1 hq1 x2 x3 u h)
set_option maxHeartbeats 4000000 in
set_option maxRecDepth 100000 in
theorem s_X4_copyFrom_0 {C : mCtx} (hC : mOK cX4_copyFrom RX4 2 1 64 C) {res : Int32 × MU} (hE : mEndV C res.2) (q0 : Nat) (hq0 : okX4 q0) (q1 : Nat) (hq1 : okX4 q1) (u : MU) (h : f_X4_copyFrom q0 q1 u = some res) : wat C u 0 [some (.ref (cS C q0)), some (.ref (cS C q1))] [] := by
  unfold f_X4_copyFrom at h
  refine z_aload_n hC dX4_copyFrom_0 rfl rfl ?_
  refine z_getR hC (q1 + 1) kF_X4_9 hq1.1 rfl dX4_copyFrom_1 ?_
  refine z_iconst (v := 0) hC dX4_copyFrom_4 (by decide) ?_
  refine z_aload_n hC dX4_copyFrom_5 rfl rfl ?_
  refine z_getR hC (q0 + 1) kF_X4_9 hq0.1 rfl dX4_copyFrom_6 ?_
  refine z_iconst (v := 0) hC dX4_copyFrom_9 (by decide) ?_
  refine z_bipush (v := nI 16) hC dX4_copyFrom_10 (by decide) ?_
  obtain ⟨u1, e1, h⟩ := mS_some h
  refine y_copy hC kA_X4_22 hq1.2.1 hq0.2.1 (by decide) (by decide) (by decide) (by decide +kernel) (by decide +kernel) (Nat.le_of_ble_eq_true rfl) (Nat.le_of_ble_eq_true rfl) dX4_copyFrom_12 e1 ?_
  refine z_aload_n hC dX4_copyFrom_15 rfl rfl ?_
  refine z_getR hC (q1 + 2) kF_X4_15 hq1.1 rfl dX4_copyFrom_16 ?_
  refine z_iconst (v := 0) hC dX4_copyFrom_19 (by decide) ?_
  refine z_aload_n hC dX4_copyFrom_20 rfl rfl ?_
  refine z_getR hC (q0 + 2) kF_X4_15 hq0.1 rfl dX4_copyFrom_21 ?_
  refine z_iconst (v := 0) hC dX4_copyFrom_24 (by decide) ?_
  refine z_bipush (v := nI 16) hC dX4_copyFrom_25 (by decide) ?_
  obtain ⟨u2, e2, h⟩ := mS_some h
  refine y_copy hC kA_X4_22 hq1.2.2 hq0.2.2 (by decide) (by decide) (by decide) (by decide +kernel) (by decide +kernel) (Nat.le_of_ble_eq_true rfl) (Nat.le_of_ble_eq_true rfl) dX4_copyFrom_27 e2 ?_
  refine z_aload_n hC dX4_copyFrom_30 rfl rfl ?_
  refine z_aload_n hC dX4_copyFrom_31 rfl rfl ?_
  refine z_getI hC kF_X4_18 hq1.1 rfl dX4_copyFrom_32 ?_
  obtain ⟨u3, e3, h⟩ := mS_some h
  refine y_putI hC kP_X4_18 hq0.1 rfl dX4_copyFrom_35 e3 ?_
  obtain rfl := Option.some.inj h
  exact z_vret hC hE dX4_copyFrom_38
theorem m_X4_copyFrom {l : Launch} {dC : Nat → ClassId} {dI : Nat → Nat → Nat} {dA : Nat → ClassId} {as : Nat → Nat} (hD : mDis as) (q0 : Nat) (hq0 : okX4 q0) (q1 : Nat) (hq1 : okX4 q1) (u : MU) {r : Int32} {v : MU} (h : f_X4_copyFrom q0 q1 u = some (r, v)) : mMV l dC dI dA as yX4_copyFrom cX4_copyFrom 2 1 64 [.ref (as q0), .ref (as q1)] u v := mMVof RX4 [some (.ref (as q0)), some (.ref (as q1))] hD (by decide +kernel) rfl (Nat.le_of_ble_eq_true rfl) rfl (fun C e1 e2 e3 e4 e5 hC hE => by subst e5; exact s_X4_copyFrom_0 hC (res := (r, v)) hE q0 hq0 q1 hq1 u h)
set_option maxHeartbeats 4000000 in
set_option maxRecDepth 100000 in
theorem s_X1_keep_0 {C : mCtx} (hC : mOK cX1_keep RX1 3 2 85 C) {res : Int32 × MU} (hE : mEndV C res.2) (q0 : Nat) (hq0 : okX1 q0) (q1 : Nat) (hq1 : okI q1) (q2 : Nat) (hq2 : okX4 q2) (u : MU) (h : f_X1_keep q0 q1 q2 u = some res) : wat C u 0 [some (.ref (cS C q0)), some (.ref (cS C q1)), some (.ref (cS C q2))] [] := by
  unfold f_X1_keep at h
  refine z_aload_n hC dX1_keep_0 rfl rfl ?_
  refine z_iconst (v := 0) hC dX1_keep_1 (by decide) ?_
  refine z_aload_n hC dX1_keep_2 rfl rfl ?_
  refine z_getR hC (q0 + 1) kF_X1_9 hq0.1 rfl dX1_keep_3 ?_
  refine z_iconst (v := 0) hC dX1_keep_6 (by decide) ?_
  refine z_bipush (v := nI 18) hC dX1_keep_7 (by decide) ?_
  obtain ⟨g2, h⟩ := gd_some h
  obtain ⟨u1, e1, h⟩ := mS_some h
  refine y_copy hC kA_X1_26 hq1 hq0.2.1 (by decide) (by decide) (by decide) (of_decide_eq_true g2) (by decide +kernel) (Nat.le_of_ble_eq_true rfl) (Nat.le_of_ble_eq_true rfl) dX1_keep_9 e1 ?_
  refine z_aload_n hC dX1_keep_12 rfl rfl ?_
  refine z_getR hC (q0 + 2) kF_X1_18 hq0.1 rfl dX1_keep_13 ?_
  refine z_aload_n hC dX1_keep_16 rfl rfl ?_
  obtain ⟨r3, u3, c3, h⟩ := mB_some h
  refine z_callV hC kC_X4_copyFrom kM_X1_32 hq0.2.2.1 TX4 3 rfl (m_X4_copyFrom hC.dis (q0 + 2) hq0.2.2 q2 hq2 u1 c3) rfl (Nat.le_of_ble_eq_true rfl) (Nat.le_of_ble_eq_true rfl) (Nat.le_of_ble_eq_true rfl) rfl dX1_keep_17 ?_
  refine z_aload_n hC dX1_keep_20 rfl rfl ?_
  refine z_iconst (v := 1) hC dX1_keep_21 (by decide) ?_
  obtain ⟨u4, e4, h⟩ := mS_some h
  refine y_putZ hC rfl kP_X1_22 hq0.1 rfl dX1_keep_22 e4 ?_
  obtain rfl := Option.some.inj h
  exact z_vret hC hE dX1_keep_25
theorem m_X1_keep {l : Launch} {dC : Nat → ClassId} {dI : Nat → Nat → Nat} {dA : Nat → ClassId} {as : Nat → Nat} (hD : mDis as) (q0 : Nat) (hq0 : okX1 q0) (q1 : Nat) (hq1 : okI q1) (q2 : Nat) (hq2 : okX4 q2) (u : MU) {r : Int32} {v : MU} (h : f_X1_keep q0 q1 q2 u = some (r, v)) : mMV l dC dI dA as yX1_keep cX1_keep 3 2 85 [.ref (as q0), .ref (as q1), .ref (as q2)] u v := mMVof RX1 [some (.ref (as q0)), some (.ref (as q1)), some (.ref (as q2))] hD (by decide +kernel) rfl (Nat.le_of_ble_eq_true rfl) rfl (fun C e1 e2 e3 e4 e5 hC hE => by subst e5; exact s_X1_keep_0 hC (res := (r, v)) hE q0 hq0 q1 hq1 q2 hq2 u h)
set_option maxHeartbeats 4000000 in
set_option maxRecDepth 100000 in
theorem s_J9_max_7cf53_0 {C : mCtx} (hC : mOK cJ9_max_7cf53 RJ9 2 0 0 C) {res : Int32 × MU} (hE : mEndI C .int res.1 res.2) (x0 : Int32) (x1 : Int32) (u : MU) (h : f_J9_max_7cf53 x0 x1 u = some res) : wat C u 0 [some (.int x0), some (.int x1)] [] := by
  unfold f_J9_max_7cf53 at h
  refine z_iload_n hC dJ9_max_7cf53_0 rfl rfl ?_
  refine z_iload_n hC dJ9_max_7cf53_1 rfl rfl ?_
  refine z_icmp_lt hC 9 dJ9_max_7cf53_2 (by decide) (fun b1 => ?_) (fun b1 => ?_)
  · rw [if_pos b1] at h
    refine z_iload_n hC dJ9_max_7cf53_9 rfl rfl ?_
    obtain rfl := Option.some.inj h
    exact z_iret hC hE dJ9_max_7cf53_10
  · rw [if_neg b1] at h
    refine z_iload_n hC dJ9_max_7cf53_5 rfl rfl ?_
    refine z_goto hC 10 dJ9_max_7cf53_6 (by decide) ?_
    obtain rfl := Option.some.inj h
    exact z_iret hC hE dJ9_max_7cf53_10
theorem m_J9_max_7cf53 {l : Launch} {dC : Nat → ClassId} {dI : Nat → Nat → Nat} {dA : Nat → ClassId} {as : Nat → Nat} (hD : mDis as) (x0 : Int32) (x1 : Int32) (u : MU) {r : Int32} {v : MU} (h : f_J9_max_7cf53 x0 x1 u = some (r, v)) : mMI l dC dI dA as yJ9_max_7cf53 cJ9_max_7cf53 2 .int 0 0 [.int x0, .int x1] u r v := mMIof RJ9 [some (.int x0), some (.int x1)] hD (by decide +kernel) rfl (Nat.le_of_ble_eq_true rfl) rfl (fun C e1 e2 e3 e4 e5 hC hE => by subst e5; exact s_J9_max_7cf53_0 hC (res := (r, v)) hE x0 x1 u h)
set_option maxHeartbeats 4000000 in
set_option maxRecDepth 100000 in
theorem s_X2_goesAhead_0 {C : mCtx} (hC : mOK cX2_goesAhead RX2 4 0 0 C) {res : Int32 × MU} (hE : mEndI C .boolean res.1 res.2) (q0 : Nat) (hq0 : okX2 q0) (x1 : Int32) (x2 : Int32) (x3 : Int32) (u : MU) (h : f_X2_goesAhead q0 x1 x2 x3 u = some res) : wat C u 0 [some (.ref (cS C q0)), some (.int x1), some (.int x2), some (.int x3)] [] := by
  unfold f_X2_goesAhead at h
  refine z_iload_n hC dX2_goesAhead_0 rfl rfl ?_
  refine z_if_ne hC 15 dX2_goesAhead_1 (by decide) (fun b1 => ?_) (fun b1 => ?_)
  · rw [if_neg b1] at h
    refine z_aload_n hC dX2_goesAhead_15 rfl rfl ?_
    refine z_getR hC (q0 + 4) kF_X2_18 hq0.1 rfl dX2_goesAhead_16 ?_
    refine z_iload_n hC dX2_goesAhead_19 rfl rfl ?_
    obtain ⟨g2, h⟩ := gd_some h
    refine z_iald hC hq0.2.2.1 g2 dX2_goesAhead_20 ?_
    refine z_aload_n hC dX2_goesAhead_21 rfl rfl ?_
    refine z_getR hC (q0 + 4) kF_X2_18 hq0.1 rfl dX2_goesAhead_22 ?_
    refine z_iload_n hC dX2_goesAhead_25 rfl rfl ?_
    obtain ⟨g3, h⟩ := gd_some h
    refine z_iald hC hq0.2.2.1 g3 dX2_goesAhead_26 ?_
    refine z_icmp_eq hC 51 dX2_goesAhead_27 (by decide) (fun b4 => ?_) (fun b4 => ?_)
    · rw [if_pos b4] at h
      refine z_iload_n hC dX2_goesAhead_51 rfl rfl ?_
      refine z_iconst (v := 1) hC dX2_goesAhead_52 (by decide) ?_
      refine z_icmp_ne hC 67 dX2_goesAhead_53 (by decide) (fun b5 => ?_) (fun b5 => ?_)
      · rw [if_neg b5] at h
        refine z_aload_n hC dX2_goesAhead_67 rfl rfl ?_
        refine z_getR hC (q0 + 1) kF_X2_12 hq0.1 rfl dX2_goesAhead_68 ?_
        refine z_getR hC (q0 + 1 + 1) kF_X2_69 hq0.2.1.1 rfl dX2_goesAhead_71 ?_
        refine z_iload_n hC dX2_goesAhead_74 rfl rfl ?_
        obtain ⟨g6, h⟩ := gd_some h
        refine z_iald hC hq0.2.1.2.1 g6 dX2_goesAhead_75 ?_
        refine z_aload_n hC dX2_goesAhead_76 rfl rfl ?_
        refine z_getR hC (q0 + 1) kF_X2_12 hq0.1 rfl dX2_goesAhead_77 ?_
        refine z_getR hC (q0 + 1 + 1) kF_X2_69 hq0.2.1.1 rfl dX2_goesAhead_80 ?_
        refine z_iload_n hC dX2_goesAhead_83 rfl rfl ?_
        obtain ⟨g7, h⟩ := gd_some h
        refine z_iald hC hq0.2.1.2.1 g7 dX2_goesAhead_84 ?_
        refine z_icmp_eq hC 115 dX2_goesAhead_85 (by decide) (fun b8 => ?_) (fun b8 => ?_)
        · rw [if_pos b8] at h
          refine z_aload_n hC dX2_goesAhead_115 rfl rfl ?_
          refine z_getR hC (q0 + 1) kF_X2_12 hq0.1 rfl dX2_goesAhead_116 ?_
          refine z_getR hC (q0 + 1 + 2) kF_X2_72 hq0.2.1.1 rfl dX2_goesAhead_119 ?_
          refine z_iload_n hC dX2_goesAhead_122 rfl rfl ?_
          obtain ⟨g9, h⟩ := gd_some h
          refine z_iald hC hq0.2.1.2.2 g9 dX2_goesAhead_123 ?_
          refine z_aload_n hC dX2_goesAhead_124 rfl rfl ?_
          refine z_getR hC (q0 + 1) kF_X2_12 hq0.1 rfl dX2_goesAhead_125 ?_
          refine z_getR hC (q0 + 1 + 2) kF_X2_72 hq0.2.1.1 rfl dX2_goesAhead_128 ?_
          refine z_iload_n hC dX2_goesAhead_131 rfl rfl ?_
          obtain ⟨g10, h⟩ := gd_some h
          refine z_iald hC hq0.2.1.2.2 g10 dX2_goesAhead_132 ?_
          refine z_icmp_eq hC 163 dX2_goesAhead_133 (by decide) (fun b11 => ?_) (fun b11 => ?_)
          · rw [if_pos b11] at h
            refine z_iload_n hC dX2_goesAhead_163 rfl rfl ?_
            refine z_iload_n hC dX2_goesAhead_164 rfl rfl ?_
            refine z_icmp_ge hC 172 dX2_goesAhead_165 (by decide) (fun b12 => ?_) (fun b12 => ?_)
            · rw [if_pos b12] at h
              refine z_iconst (v := 0) hC dX2_goesAhead_172 (by decide) ?_
              obtain rfl := Option.some.inj h
              exact z_zret hC hE rfl dX2_goesAhead_173
            · rw [if_neg b12] at h
              refine z_iconst (v := 1) hC dX2_goesAhead_168 (by decide) ?_
              refine z_goto hC 173 dX2_goesAhead_169 (by decide) ?_
              obtain rfl := Option.some.inj h
              exact z_zret hC hE rfl dX2_goesAhead_173
          · rw [if_neg b11] at h
            refine z_aload_n hC dX2_goesAhead_136 rfl rfl ?_
            refine z_getR hC (q0 + 1) kF_X2_12 hq0.1 rfl dX2_goesAhead_137 ?_
            refine z_getR hC (q0 + 1 + 2) kF_X2_72 hq0.2.1.1 rfl dX2_goesAhead_140 ?_
            refine z_iload_n hC dX2_goesAhead_143 rfl rfl ?_
            obtain ⟨g13, h⟩ := gd_some h
            refine z_iald hC hq0.2.1.2.2 g13 dX2_goesAhead_144 ?_
            refine z_aload_n hC dX2_goesAhead_145 rfl rfl ?_
            refine z_getR hC (q0 + 1) kF_X2_12 hq0.1 rfl dX2_goesAhead_146 ?_
            refine z_getR hC (q0 + 1 + 2) kF_X2_72 hq0.2.1.1 rfl dX2_goesAhead_149 ?_
            refine z_iload_n hC dX2_goesAhead_152 rfl rfl ?_
            obtain ⟨g14, h⟩ := gd_some h
            refine z_iald hC hq0.2.1.2.2 g14 dX2_goesAhead_153 ?_
            refine z_icmp_ge hC 161 dX2_goesAhead_154 (by decide) (fun b15 => ?_) (fun b15 => ?_)
            · rw [if_pos b15] at h
              refine z_iconst (v := 0) hC dX2_goesAhead_161 (by decide) ?_
              obtain rfl := Option.some.inj h
              exact z_zret hC hE rfl dX2_goesAhead_162
            · rw [if_neg b15] at h
              refine z_iconst (v := 1) hC dX2_goesAhead_157 (by decide) ?_
              refine z_goto hC 162 dX2_goesAhead_158 (by decide) ?_
              obtain rfl := Option.some.inj h
              exact z_zret hC hE rfl dX2_goesAhead_162
        · rw [if_neg b8] at h
          refine z_aload_n hC dX2_goesAhead_88 rfl rfl ?_
          refine z_getR hC (q0 + 1) kF_X2_12 hq0.1 rfl dX2_goesAhead_89 ?_
          refine z_getR hC (q0 + 1 + 1) kF_X2_69 hq0.2.1.1 rfl dX2_goesAhead_92 ?_
          refine z_iload_n hC dX2_goesAhead_95 rfl rfl ?_
          obtain ⟨g16, h⟩ := gd_some h
          refine z_iald hC hq0.2.1.2.1 g16 dX2_goesAhead_96 ?_
          refine z_aload_n hC dX2_goesAhead_97 rfl rfl ?_
          refine z_getR hC (q0 + 1) kF_X2_12 hq0.1 rfl dX2_goesAhead_98 ?_
          refine z_getR hC (q0 + 1 + 1) kF_X2_69 hq0.2.1.1 rfl dX2_goesAhead_101 ?_
          refine z_iload_n hC dX2_goesAhead_104 rfl rfl ?_
          obtain ⟨g17, h⟩ := gd_some h
          refine z_iald hC hq0.2.1.2.1 g17 dX2_goesAhead_105 ?_
          refine z_icmp_ge hC 113 dX2_goesAhead_106 (by decide) (fun b18 => ?_) (fun b18 => ?_)
          · rw [if_pos b18] at h
            refine z_iconst (v := 0) hC dX2_goesAhead_113 (by decide) ?_
            obtain rfl := Option.some.inj h
            exact z_zret hC hE rfl dX2_goesAhead_114
          · rw [if_neg b18] at h
            refine z_iconst (v := 1) hC dX2_goesAhead_109 (by decide) ?_
            refine z_goto hC 114 dX2_goesAhead_110 (by decide) ?_
            obtain rfl := Option.some.inj h
            exact z_zret hC hE rfl dX2_goesAhead_114
      · rw [if_pos b5] at h
        refine z_iload_n hC dX2_goesAhead_56 rfl rfl ?_
        refine z_iload_n hC dX2_goesAhead_57 rfl rfl ?_
        refine z_icmp_le hC 65 dX2_goesAhead_58 (by decide) (fun b19 => ?_) (fun b19 => ?_)
        · rw [if_pos b19] at h
          refine z_iconst (v := 0) hC dX2_goesAhead_65 (by decide) ?_
          obtain rfl := Option.some.inj h
          exact z_zret hC hE rfl dX2_goesAhead_66
        · rw [if_neg b19] at h
          refine z_iconst (v := 1) hC dX2_goesAhead_61 (by decide) ?_
          refine z_goto hC 66 dX2_goesAhead_62 (by decide) ?_
          obtain rfl := Option.some.inj h
          exact z_zret hC hE rfl dX2_goesAhead_66
    · rw [if_neg b4] at h
      refine z_aload_n hC dX2_goesAhead_30 rfl rfl ?_
      refine z_getR hC (q0 + 4) kF_X2_18 hq0.1 rfl dX2_goesAhead_31 ?_
      refine z_iload_n hC dX2_goesAhead_34 rfl rfl ?_
      obtain ⟨g20, h⟩ := gd_some h
      refine z_iald hC hq0.2.2.1 g20 dX2_goesAhead_35 ?_
      refine z_aload_n hC dX2_goesAhead_36 rfl rfl ?_
      refine z_getR hC (q0 + 4) kF_X2_18 hq0.1 rfl dX2_goesAhead_37 ?_
      refine z_iload_n hC dX2_goesAhead_40 rfl rfl ?_
      obtain ⟨g21, h⟩ := gd_some h
      refine z_iald hC hq0.2.2.1 g21 dX2_goesAhead_41 ?_
      refine z_icmp_ge hC 49 dX2_goesAhead_42 (by decide) (fun b22 => ?_) (fun b22 => ?_)
      · rw [if_pos b22] at h
        refine z_iconst (v := 0) hC dX2_goesAhead_49 (by decide) ?_
        obtain rfl := Option.some.inj h
        exact z_zret hC hE rfl dX2_goesAhead_50
      · rw [if_neg b22] at h
        refine z_iconst (v := 1) hC dX2_goesAhead_45 (by decide) ?_
        refine z_goto hC 50 dX2_goesAhead_46 (by decide) ?_
        obtain rfl := Option.some.inj h
        exact z_zret hC hE rfl dX2_goesAhead_50
  · rw [if_pos b1] at h
    refine z_iload_n hC dX2_goesAhead_4 rfl rfl ?_
    refine z_iload_n hC dX2_goesAhead_5 rfl rfl ?_
    refine z_icmp_ge hC 13 dX2_goesAhead_6 (by decide) (fun b23 => ?_) (fun b23 => ?_)
    · rw [if_pos b23] at h
      refine z_iconst (v := 0) hC dX2_goesAhead_13 (by decide) ?_
      obtain rfl := Option.some.inj h
      exact z_zret hC hE rfl dX2_goesAhead_14
    · rw [if_neg b23] at h
      refine z_iconst (v := 1) hC dX2_goesAhead_9 (by decide) ?_
      refine z_goto hC 14 dX2_goesAhead_10 (by decide) ?_
      obtain rfl := Option.some.inj h
      exact z_zret hC hE rfl dX2_goesAhead_14
theorem m_X2_goesAhead {l : Launch} {dC : Nat → ClassId} {dI : Nat → Nat → Nat} {dA : Nat → ClassId} {as : Nat → Nat} (hD : mDis as) (q0 : Nat) (hq0 : okX2 q0) (x1 : Int32) (x2 : Int32) (x3 : Int32) (u : MU) {r : Int32} {v : MU} (h : f_X2_goesAhead q0 x1 x2 x3 u = some (r, v)) : mMI l dC dI dA as yX2_goesAhead cX2_goesAhead 4 .boolean 0 0 [.ref (as q0), .int x1, .int x2, .int x3] u r v := mMIof RX2 [some (.ref (as q0)), some (.int x1), some (.int x2), some (.int x3)] hD (by decide +kernel) rfl (Nat.le_of_ble_eq_true rfl) rfl (fun C e1 e2 e3 e4 e5 hC hE => by subst e5; exact s_X2_goesAhead_0 hC (res := (r, v)) hE q0 hq0 x1 x2 x3 u h)
set_option maxHeartbeats 4000000 in
set_option maxRecDepth 100000 in
theorem s_X2_position_37 {C : mCtx} (hC : mOK cX2_position RX2 5 1 23 C) {res : Int32 × MU} (hE : mEndI C .int res.1 res.2) (q0 : Nat) (hq0 : okX2 q0) (x1 : Int32) (x2 : Int32) (k5 : Int32 → Int32 → MU → mR) (hk5 : ∀ (x3 : Int32) (x4 : Int32) (u : MU), k5 x3 x4 u = some res → wat C u 5 [some (.ref (cS C q0)), some (.int x1), some (.int x2), some (.int x3), some (.int x4)] []) (x3 : Int32) (x4 : Int32) (u : MU) (h : b_X2_position_37 k5 q0 x1 x2 x3 x4 u = some res) : wat C u 37 [some (.ref (cS C q0)), some (.int x1), some (.int x2), some (.int x3), some (.int x4)] [] := by
  unfold b_X2_position_37 at h
  refine y_iinc hC (x4 + 1) [some (.ref (cS C q0)), some (.int x1), some (.int x2), some (.int x3), some (.int (x4 + 1))] dX2_position_37 rfl rfl rfl (Nat.le_of_ble_eq_true rfl) rfl ?_
  refine z_goto hC 5 dX2_position_40 (by decide) ?_
  exact hk5 x3 (x4 + 1) u h
set_option maxHeartbeats 4000000 in
set_option maxRecDepth 100000 in
theorem s_X2_position_5 {C : mCtx} (hC : mOK cX2_position RX2 5 1 23 C) {res : Int32 × MU} (hE : mEndI C .int res.1 res.2) (q0 : Nat) (hq0 : okX2 q0) (x1 : Int32) (x2 : Int32) (k5 : Int32 → Int32 → MU → mR) (hk5 : ∀ (x3 : Int32) (x4 : Int32) (u : MU), k5 x3 x4 u = some res → wat C u 5 [some (.ref (cS C q0)), some (.int x1), some (.int x2), some (.int x3), some (.int x4)] []) (x3 : Int32) (x4 : Int32) (u : MU) (h : b_X2_position_5 k5 q0 x1 x2 x3 x4 u = some res) : wat C u 5 [some (.ref (cS C q0)), some (.int x1), some (.int x2), some (.int x3), some (.int x4)] [] := by
  unfold b_X2_position_5 at h
  refine z_iload hC dX2_position_5 rfl ?_
  refine z_aload_n hC dX2_position_7 rfl rfl ?_
  refine z_getR hC (q0 + 1) kF_X2_12 hq0.1 rfl dX2_position_8 ?_
  refine z_getI hC kF_X2_39 hq0.2.1.1 rfl dX2_position_11 ?_
  refine z_icmp_ge hC 43 dX2_position_14 (by decide) (fun b1 => ?_) (fun b1 => ?_)
  · rw [if_pos b1] at h
    refine z_iload_n hC dX2_position_43 rfl rfl ?_
    obtain rfl := Option.some.inj h
    exact z_iret hC hE dX2_position_44
  · rw [if_neg b1] at h
    refine z_iload hC dX2_position_17 rfl ?_
    refine z_iload_n hC dX2_position_19 rfl rfl ?_
    refine z_icmp_eq hC 37 dX2_position_20 (by decide) (fun b2 => ?_) (fun b2 => ?_)
    · rw [if_pos b2] at h
      exact s_X2_position_37 hC hE q0 hq0 x1 x2 k5 hk5 x3 x4 u h
    · rw [if_neg b2] at h
      refine z_aload_n hC dX2_position_23 rfl rfl ?_
      refine z_iload hC dX2_position_24 rfl ?_
      refine z_iload_n hC dX2_position_26 rfl rfl ?_
      refine z_iload_n hC dX2_position_27 rfl rfl ?_
      obtain ⟨r3, u3, c3, h⟩ := mB_some h
      refine z_callI hC kC_X2_goesAhead kM_X2_75 hq0.1 TX2 6 rfl (m_X2_goesAhead hC.dis q0 hq0 x4 x1 x2 u c3) rfl (Nat.le_of_ble_eq_true rfl) (Nat.le_of_ble_eq_true rfl) (Nat.le_of_ble_eq_true rfl) rfl dX2_position_28 ?_
      refine z_if_eq hC 37 dX2_position_31 (by decide) (fun b4 => ?_) (fun b4 => ?_)
      · rw [if_pos b4] at h
        exact s_X2_position_37 hC hE q0 hq0 x1 x2 k5 hk5 x3 x4 u3 h
      · rw [if_neg b4] at h
        refine y_iinc hC (x3 + 1) [some (.ref (cS C q0)), some (.int x1), some (.int x2), some (.int (x3 + 1)), some (.int x4)] dX2_position_34 rfl rfl rfl (Nat.le_of_ble_eq_true rfl) rfl ?_
        exact s_X2_position_37 hC hE q0 hq0 x1 x2 k5 hk5 (x3 + 1) x4 u3 h
set_option maxHeartbeats 4000000 in
set_option maxRecDepth 100000 in
theorem t_X2_position_5 {C : mCtx} (hC : mOK cX2_position RX2 5 1 23 C) {res : Int32 × MU} (hE : mEndI C .int res.1 res.2) (q0 : Nat) (hq0 : okX2 q0) (x1 : Int32) (x2 : Int32) : ∀ (n : Nat) (x3 : Int32) (x4 : Int32) (u : MU), l_X2_position_5 q0 x1 x2 n x3 x4 u = some res → wat C u 5 [some (.ref (cS C q0)), some (.int x1), some (.int x2), some (.int x3), some (.int x4)] [] := by
  intro n
  induction n with
  | zero => intro x3 x4 u h; exact absurd h (by simp [l_X2_position_5])
  | succ n ih =>
    intro x3 x4 u h
    exact s_X2_position_5 hC hE q0 hq0 x1 x2 (fun x3 x4 u => l_X2_position_5 q0 x1 x2 n x3 x4 u) ih x3 x4 u h
set_option maxHeartbeats 4000000 in
set_option maxRecDepth 100000 in
theorem s_X2_position_0 {C : mCtx} (hC : mOK cX2_position RX2 5 1 23 C) {res : Int32 × MU} (hE : mEndI C .int res.1 res.2) (q0 : Nat) (hq0 : okX2 q0) (x1 : Int32) (x2 : Int32) (u : MU) (h : f_X2_position q0 x1 x2 u = some res) : wat C u 0 [some (.ref (cS C q0)), some (.int x1), some (.int x2), none, none] [] := by
  unfold f_X2_position at h
  refine z_iconst (v := 0) hC dX2_position_0 (by decide) ?_
  refine y_istore_n hC [some (.ref (cS C q0)), some (.int x1), some (.int x2), some (.int 0), none] dX2_position_1 rfl rfl (Nat.le_of_ble_eq_true rfl) (Nat.le_of_ble_eq_true rfl) rfl ?_
  refine z_iconst (v := 0) hC dX2_position_2 (by decide) ?_
  refine y_istore hC [some (.ref (cS C q0)), some (.int x1), some (.int x2), some (.int 0), some (.int 0)] dX2_position_3 rfl (Nat.le_of_ble_eq_true rfl) (Nat.le_of_ble_eq_true rfl) rfl ?_
  exact t_X2_position_5 hC hE q0 hq0 x1 x2 FU 0 0 u h
theorem m_X2_position {l : Launch} {dC : Nat → ClassId} {dI : Nat → Nat → Nat} {dA : Nat → ClassId} {as : Nat → Nat} (hD : mDis as) (q0 : Nat) (hq0 : okX2 q0) (x1 : Int32) (x2 : Int32) (u : MU) {r : Int32} {v : MU} (h : f_X2_position q0 x1 x2 u = some (r, v)) : mMI l dC dI dA as yX2_position cX2_position 5 .int 1 23 [.ref (as q0), .int x1, .int x2] u r v := mMIof RX2 [some (.ref (as q0)), some (.int x1), some (.int x2), none, none] hD (by decide +kernel) rfl (Nat.le_of_ble_eq_true rfl) rfl (fun C e1 e2 e3 e4 e5 hC hE => by subst e5; exact s_X2_position_0 hC (res := (r, v)) hE q0 hq0 x1 x2 u h)
