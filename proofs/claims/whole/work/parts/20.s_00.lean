set_option maxHeartbeats 4000000 in
set_option maxRecDepth 100000 in
theorem s_X0_forget_0 {C : mCtx} (hC : mOK cX0_forget RX0 1 0 0 C) {res : Int32 × MU} (hE : mEndV C res.2) (u : MU) (h : f_X0_forget u = some res) : wat C u 0 [some (.ref (cS C 2))] [] := by
  unfold f_X0_forget at h
  refine z_aload_n hC dX0_forget_0 rfl rfl ?_
  refine z_iconst (v := 0) hC dX0_forget_1 (by decide) ?_
  obtain ⟨u1, e1, h⟩ := mS_some h
  refine y_putZ hC rfl kP_X0_28 sh_2 rfl dX0_forget_2 e1 ?_
  obtain rfl := Option.some.inj h
  exact z_vret hC hE dX0_forget_5
theorem m_X0_forget {l : Launch} {dC : Nat → ClassId} {dI : Nat → Nat → Nat} {dA : Nat → ClassId} {as : Nat → Nat} (hD : mDis as) (u : MU) {r : Int32} {v : MU} (h : f_X0_forget u = some (r, v)) : mMV l dC dI dA as yX0_forget cX0_forget 1 0 0 [.ref (as 2)] u v := mMVof RX0 [some (.ref (as 2))] hD (by decide +kernel) rfl (Nat.le_of_ble_eq_true rfl) rfl (fun C e1 e2 e3 e4 e5 hC hE => by subst e5; exact s_X0_forget_0 hC (res := (r, v)) hE u h)
set_option maxHeartbeats 4000000 in
set_option maxRecDepth 100000 in
theorem s_X5_calleeBits_33 {C : mCtx} (hC : mOK cX5_calleeBits RX5 3 0 0 C) {res : Int32 × MU} (hE : mEndI C .int res.1 res.2) (q0 : Nat) (hq0 : okX5 q0) (k4 : Int32 → Int32 → MU → mR) (hk4 : ∀ (x1 : Int32) (x2 : Int32) (u : MU), k4 x1 x2 u = some res → wat C u 4 [some (.ref (cS C q0)), some (.int x1), some (.int x2)] []) (x1 : Int32) (x2 : Int32) (u : MU) (h : b_X5_calleeBits_33 k4 q0 x1 x2 u = some res) : wat C u 33 [some (.ref (cS C q0)), some (.int x1), some (.int x2)] [] := by
  unfold b_X5_calleeBits_33 at h
  refine y_iinc hC (x2 + 1) [some (.ref (cS C q0)), some (.int x1), some (.int (x2 + 1))] dX5_calleeBits_33 rfl rfl rfl (Nat.le_of_ble_eq_true rfl) rfl ?_
  refine z_goto hC 4 dX5_calleeBits_36 (by decide) ?_
  exact hk4 x1 (x2 + 1) u h
set_option maxHeartbeats 4000000 in
set_option maxRecDepth 100000 in
theorem s_X5_calleeBits_4 {C : mCtx} (hC : mOK cX5_calleeBits RX5 3 0 0 C) {res : Int32 × MU} (hE : mEndI C .int res.1 res.2) (q0 : Nat) (hq0 : okX5 q0) (k4 : Int32 → Int32 → MU → mR) (hk4 : ∀ (x1 : Int32) (x2 : Int32) (u : MU), k4 x1 x2 u = some res → wat C u 4 [some (.ref (cS C q0)), some (.int x1), some (.int x2)] []) (x1 : Int32) (x2 : Int32) (u : MU) (h : b_X5_calleeBits_4 k4 q0 x1 x2 u = some res) : wat C u 4 [some (.ref (cS C q0)), some (.int x1), some (.int x2)] [] := by
  unfold b_X5_calleeBits_4 at h
  refine z_iload_n hC dX5_calleeBits_4 rfl rfl ?_
  refine z_aload_n hC dX5_calleeBits_5 rfl rfl ?_
  refine z_getI hC kF_X5_34 hq0.1 rfl dX5_calleeBits_6 ?_
  refine z_icmp_ge hC 39 dX5_calleeBits_9 (by decide) (fun b1 => ?_) (fun b1 => ?_)
  · rw [if_pos b1] at h
    refine z_iload_n hC dX5_calleeBits_39 rfl rfl ?_
    obtain rfl := Option.some.inj h
    exact z_iret hC hE dX5_calleeBits_40
  · rw [if_neg b1] at h
    refine z_aload_n hC dX5_calleeBits_12 rfl rfl ?_
    refine z_getR hC (q0 + 2) kF_X5_22 hq0.1 rfl dX5_calleeBits_13 ?_
    refine z_iload_n hC dX5_calleeBits_16 rfl rfl ?_
    obtain ⟨g2, h⟩ := gd_some h
    refine z_iald hC hq0.2.2.1 g2 dX5_calleeBits_17 ?_
    refine z_iconst (v := nI 3) hC dX5_calleeBits_18 (by decide) ?_
    refine z_icmp_ne hC 33 dX5_calleeBits_19 (by decide) (fun b3 => ?_) (fun b3 => ?_)
    · rw [if_neg b3] at h
      exact s_X5_calleeBits_33 hC hE q0 hq0 k4 hk4 x1 x2 u h
    · rw [if_pos b3] at h
      refine z_iload_n hC dX5_calleeBits_22 rfl rfl ?_
      refine z_iconst (v := 1) hC dX5_calleeBits_23 (by decide) ?_
      refine z_aload_n hC dX5_calleeBits_24 rfl rfl ?_
      refine z_getR hC (q0 + 4) kF_X5_28 hq0.1 rfl dX5_calleeBits_25 ?_
      refine z_iload_n hC dX5_calleeBits_28 rfl rfl ?_
      obtain ⟨g4, h⟩ := gd_some h
      refine z_iald hC hq0.2.2.2.2.1 g4 dX5_calleeBits_29 ?_
      refine z_ishl hC dX5_calleeBits_30 ?_
      refine z_ior hC dX5_calleeBits_31 ?_
      refine y_istore_n hC [some (.ref (cS C q0)), some (.int (x1 ||| (1 <<< ((u (q0 + 4) x2.toNatClampNeg) &&& 31)))), some (.int x2)] dX5_calleeBits_32 rfl rfl (Nat.le_of_ble_eq_true rfl) (Nat.le_of_ble_eq_true rfl) rfl ?_
      exact s_X5_calleeBits_33 hC hE q0 hq0 k4 hk4 (x1 ||| (1 <<< ((u (q0 + 4) x2.toNatClampNeg) &&& 31))) x2 u h
set_option maxHeartbeats 4000000 in
set_option maxRecDepth 100000 in
theorem t_X5_calleeBits_4 {C : mCtx} (hC : mOK cX5_calleeBits RX5 3 0 0 C) {res : Int32 × MU} (hE : mEndI C .int res.1 res.2) (q0 : Nat) (hq0 : okX5 q0) : ∀ (n : Nat) (x1 : Int32) (x2 : Int32) (u : MU), l_X5_calleeBits_4 q0 n x1 x2 u = some res → wat C u 4 [some (.ref (cS C q0)), some (.int x1), some (.int x2)] [] := by
  intro n
  induction n with
  | zero => intro x1 x2 u h; exact absurd h (by simp [l_X5_calleeBits_4])
  | succ n ih =>
    intro x1 x2 u h
    exact s_X5_calleeBits_4 hC hE q0 hq0 (fun x1 x2 u => l_X5_calleeBits_4 q0 n x1 x2 u) ih x1 x2 u h
set_option maxHeartbeats 4000000 in
set_option maxRecDepth 100000 in
theorem s_X5_calleeBits_0 {C : mCtx} (hC : mOK cX5_calleeBits RX5 3 0 0 C) {res : Int32 × MU} (hE : mEndI C .int res.1 res.2) (q0 : Nat) (hq0 : okX5 q0) (u : MU) (h : f_X5_calleeBits q0 u = some res) : wat C u 0 [some (.ref (cS C q0)), none, none] [] := by
  unfold f_X5_calleeBits at h
  refine z_iconst (v := 0) hC dX5_calleeBits_0 (by decide) ?_
  refine y_istore_n hC [some (.ref (cS C q0)), some (.int 0), none] dX5_calleeBits_1 rfl rfl (Nat.le_of_ble_eq_true rfl) (Nat.le_of_ble_eq_true rfl) rfl ?_
  refine z_iconst (v := 0) hC dX5_calleeBits_2 (by decide) ?_
  refine y_istore_n hC [some (.ref (cS C q0)), some (.int 0), some (.int 0)] dX5_calleeBits_3 rfl rfl (Nat.le_of_ble_eq_true rfl) (Nat.le_of_ble_eq_true rfl) rfl ?_
  exact t_X5_calleeBits_4 hC hE q0 hq0 FU 0 0 u h
theorem m_X5_calleeBits {l : Launch} {dC : Nat → ClassId} {dI : Nat → Nat → Nat} {dA : Nat → ClassId} {as : Nat → Nat} (hD : mDis as) (q0 : Nat) (hq0 : okX5 q0) (u : MU) {r : Int32} {v : MU} (h : f_X5_calleeBits q0 u = some (r, v)) : mMI l dC dI dA as yX5_calleeBits cX5_calleeBits 3 .int 0 0 [.ref (as q0)] u r v := mMIof RX5 [some (.ref (as q0)), none, none] hD (by decide +kernel) rfl (Nat.le_of_ble_eq_true rfl) rfl (fun C e1 e2 e3 e4 e5 hC hE => by subst e5; exact s_X5_calleeBits_0 hC (res := (r, v)) hE q0 hq0 u h)
set_option maxHeartbeats 4000000 in
set_option maxRecDepth 100000 in
theorem s_X0_knowsBits_28 {C : mCtx} (hC : mOK cX0_knowsBits RX0 3 0 0 C) {res : Int32 × MU} (hE : mEndI C .boolean res.1 res.2) (x1 : Int32) (k2 : Int32 → MU → mR) (hk2 : ∀ (x2 : Int32) (u : MU), k2 x2 u = some res → wat C u 2 [some (.ref (cS C 2)), some (.int x1), some (.int x2)] []) (x2 : Int32) (u : MU) (h : b_X0_knowsBits_28 k2 x1 x2 u = some res) : wat C u 28 [some (.ref (cS C 2)), some (.int x1), some (.int x2)] [] := by
  unfold b_X0_knowsBits_28 at h
  refine y_iinc hC (x2 + 1) [some (.ref (cS C 2)), some (.int x1), some (.int (x2 + 1))] dX0_knowsBits_28 rfl rfl rfl (Nat.le_of_ble_eq_true rfl) rfl ?_
  refine z_goto hC 2 dX0_knowsBits_31 (by decide) ?_
  exact hk2 (x2 + 1) u h
set_option maxHeartbeats 4000000 in
set_option maxRecDepth 100000 in
theorem s_X0_knowsBits_2 {C : mCtx} (hC : mOK cX0_knowsBits RX0 3 0 0 C) {res : Int32 × MU} (hE : mEndI C .boolean res.1 res.2) (x1 : Int32) (k2 : Int32 → MU → mR) (hk2 : ∀ (x2 : Int32) (u : MU), k2 x2 u = some res → wat C u 2 [some (.ref (cS C 2)), some (.int x1), some (.int x2)] []) (x2 : Int32) (u : MU) (h : b_X0_knowsBits_2 k2 x1 x2 u = some res) : wat C u 2 [some (.ref (cS C 2)), some (.int x1), some (.int x2)] [] := by
  unfold b_X0_knowsBits_2 at h
  refine z_iload_n hC dX0_knowsBits_2 rfl rfl ?_
  refine z_bipush (v := nI 6) hC dX0_knowsBits_3 (by decide) ?_
  refine z_icmp_ge hC 34 dX0_knowsBits_5 (by decide) (fun b1 => ?_) (fun b1 => ?_)
  · rw [if_pos b1] at h
    refine z_iconst (v := 1) hC dX0_knowsBits_34 (by decide) ?_
    obtain rfl := Option.some.inj h
    exact z_zret hC hE rfl dX0_knowsBits_35
  · rw [if_neg b1] at h
    refine z_iload_n hC dX0_knowsBits_8 rfl rfl ?_
    refine z_iload_n hC dX0_knowsBits_9 rfl rfl ?_
    refine z_ishr hC dX0_knowsBits_10 ?_
    refine z_iconst (v := 1) hC dX0_knowsBits_11 (by decide) ?_
    refine z_iand hC dX0_knowsBits_12 ?_
    refine z_iconst (v := 1) hC dX0_knowsBits_13 (by decide) ?_
    refine z_icmp_ne hC 28 dX0_knowsBits_14 (by decide) (fun b2 => ?_) (fun b2 => ?_)
    · rw [if_neg b2] at h
      exact s_X0_knowsBits_28 hC hE x1 k2 hk2 x2 u h
    · rw [if_pos b2] at h
      refine z_aload_n hC dX0_knowsBits_17 rfl rfl ?_
      refine z_getR hC 7 kF_X0_24 sh_2 rfl dX0_knowsBits_18 ?_
      refine z_iload_n hC dX0_knowsBits_21 rfl rfl ?_
      obtain ⟨g3, h⟩ := gd_some h
      refine z_zald hC sh_7 g3 dX0_knowsBits_22 ?_
      refine z_if_ne hC 28 dX0_knowsBits_23 (by decide) (fun b4 => ?_) (fun b4 => ?_)
      · rw [if_neg b4] at h
        exact s_X0_knowsBits_28 hC hE x1 k2 hk2 x2 u h
      · rw [if_pos b4] at h
        refine z_iconst (v := 0) hC dX0_knowsBits_26 (by decide) ?_
        obtain rfl := Option.some.inj h
        exact z_zret hC hE rfl dX0_knowsBits_27
set_option maxHeartbeats 4000000 in
set_option maxRecDepth 100000 in
theorem t_X0_knowsBits_2 {C : mCtx} (hC : mOK cX0_knowsBits RX0 3 0 0 C) {res : Int32 × MU} (hE : mEndI C .boolean res.1 res.2) (x1 : Int32) : ∀ (n : Nat) (x2 : Int32) (u : MU), l_X0_knowsBits_2 x1 n x2 u = some res → wat C u 2 [some (.ref (cS C 2)), some (.int x1), some (.int x2)] [] := by
  intro n
  induction n with
  | zero => intro x2 u h; exact absurd h (by simp [l_X0_knowsBits_2])
  | succ n ih =>
    intro x2 u h
    exact s_X0_knowsBits_2 hC hE x1 (fun x2 u => l_X0_knowsBits_2 x1 n x2 u) ih x2 u h
set_option maxHeartbeats 4000000 in
set_option maxRecDepth 100000 in
theorem s_X0_knowsBits_0 {C : mCtx} (hC : mOK cX0_knowsBits RX0 3 0 0 C) {res : Int32 × MU} (hE : mEndI C .boolean res.1 res.2) (x1 : Int32) (u : MU) (h : f_X0_knowsBits x1 u = some res) : wat C u 0 [some (.ref (cS C 2)), some (.int x1), none] [] := by
  unfold f_X0_knowsBits at h
  refine z_iconst (v := 0) hC dX0_knowsBits_0 (by decide) ?_
  refine y_istore_n hC [some (.ref (cS C 2)), some (.int x1), some (.int 0)] dX0_knowsBits_1 rfl rfl (Nat.le_of_ble_eq_true rfl) (Nat.le_of_ble_eq_true rfl) rfl ?_
  exact t_X0_knowsBits_2 hC hE x1 FU 0 u h
theorem m_X0_knowsBits {l : Launch} {dC : Nat → ClassId} {dI : Nat → Nat → Nat} {dA : Nat → ClassId} {as : Nat → Nat} (hD : mDis as) (x1 : Int32) (u : MU) {r : Int32} {v : MU} (h : f_X0_knowsBits x1 u = some (r, v)) : mMI l dC dI dA as yX0_knowsBits cX0_knowsBits 3 .boolean 0 0 [.ref (as 2), .int x1] u r v := mMIof RX0 [some (.ref (as 2)), some (.int x1), none] hD (by decide +kernel) rfl (Nat.le_of_ble_eq_true rfl) rfl (fun C e1 e2 e3 e4 e5 hC hE => by subst e5; exact s_X0_knowsBits_0 hC (res := (r, v)) hE x1 u h)
set_option maxHeartbeats 4000000 in
set_option maxRecDepth 100000 in
theorem s_X0_findKnown_29 {C : mCtx} (hC : mOK cX0_findKnown RX0 4 1 22 C) {res : Int32 × MU} (hE : mEndV C res.2) (k2 : Int32 → MU → mR) (hk2 : ∀ (x2 : Int32) (u : MU), k2 x2 u = some res → wat C u 2 [some (.ref (cS C 2)), some (.ref (cS C 1)), some (.int x2), none] []) (x2 : Int32) (s2 : Int32) (s1 : Int32) (u : MU) (h : b_X0_findKnown_29 k2 x2 s2 s1 u = some res) : wat C u 29 [some (.ref (cS C 2)), some (.ref (cS C 1)), some (.int x2), none] [(.int s2), (.int s1), (.ref (cS C 7))] := by
  unfold b_X0_findKnown_29 at h
  obtain ⟨g1, h⟩ := gd_some h
  obtain ⟨g2, h⟩ := gd_some h
  obtain ⟨u3, e3, h⟩ := mS_some h
  refine y_zast hC g1 sh_7 g2 dX0_findKnown_29 e3 ?_
  refine y_iinc hC (x2 + 1) [some (.ref (cS C 2)), some (.ref (cS C 1)), some (.int (x2 + 1)), none] dX0_findKnown_30 rfl rfl rfl (Nat.le_of_ble_eq_true rfl) rfl ?_
  refine z_goto hC 2 dX0_findKnown_33 (by decide) ?_
  exact hk2 (x2 + 1) u3 h
set_option maxHeartbeats 4000000 in
set_option maxRecDepth 100000 in
theorem s_X0_findKnown_84 {C : mCtx} (hC : mOK cX0_findKnown RX0 4 1 22 C) {res : Int32 × MU} (hE : mEndV C res.2) (k38 : Int32 → MU → mR) (hk38 : ∀ (x2 : Int32) (u : MU), k38 x2 u = some res → wat C u 38 [some (.ref (cS C 2)), some (.ref (cS C 1)), some (.int x2), none] []) (k46 : Int32 → Int32 → MU → mR) (hk46 : ∀ (x2 : Int32) (x3 : Int32) (u : MU), k46 x2 x3 u = some res → wat C u 46 [some (.ref (cS C 2)), some (.ref (cS C 1)), some (.int x2), some (.int x3)] []) (x2 : Int32) (x3 : Int32) (s2 : Int32) (s1 : Int32) (u : MU) (h : b_X0_findKnown_84 k38 k46 x2 x3 s2 s1 u = some res) : wat C u 84 [some (.ref (cS C 2)), some (.ref (cS C 1)), some (.int x2), some (.int x3)] [(.int s2), (.int s1), (.ref (cS C 7))] := by
  unfold b_X0_findKnown_84 at h
  obtain ⟨g1, h⟩ := gd_some h
  obtain ⟨g2, h⟩ := gd_some h
  obtain ⟨u3, e3, h⟩ := mS_some h
  refine y_zast hC g1 sh_7 g2 dX0_findKnown_84 e3 ?_
  refine y_iinc hC (x3 + 1) [some (.ref (cS C 2)), some (.ref (cS C 1)), some (.int x2), some (.int (x3 + 1))] dX0_findKnown_85 rfl rfl rfl (Nat.le_of_ble_eq_true rfl) rfl ?_
  refine z_goto hC 46 dX0_findKnown_88 (by decide) ?_
  exact hk46 x2 (x3 + 1) u3 h
set_option maxHeartbeats 4000000 in
set_option maxRecDepth 100000 in
theorem s_X0_findKnown_83 {C : mCtx} (hC : mOK cX0_findKnown RX0 4 1 22 C) {res : Int32 × MU} (hE : mEndV C res.2) (k38 : Int32 → MU → mR) (hk38 : ∀ (x2 : Int32) (u : MU), k38 x2 u = some res → wat C u 38 [some (.ref (cS C 2)), some (.ref (cS C 1)), some (.int x2), none] []) (k46 : Int32 → Int32 → MU → mR) (hk46 : ∀ (x2 : Int32) (x3 : Int32) (u : MU), k46 x2 x3 u = some res → wat C u 46 [some (.ref (cS C 2)), some (.ref (cS C 1)), some (.int x2), some (.int x3)] []) (x2 : Int32) (x3 : Int32) (s1 : Int32) (u : MU) (h : b_X0_findKnown_83 k38 k46 x2 x3 s1 u = some res) : wat C u 83 [some (.ref (cS C 2)), some (.ref (cS C 1)), some (.int x2), some (.int x3)] [(.int s1), (.ref (cS C 7))] := by
  unfold b_X0_findKnown_83 at h
  refine z_iconst (v := 0) hC dX0_findKnown_83 (by decide) ?_
  exact s_X0_findKnown_84 hC hE k38 hk38 k46 hk46 x2 x3 0 s1 u h
set_option maxHeartbeats 4000000 in
set_option maxRecDepth 100000 in
theorem s_X0_findKnown_46 {C : mCtx} (hC : mOK cX0_findKnown RX0 4 1 22 C) {res : Int32 × MU} (hE : mEndV C res.2) (k38 : Int32 → MU → mR) (hk38 : ∀ (x2 : Int32) (u : MU), k38 x2 u = some res → wat C u 38 [some (.ref (cS C 2)), some (.ref (cS C 1)), some (.int x2), none] []) (k46 : Int32 → Int32 → MU → mR) (hk46 : ∀ (x2 : Int32) (x3 : Int32) (u : MU), k46 x2 x3 u = some res → wat C u 46 [some (.ref (cS C 2)), some (.ref (cS C 1)), some (.int x2), some (.int x3)] []) (x2 : Int32) (x3 : Int32) (u : MU) (h : b_X0_findKnown_46 k38 k46 x2 x3 u = some res) : wat C u 46 [some (.ref (cS C 2)), some (.ref (cS C 1)), some (.int x2), some (.int x3)] [] := by
  unfold b_X0_findKnown_46 at h
  refine z_iload_n hC dX0_findKnown_46 rfl rfl ?_
  refine z_bipush (v := nI 6) hC dX0_findKnown_47 (by decide) ?_
  refine z_icmp_ge hC 91 dX0_findKnown_49 (by decide) (fun b1 => ?_) (fun b1 => ?_)
  · rw [if_pos b1] at h
    refine y_iinc hC (x2 + 1) [some (.ref (cS C 2)), some (.ref (cS C 1)), some (.int (x2 + 1)), some (.int x3)] dX0_findKnown_91 rfl rfl rfl (Nat.le_of_ble_eq_true rfl) rfl ?_
    refine z_goto hC 38 dX0_findKnown_94 (by decide) ?_
    refine z_mask [true, true, true, false] ?_
    exact hk38 (x2 + 1) u h
  · rw [if_neg b1] at h
    refine z_aload_n hC dX0_findKnown_52 rfl rfl ?_
    refine z_getR hC 7 kF_X0_24 sh_2 rfl dX0_findKnown_53 ?_
    refine z_iload_n hC dX0_findKnown_56 rfl rfl ?_
    refine z_aload_n hC dX0_findKnown_57 rfl rfl ?_
    refine z_getR hC 7 kF_X0_24 sh_2 rfl dX0_findKnown_58 ?_
    refine z_iload_n hC dX0_findKnown_61 rfl rfl ?_
    obtain ⟨g2, h⟩ := gd_some h
    refine z_zald hC sh_7 g2 dX0_findKnown_62 ?_
    refine z_if_eq hC 83 dX0_findKnown_63 (by decide) (fun b3 => ?_) (fun b3 => ?_)
    · rw [if_pos b3] at h
      exact s_X0_findKnown_83 hC hE k38 hk38 k46 hk46 x2 x3 x3 u h
    · rw [if_neg b3] at h
      refine z_aload_n hC dX0_findKnown_66 rfl rfl ?_
      refine z_aload_n hC dX0_findKnown_67 rfl rfl ?_
      refine z_iload_n hC dX0_findKnown_68 rfl rfl ?_
      obtain ⟨g4, h⟩ := gd_some h
      refine z_aald hC (rtn x3) sh_1 (fun _ => rfl) g4 (rtn_at g4) dX0_findKnown_69 ?_
      obtain ⟨r5, u5, c5, h⟩ := mB_some h
      refine z_callI hC kC_X5_calleeBits kM_X0_65 (rtn_ok g4).1 TX5 12 rfl (m_X5_calleeBits hC.dis (rtn x3) ((rtn_ok g4)) u c5) rfl (Nat.le_of_ble_eq_true rfl) (Nat.le_of_ble_eq_true rfl) (Nat.le_of_ble_eq_true rfl) rfl dX0_findKnown_70 ?_
      obtain ⟨r6, u6, c6, h⟩ := mB_some h
      refine z_callI hC kC_X0_knowsBits kM_X0_69 sh_2 TX0 6 rfl (m_X0_knowsBits hC.dis r5 u5 c6) rfl (Nat.le_of_ble_eq_true rfl) (Nat.le_of_ble_eq_true rfl) (Nat.le_of_ble_eq_true rfl) rfl dX0_findKnown_73 ?_
      refine z_if_eq hC 83 dX0_findKnown_76 (by decide) (fun b7 => ?_) (fun b7 => ?_)
      · rw [if_pos b7] at h
        exact s_X0_findKnown_83 hC hE k38 hk38 k46 hk46 x2 x3 x3 u6 h
      · rw [if_neg b7] at h
        refine z_iconst (v := 1) hC dX0_findKnown_79 (by decide) ?_
        refine z_goto hC 84 dX0_findKnown_80 (by decide) ?_
        exact s_X0_findKnown_84 hC hE k38 hk38 k46 hk46 x2 x3 1 x3 u6 h
set_option maxHeartbeats 4000000 in
set_option maxRecDepth 100000 in
theorem t_X0_findKnown_46 {C : mCtx} (hC : mOK cX0_findKnown RX0 4 1 22 C) {res : Int32 × MU} (hE : mEndV C res.2) (k38 : Int32 → MU → mR) (hk38 : ∀ (x2 : Int32) (u : MU), k38 x2 u = some res → wat C u 38 [some (.ref (cS C 2)), some (.ref (cS C 1)), some (.int x2), none] []) : ∀ (n : Nat) (x2 : Int32) (x3 : Int32) (u : MU), l_X0_findKnown_46 k38 n x2 x3 u = some res → wat C u 46 [some (.ref (cS C 2)), some (.ref (cS C 1)), some (.int x2), some (.int x3)] [] := by
  intro n
  induction n with
  | zero => intro x2 x3 u h; exact absurd h (by simp [l_X0_findKnown_46])
  | succ n ih =>
    intro x2 x3 u h
    exact s_X0_findKnown_46 hC hE k38 hk38 (fun x2 x3 u => l_X0_findKnown_46 k38 n x2 x3 u) ih x2 x3 u h
set_option maxHeartbeats 4000000 in
set_option maxRecDepth 100000 in
theorem s_X0_findKnown_38 {C : mCtx} (hC : mOK cX0_findKnown RX0 4 1 22 C) {res : Int32 × MU} (hE : mEndV C res.2) (k38 : Int32 → MU → mR) (hk38 : ∀ (x2 : Int32) (u : MU), k38 x2 u = some res → wat C u 38 [some (.ref (cS C 2)), some (.ref (cS C 1)), some (.int x2), none] []) (x2 : Int32) (u : MU) (h : b_X0_findKnown_38 k38 x2 u = some res) : wat C u 38 [some (.ref (cS C 2)), some (.ref (cS C 1)), some (.int x2), none] [] := by
  unfold b_X0_findKnown_38 at h
  refine z_iload_n hC dX0_findKnown_38 rfl rfl ?_
  refine z_bipush (v := nI 6) hC dX0_findKnown_39 (by decide) ?_
  refine z_icmp_ge hC 97 dX0_findKnown_41 (by decide) (fun b1 => ?_) (fun b1 => ?_)
  · rw [if_pos b1] at h
    obtain rfl := Option.some.inj h
    exact z_vret hC hE dX0_findKnown_97
  · rw [if_neg b1] at h
    refine z_iconst (v := 0) hC dX0_findKnown_44 (by decide) ?_
    refine y_istore_n hC [some (.ref (cS C 2)), some (.ref (cS C 1)), some (.int x2), some (.int 0)] dX0_findKnown_45 rfl rfl (Nat.le_of_ble_eq_true rfl) (Nat.le_of_ble_eq_true rfl) rfl ?_
    exact t_X0_findKnown_46 hC hE k38 hk38 FU x2 0 u h
set_option maxHeartbeats 4000000 in
set_option maxRecDepth 100000 in
theorem t_X0_findKnown_38 {C : mCtx} (hC : mOK cX0_findKnown RX0 4 1 22 C) {res : Int32 × MU} (hE : mEndV C res.2) : ∀ (n : Nat) (x2 : Int32) (u : MU), l_X0_findKnown_38 n x2 u = some res → wat C u 38 [some (.ref (cS C 2)), some (.ref (cS C 1)), some (.int x2), none] [] := by
  intro n
  induction n with
  | zero => intro x2 u h; exact absurd h (by simp [l_X0_findKnown_38])
  | succ n ih =>
    intro x2 u h
    exact s_X0_findKnown_38 hC hE (fun x2 u => l_X0_findKnown_38 n x2 u) ih x2 u h
set_option maxHeartbeats 4000000 in
set_option maxRecDepth 100000 in
theorem s_X0_findKnown_2 {C : mCtx} (hC : mOK cX0_findKnown RX0 4 1 22 C) {res : Int32 × MU} (hE : mEndV C res.2) (k2 : Int32 → MU → mR) (hk2 : ∀ (x2 : Int32) (u : MU), k2 x2 u = some res → wat C u 2 [some (.ref (cS C 2)), some (.ref (cS C 1)), some (.int x2), none] []) (x2 : Int32) (u : MU) (h : b_X0_findKnown_2 k2 x2 u = some res) : wat C u 2 [some (.ref (cS C 2)), some (.ref (cS C 1)), some (.int x2), none] [] := by
  unfold b_X0_findKnown_2 at h
  refine z_iload_n hC dX0_findKnown_2 rfl rfl ?_
  refine z_bipush (v := nI 6) hC dX0_findKnown_3 (by decide) ?_
  refine z_icmp_ge hC 36 dX0_findKnown_5 (by decide) (fun b1 => ?_) (fun b1 => ?_)
  · rw [if_pos b1] at h
    refine z_iconst (v := 0) hC dX0_findKnown_36 (by decide) ?_
    refine y_istore_n hC [some (.ref (cS C 2)), some (.ref (cS C 1)), some (.int 0), none] dX0_findKnown_37 rfl rfl (Nat.le_of_ble_eq_true rfl) (Nat.le_of_ble_eq_true rfl) rfl ?_
    exact t_X0_findKnown_38 hC hE FU 0 u h
  · rw [if_neg b1] at h
    refine z_aload_n hC dX0_findKnown_8 rfl rfl ?_
    refine z_getR hC 7 kF_X0_24 sh_2 rfl dX0_findKnown_9 ?_
    refine z_iload_n hC dX0_findKnown_12 rfl rfl ?_
    refine z_aload_n hC dX0_findKnown_13 rfl rfl ?_
    refine z_iload_n hC dX0_findKnown_14 rfl rfl ?_
    obtain ⟨g2, h⟩ := gd_some h
    refine z_aald hC (rtn x2) sh_1 (fun _ => rfl) g2 (rtn_at g2) dX0_findKnown_15 ?_
    refine z_getI hC kF_X0_60 (rtn_ok g2).1 rfl dX0_findKnown_16 ?_
    refine z_bipush (v := (-6)) hC dX0_findKnown_19 (by decide) ?_
    refine z_icmp_ne hC 28 dX0_findKnown_21 (by decide) (fun b3 => ?_) (fun b3 => ?_)
    · rw [if_neg b3] at h
      refine z_iconst (v := 0) hC dX0_findKnown_28 (by decide) ?_
      exact s_X0_findKnown_29 hC hE k2 hk2 x2 0 x2 u h
    · rw [if_pos b3] at h
      refine z_iconst (v := 1) hC dX0_findKnown_24 (by decide) ?_
      refine z_goto hC 29 dX0_findKnown_25 (by decide) ?_
      exact s_X0_findKnown_29 hC hE k2 hk2 x2 1 x2 u h
set_option maxHeartbeats 4000000 in
set_option maxRecDepth 100000 in
theorem t_X0_findKnown_2 {C : mCtx} (hC : mOK cX0_findKnown RX0 4 1 22 C) {res : Int32 × MU} (hE : mEndV C res.2) : ∀ (n : Nat) (x2 : Int32) (u : MU), l_X0_findKnown_2 n x2 u = some res → wat C u 2 [some (.ref (cS C 2)), some (.ref (cS C 1)), some (.int x2), none] [] := by
  intro n
  induction n with
  | zero => intro x2 u h; exact absurd h (by simp [l_X0_findKnown_2])
  | succ n ih =>
    intro x2 u h
    exact s_X0_findKnown_2 hC hE (fun x2 u => l_X0_findKnown_2 n x2 u) ih x2 u h
set_option maxHeartbeats 4000000 in
set_option maxRecDepth 100000 in
theorem s_X0_findKnown_0 {C : mCtx} (hC : mOK cX0_findKnown RX0 4 1 22 C) {res : Int32 × MU} (hE : mEndV C res.2) (u : MU) (h : f_X0_findKnown u = some res) : wat C u 0 [some (.ref (cS C 2)), some (.ref (cS C 1)), none, none] [] := by
  unfold f_X0_findKnown at h
  refine z_iconst (v := 0) hC dX0_findKnown_0 (by decide) ?_
  refine y_istore_n hC [some (.ref (cS C 2)), some (.ref (cS C 1)), some (.int 0), none] dX0_findKnown_1 rfl rfl (Nat.le_of_ble_eq_true rfl) (Nat.le_of_ble_eq_true rfl) rfl ?_
  exact t_X0_findKnown_2 hC hE FU 0 u h
theorem m_X0_findKnown {l : Launch} {dC : Nat → ClassId} {dI : Nat → Nat → Nat} {dA : Nat → ClassId} {as : Nat → Nat} (hD : mDis as) (u : MU) {r : Int32} {v : MU} (h : f_X0_findKnown u = some (r, v)) : mMV l dC dI dA as yX0_findKnown cX0_findKnown 4 1 22 [.ref (as 2), .ref (as 1)] u v := mMVof RX0 [some (.ref (as 2)), some (.ref (as 1)), none, none] hD (by decide +kernel) rfl (Nat.le_of_ble_eq_true rfl) rfl (fun C e1 e2 e3 e4 e5 hC hE => by subst e5; exact s_X0_findKnown_0 hC (res := (r, v)) hE u h)
set_option maxHeartbeats 4000000 in
set_option maxRecDepth 100000 in
theorem s_X6_placeOf_0 {C : mCtx} (hC : mOK cX6_placeOf RX6 2 0 0 C) {res : Int32 × MU} (hE : mEndI C .int res.1 res.2) (x0 : Int32) (x1 : Int32) (u : MU) (h : f_X6_placeOf x0 x1 u = some res) : wat C u 0 [some (.int x0), some (.int x1)] [] := by
  unfold f_X6_placeOf at h
  refine z_iload_n hC dX6_placeOf_0 rfl rfl ?_
  refine z_bipush (v := nI 18) hC dX6_placeOf_1 (by decide) ?_
  refine z_icmp_ge hC 10 dX6_placeOf_3 (by decide) (fun b1 => ?_) (fun b1 => ?_)
  · rw [if_pos b1] at h
    refine z_bipush (v := nI 6) hC dX6_placeOf_10 (by decide) ?_
    refine z_iload_n hC dX6_placeOf_12 rfl rfl ?_
    refine z_bipush (v := nI 18) hC dX6_placeOf_13 (by decide) ?_
    refine z_isub hC dX6_placeOf_15 ?_
    refine z_iload_n hC dX6_placeOf_16 rfl rfl ?_
    refine z_iadd hC dX6_placeOf_17 ?_
    refine z_bipush (v := nI 12) hC dX6_placeOf_18 (by decide) ?_
    refine y_irem hC dX6_placeOf_20 (by decide) ?_
    refine z_iadd hC dX6_placeOf_21 ?_
    obtain rfl := Option.some.inj h
    exact z_iret hC hE dX6_placeOf_22
  · rw [if_neg b1] at h
    refine z_iload_n hC dX6_placeOf_6 rfl rfl ?_
    refine z_goto hC 22 dX6_placeOf_7 (by decide) ?_
    obtain rfl := Option.some.inj h
    exact z_iret hC hE dX6_placeOf_22
theorem m_X6_placeOf {l : Launch} {dC : Nat → ClassId} {dI : Nat → Nat → Nat} {dA : Nat → ClassId} {as : Nat → Nat} (hD : mDis as) (x0 : Int32) (x1 : Int32) (u : MU) {r : Int32} {v : MU} (h : f_X6_placeOf x0 x1 u = some (r, v)) : mMI l dC dI dA as yX6_placeOf cX6_placeOf 2 .int 0 0 [.int x0, .int x1] u r v := mMIof RX6 [some (.int x0), some (.int x1)] hD (by decide +kernel) rfl (Nat.le_of_ble_eq_true rfl) rfl (fun C e1 e2 e3 e4 e5 hC hE => by subst e5; exact s_X6_placeOf_0 hC (res := (r, v)) hE x0 x1 u h)
set_option maxHeartbeats 4000000 in
set_option maxRecDepth 100000 in
theorem s_X0_startWithOwn_165 {C : mCtx} (hC : mOK cX0_startWithOwn RX0 7 1 21 C) {res : Int32 × MU} (hE : mEndV C res.2) (q1 : Nat) (hq1 : okX5 q1) (x3 : Int32) (k53 : Int32 → Int32 → MU → mR) (hk53 : ∀ (x4 : Int32) (x5 : Int32) (u : MU), k53 x4 x5 u = some res → wat C u 53 [some (.ref (cS C 2)), some (.ref (cS C q1)), none, some (.int x3), some (.int x4), some (.int x5), none] []) (x4 : Int32) (x5 : Int32) (u : MU) (h : b_X0_startWithOwn_165 k53 q1 x3 x4 x5 u = some res) : wat C u 165 [some (.ref (cS C 2)), some (.ref (cS C q1)), none, some (.int x3), some (.int x4), some (.int x5), none] [] := by
  unfold b_X0_startWithOwn_165 at h
  refine y_iinc hC (x5 + 1) [some (.ref (cS C 2)), some (.ref (cS C q1)), none, some (.int x3), some (.int x4), some (.int (x5 + 1)), none] dX0_startWithOwn_165 rfl rfl rfl (Nat.le_of_ble_eq_true rfl) rfl ?_
  refine z_goto hC 53 dX0_startWithOwn_168 (by decide) ?_
  exact hk53 x4 (x5 + 1) u h
set_option maxHeartbeats 4000000 in
set_option maxRecDepth 100000 in
theorem s_X0_startWithOwn_217 {C : mCtx} (hC : mOK cX0_startWithOwn RX0 7 1 21 C) {res : Int32 × MU} (hE : mEndV C res.2) (q1 : Nat) (hq1 : okX5 q1) (x3 : Int32) (k174 : Int32 → Int32 → MU → mR) (hk174 : ∀ (x4 : Int32) (x5 : Int32) (u : MU), k174 x4 x5 u = some res → wat C u 174 [some (.ref (cS C 2)), some (.ref (cS C q1)), none, some (.int x3), some (.int x4), some (.int x5), none] []) (x4 : Int32) (x5 : Int32) (u : MU) (h : b_X0_startWithOwn_217 k174 q1 x3 x4 x5 u = some res) : wat C u 217 [some (.ref (cS C 2)), some (.ref (cS C q1)), none, some (.int x3), some (.int x4), some (.int x5), none] [] := by
  unfold b_X0_startWithOwn_217 at h
  refine y_iinc hC (x5 + 1) [some (.ref (cS C 2)), some (.ref (cS C q1)), none, some (.int x3), some (.int x4), some (.int (x5 + 1)), none] dX0_startWithOwn_217 rfl rfl rfl (Nat.le_of_ble_eq_true rfl) rfl ?_
  refine z_goto hC 174 dX0_startWithOwn_220 (by decide) ?_
  exact hk174 x4 (x5 + 1) u h
set_option maxHeartbeats 4000000 in
set_option maxRecDepth 100000 in
theorem s_X0_startWithOwn_174 {C : mCtx} (hC : mOK cX0_startWithOwn RX0 7 1 21 C) {res : Int32 × MU} (hE : mEndV C res.2) (q1 : Nat) (hq1 : okX5 q1) (x3 : Int32) (k174 : Int32 → Int32 → MU → mR) (hk174 : ∀ (x4 : Int32) (x5 : Int32) (u : MU), k174 x4 x5 u = some res → wat C u 174 [some (.ref (cS C 2)), some (.ref (cS C q1)), none, some (.int x3), some (.int x4), some (.int x5), none] []) (x4 : Int32) (x5 : Int32) (u : MU) (h : b_X0_startWithOwn_174 k174 q1 x3 x4 x5 u = some res) : wat C u 174 [some (.ref (cS C 2)), some (.ref (cS C q1)), none, some (.int x3), some (.int x4), some (.int x5), none] [] := by
  unfold b_X0_startWithOwn_174 at h
  refine z_iload hC dX0_startWithOwn_174 rfl ?_
  refine z_aload_n hC dX0_startWithOwn_176 rfl rfl ?_
  refine z_getI hC kF_X0_86 hq1.1 rfl dX0_startWithOwn_177 ?_
  refine z_icmp_ge hC 223 dX0_startWithOwn_180 (by decide) (fun b1 => ?_) (fun b1 => ?_)
  · rw [if_pos b1] at h
    obtain rfl := Option.some.inj h
    exact z_vret hC hE dX0_startWithOwn_223
  · rw [if_neg b1] at h
    refine z_aload_n hC dX0_startWithOwn_183 rfl rfl ?_
    refine z_getR hC (q1 + 6) kF_X0_89 hq1.1 rfl dX0_startWithOwn_184 ?_
    refine z_iload hC dX0_startWithOwn_187 rfl ?_
    obtain ⟨g2, h⟩ := gd_some h
    refine z_iald hC hq1.2.2.2.2.2.2.1 g2 dX0_startWithOwn_189 ?_
    refine z_iconst (v := nI 2) hC dX0_startWithOwn_190 (by decide) ?_
    refine z_icmp_ne hC 217 dX0_startWithOwn_191 (by decide) (fun b3 => ?_) (fun b3 => ?_)
    · rw [if_neg b3] at h
      exact s_X0_startWithOwn_217 hC hE q1 hq1 x3 k174 hk174 x4 x5 u h
    · rw [if_pos b3] at h
      refine z_aload_n hC dX0_startWithOwn_194 rfl rfl ?_
      refine z_getR hC 3 kF_X0_11 sh_2 rfl dX0_startWithOwn_195 ?_
      refine z_iload hC dX0_startWithOwn_198 rfl ?_
      refine z_dup2 hC dX0_startWithOwn_200 rfl rfl ?_
      obtain ⟨g4, h⟩ := gd_some h
      refine z_iald hC sh_3 g4 dX0_startWithOwn_201 ?_
      refine z_iconst (v := 1) hC dX0_startWithOwn_202 (by decide) ?_
      refine z_aload_n hC dX0_startWithOwn_203 rfl rfl ?_
      refine z_getR hC (q1 + 7) kF_X0_92 hq1.1 rfl dX0_startWithOwn_204 ?_
      refine z_iload hC dX0_startWithOwn_207 rfl ?_
      obtain ⟨g5, h⟩ := gd_some h
      refine z_iald hC hq1.2.2.2.2.2.2.2 g5 dX0_startWithOwn_209 ?_
      refine z_iload_n hC dX0_startWithOwn_210 rfl rfl ?_
      obtain ⟨r6, u6, c6, h⟩ := mB_some h
      refine z_callNI hC kC_X6_placeOf kM_X0_79 (m_X6_placeOf hC.dis (u (q1 + 7) x5.toNatClampNeg) x3 u c6) rfl (Nat.le_of_ble_eq_true rfl) (Nat.le_of_ble_eq_true rfl) (Nat.le_of_ble_eq_true rfl) rfl dX0_startWithOwn_211 ?_
      refine z_ishl hC dX0_startWithOwn_214 ?_
      refine z_ior hC dX0_startWithOwn_215 ?_
      obtain ⟨g7, h⟩ := gd_some h
      obtain ⟨u8, e8, h⟩ := mS_some h
      refine y_iast hC sh_3 g7 dX0_startWithOwn_216 e8 ?_
      exact s_X0_startWithOwn_217 hC hE q1 hq1 x3 k174 hk174 x4 x5 u8 h
set_option maxHeartbeats 4000000 in
set_option maxRecDepth 100000 in
theorem t_X0_startWithOwn_174 {C : mCtx} (hC : mOK cX0_startWithOwn RX0 7 1 21 C) {res : Int32 × MU} (hE : mEndV C res.2) (q1 : Nat) (hq1 : okX5 q1) (x3 : Int32) : ∀ (n : Nat) (x4 : Int32) (x5 : Int32) (u : MU), l_X0_startWithOwn_174 q1 x3 n x4 x5 u = some res → wat C u 174 [some (.ref (cS C 2)), some (.ref (cS C q1)), none, some (.int x3), some (.int x4), some (.int x5), none] [] := by
  intro n
  induction n with
  | zero => intro x4 x5 u h; exact absurd h (by simp [l_X0_startWithOwn_174])
  | succ n ih =>
    intro x4 x5 u h
    exact s_X0_startWithOwn_174 hC hE q1 hq1 x3 (fun x4 x5 u => l_X0_startWithOwn_174 q1 x3 n x4 x5 u) ih x4 x5 u h
set_option maxHeartbeats 4000000 in
set_option maxRecDepth 100000 in
theorem s_X0_startWithOwn_53 {C : mCtx} (hC : mOK cX0_startWithOwn RX0 7 1 21 C) {res : Int32 × MU} (hE : mEndV C res.2) (q1 : Nat) (hq1 : okX5 q1) (x3 : Int32) (k53 : Int32 → Int32 → MU → mR) (hk53 : ∀ (x4 : Int32) (x5 : Int32) (u : MU), k53 x4 x5 u = some res → wat C u 53 [some (.ref (cS C 2)), some (.ref (cS C q1)), none, some (.int x3), some (.int x4), some (.int x5), none] []) (x4 : Int32) (x5 : Int32) (u : MU) (h : b_X0_startWithOwn_53 k53 q1 x3 x4 x5 u = some res) : wat C u 53 [some (.ref (cS C 2)), some (.ref (cS C q1)), none, some (.int x3), some (.int x4), some (.int x5), none] [] := by
  unfold b_X0_startWithOwn_53 at h
  refine z_iload hC dX0_startWithOwn_53 rfl ?_
  refine z_aload_n hC dX0_startWithOwn_55 rfl rfl ?_
  refine z_getI hC kF_X0_73 hq1.1 rfl dX0_startWithOwn_56 ?_
  refine z_icmp_ge hC 171 dX0_startWithOwn_59 (by decide) (fun b1 => ?_) (fun b1 => ?_)
  · rw [if_pos b1] at h
    refine z_iconst (v := 0) hC dX0_startWithOwn_171 (by decide) ?_
    refine y_istore hC [some (.ref (cS C 2)), some (.ref (cS C q1)), none, some (.int x3), some (.int x4), some (.int 0), none] dX0_startWithOwn_172 rfl (Nat.le_of_ble_eq_true rfl) (Nat.le_of_ble_eq_true rfl) rfl ?_
    exact t_X0_startWithOwn_174 hC hE q1 hq1 x3 FU x4 0 u h
  · rw [if_neg b1] at h
    refine z_iconst (v := 1) hC dX0_startWithOwn_62 (by decide) ?_
    refine z_aload_n hC dX0_startWithOwn_63 rfl rfl ?_
    refine z_getR hC (q1 + 3) kF_X0_76 hq1.1 rfl dX0_startWithOwn_64 ?_
    refine z_iload hC dX0_startWithOwn_67 rfl ?_
    obtain ⟨g2, h⟩ := gd_some h
    refine z_iald hC hq1.2.2.2.1 g2 dX0_startWithOwn_69 ?_
    refine z_iload_n hC dX0_startWithOwn_70 rfl rfl ?_
    obtain ⟨r3, u3, c3, h⟩ := mB_some h
    refine z_callNI hC kC_X6_placeOf kM_X0_79 (m_X6_placeOf hC.dis (u (q1 + 3) x5.toNatClampNeg) x3 u c3) rfl (Nat.le_of_ble_eq_true rfl) (Nat.le_of_ble_eq_true rfl) (Nat.le_of_ble_eq_true rfl) rfl dX0_startWithOwn_71 ?_
    refine z_ishl hC dX0_startWithOwn_74 ?_
    refine y_istore hC [some (.ref (cS C 2)), some (.ref (cS C q1)), none, some (.int x3), some (.int x4), some (.int x5), some (.int (1 <<< (r3 &&& 31)))] dX0_startWithOwn_75 rfl (Nat.le_of_ble_eq_true rfl) (Nat.le_of_ble_eq_true rfl) rfl ?_
    refine z_aload_n hC dX0_startWithOwn_77 rfl rfl ?_
    refine z_getR hC (q1 + 2) kF_X0_83 hq1.1 rfl dX0_startWithOwn_78 ?_
    refine z_iload hC dX0_startWithOwn_81 rfl ?_
    obtain ⟨g4, h⟩ := gd_some h
    refine z_iald hC hq1.2.2.1 g4 dX0_startWithOwn_83 ?_
    by_cases b5 : (u3 (q1 + 2) x5.toNatClampNeg) = 0
    · rw [if_pos b5] at h
      refine z_tin hC 112 dX0_startWithOwn_84 (0) b5 (by decide) (by decide) rfl (by decide) ?_
      refine z_aload_n hC dX0_startWithOwn_112 rfl rfl ?_
      refine z_getR hC 4 kF_X0_15 sh_2 rfl dX0_startWithOwn_113 ?_
      refine z_iload hC dX0_startWithOwn_116 rfl ?_
      refine z_dup2 hC dX0_startWithOwn_118 rfl rfl ?_
      obtain ⟨g6, h⟩ := gd_some h
      refine z_iald hC sh_4 g6 dX0_startWithOwn_119 ?_
      refine z_iload hC dX0_startWithOwn_120 rfl ?_
      refine z_ior hC dX0_startWithOwn_122 ?_
      obtain ⟨g7, h⟩ := gd_some h
      obtain ⟨u8, e8, h⟩ := mS_some h
      refine y_iast hC sh_4 g7 dX0_startWithOwn_123 e8 ?_
      refine z_goto hC 165 dX0_startWithOwn_124 (by decide) ?_
      refine z_mask [true, true, false, true, true, true, false] ?_
      exact s_X0_startWithOwn_165 hC hE q1 hq1 x3 k53 hk53 x4 x5 u8 h
    · rw [if_neg b5] at h
      by_cases b9 : (u3 (q1 + 2) x5.toNatClampNeg) = 1
      · rw [if_pos b9] at h
        refine z_tin hC 127 dX0_startWithOwn_84 (1) b9 (by decide) (by decide) rfl (by decide) ?_
        refine z_aload_n hC dX0_startWithOwn_127 rfl rfl ?_
        refine z_getR hC 5 kF_X0_18 sh_2 rfl dX0_startWithOwn_128 ?_
        refine z_iload hC dX0_startWithOwn_131 rfl ?_
        refine z_dup2 hC dX0_startWithOwn_133 rfl rfl ?_
        obtain ⟨g10, h⟩ := gd_some h
        refine z_iald hC sh_5 g10 dX0_startWithOwn_134 ?_
        refine z_iload hC dX0_startWithOwn_135 rfl ?_
        refine z_ior hC dX0_startWithOwn_137 ?_
        obtain ⟨g11, h⟩ := gd_some h
        obtain ⟨u12, e12, h⟩ := mS_some h
        refine y_iast hC sh_5 g11 dX0_startWithOwn_138 e12 ?_
        refine z_goto hC 165 dX0_startWithOwn_139 (by decide) ?_
        refine z_mask [true, true, false, true, true, true, false] ?_
        exact s_X0_startWithOwn_165 hC hE q1 hq1 x3 k53 hk53 x4 x5 u12 h
      · rw [if_neg b9] at h
        by_cases b13 : (u3 (q1 + 2) x5.toNatClampNeg) = nI 2
        · rw [if_pos b13] at h
          refine z_tin hC 142 dX0_startWithOwn_84 (nI 2) b13 (by decide) (by decide) rfl (by decide) ?_
          refine z_aload_n hC dX0_startWithOwn_142 rfl rfl ?_
          refine z_getR hC 3 kF_X0_11 sh_2 rfl dX0_startWithOwn_143 ?_
          refine z_iload hC dX0_startWithOwn_146 rfl ?_
          refine z_dup2 hC dX0_startWithOwn_148 rfl rfl ?_
          obtain ⟨g14, h⟩ := gd_some h
          refine z_iald hC sh_3 g14 dX0_startWithOwn_149 ?_
          refine z_iload hC dX0_startWithOwn_150 rfl ?_
          refine z_ior hC dX0_startWithOwn_152 ?_
          obtain ⟨g15, h⟩ := gd_some h
          obtain ⟨u16, e16, h⟩ := mS_some h
          refine y_iast hC sh_3 g15 dX0_startWithOwn_153 e16 ?_
          refine z_aload_n hC dX0_startWithOwn_154 rfl rfl ?_
          refine z_getR hC 6 kF_X0_21 sh_2 rfl dX0_startWithOwn_155 ?_
          refine z_iload hC dX0_startWithOwn_158 rfl ?_
          refine z_iconst (v := 1) hC dX0_startWithOwn_160 (by decide) ?_
          obtain ⟨g17, h⟩ := gd_some h
          obtain ⟨u18, e18, h⟩ := mS_some h
          refine y_iast hC sh_6 g17 dX0_startWithOwn_161 e18 ?_
          refine z_goto hC 165 dX0_startWithOwn_162 (by decide) ?_
          refine z_mask [true, true, false, true, true, true, false] ?_
          exact s_X0_startWithOwn_165 hC hE q1 hq1 x3 k53 hk53 x4 x5 u18 h
        · rw [if_neg b13] at h
          refine z_tout hC 165 dX0_startWithOwn_84 (tab_out (a := 2) (by intro k hk; match k, hk with | 0, _ => exact b5 | 1, _ => exact b9 | 2, _ => exact b13 | k + 3, hk => omega) (by decide)) (by decide) ?_
          refine z_mask [true, true, false, true, true, true, false] ?_
          exact s_X0_startWithOwn_165 hC hE q1 hq1 x3 k53 hk53 x4 x5 u3 h
set_option maxHeartbeats 4000000 in
set_option maxRecDepth 100000 in
theorem t_X0_startWithOwn_53 {C : mCtx} (hC : mOK cX0_startWithOwn RX0 7 1 21 C) {res : Int32 × MU} (hE : mEndV C res.2) (q1 : Nat) (hq1 : okX5 q1) (x3 : Int32) : ∀ (n : Nat) (x4 : Int32) (x5 : Int32) (u : MU), l_X0_startWithOwn_53 q1 x3 n x4 x5 u = some res → wat C u 53 [some (.ref (cS C 2)), some (.ref (cS C q1)), none, some (.int x3), some (.int x4), some (.int x5), none] [] := by
  intro n
  induction n with
  | zero => intro x4 x5 u h; exact absurd h (by simp [l_X0_startWithOwn_53])
  | succ n ih =>
    intro x4 x5 u h
    exact s_X0_startWithOwn_53 hC hE q1 hq1 x3 (fun x4 x5 u => l_X0_startWithOwn_53 q1 x3 n x4 x5 u) ih x4 x5 u h
set_option maxHeartbeats 4000000 in
set_option maxRecDepth 100000 in
theorem s_X0_startWithOwn_0 {C : mCtx} (hC : mOK cX0_startWithOwn RX0 7 1 21 C) {res : Int32 × MU} (hE : mEndV C res.2) (q1 : Nat) (hq1 : okX5 q1) (x2 : Int32) (x3 : Int32) (u : MU) (h : f_X0_startWithOwn q1 x2 x3 u = some res) : wat C u 0 [some (.ref (cS C 2)), some (.ref (cS C q1)), some (.int x2), some (.int x3), none, none, none] [] := by
  unfold f_X0_startWithOwn at h
  refine z_iload_n hC dX0_startWithOwn_0 rfl rfl ?_
  refine z_bipush (v := nI 12) hC dX0_startWithOwn_1 (by decide) ?_
  refine z_imul hC dX0_startWithOwn_3 ?_
  refine z_iload_n hC dX0_startWithOwn_4 rfl rfl ?_
  refine z_iadd hC dX0_startWithOwn_5 ?_
  refine y_istore hC [some (.ref (cS C 2)), some (.ref (cS C q1)), some (.int x2), some (.int x3), some (.int ((x2 * (nI 12)) + x3)), none, none] dX0_startWithOwn_6 rfl (Nat.le_of_ble_eq_true rfl) (Nat.le_of_ble_eq_true rfl) rfl ?_
  refine z_aload_n hC dX0_startWithOwn_8 rfl rfl ?_
  refine z_getR hC 3 kF_X0_11 sh_2 rfl dX0_startWithOwn_9 ?_
  refine z_iload hC dX0_startWithOwn_12 rfl ?_
  refine z_iconst (v := 0) hC dX0_startWithOwn_14 (by decide) ?_
  obtain ⟨g1, h⟩ := gd_some h
  obtain ⟨u2, e2, h⟩ := mS_some h
  refine y_iast hC sh_3 g1 dX0_startWithOwn_15 e2 ?_
  refine z_aload_n hC dX0_startWithOwn_16 rfl rfl ?_
  refine z_getR hC 4 kF_X0_15 sh_2 rfl dX0_startWithOwn_17 ?_
  refine z_iload hC dX0_startWithOwn_20 rfl ?_
  refine z_iconst (v := 0) hC dX0_startWithOwn_22 (by decide) ?_
  obtain ⟨g3, h⟩ := gd_some h
  obtain ⟨u4, e4, h⟩ := mS_some h
  refine y_iast hC sh_4 g3 dX0_startWithOwn_23 e4 ?_
  refine z_aload_n hC dX0_startWithOwn_24 rfl rfl ?_
  refine z_getR hC 5 kF_X0_18 sh_2 rfl dX0_startWithOwn_25 ?_
  refine z_iload hC dX0_startWithOwn_28 rfl ?_
  refine z_iconst (v := 0) hC dX0_startWithOwn_30 (by decide) ?_
  obtain ⟨g5, h⟩ := gd_some h
  obtain ⟨u6, e6, h⟩ := mS_some h
  refine y_iast hC sh_5 g5 dX0_startWithOwn_31 e6 ?_
  refine z_aload_n hC dX0_startWithOwn_32 rfl rfl ?_
  refine z_getR hC 6 kF_X0_21 sh_2 rfl dX0_startWithOwn_33 ?_
  refine z_iload hC dX0_startWithOwn_36 rfl ?_
  refine z_iconst (v := 0) hC dX0_startWithOwn_38 (by decide) ?_
  obtain ⟨g7, h⟩ := gd_some h
  obtain ⟨u8, e8, h⟩ := mS_some h
  refine y_iast hC sh_6 g7 dX0_startWithOwn_39 e8 ?_
  refine z_aload_n hC dX0_startWithOwn_40 rfl rfl ?_
  refine z_getR hC 7 kF_X0_24 sh_2 rfl dX0_startWithOwn_41 ?_
  refine z_iload_n hC dX0_startWithOwn_44 rfl rfl ?_
  obtain ⟨g9, h⟩ := gd_some h
  refine z_zald hC sh_7 g9 dX0_startWithOwn_45 ?_
  refine z_if_ne hC 50 dX0_startWithOwn_46 (by decide) (fun b10 => ?_) (fun b10 => ?_)
  · rw [if_neg b10] at h
    refine z_iconst (v := 0) hC dX0_startWithOwn_50 (by decide) ?_
    refine y_istore hC [some (.ref (cS C 2)), some (.ref (cS C q1)), some (.int x2), some (.int x3), some (.int ((x2 * (nI 12)) + x3)), some (.int 0), none] dX0_startWithOwn_51 rfl (Nat.le_of_ble_eq_true rfl) (Nat.le_of_ble_eq_true rfl) rfl ?_
    refine z_mask [true, true, false, true, true, true, false] ?_
    exact t_X0_startWithOwn_53 hC hE q1 hq1 x3 FU ((x2 * (nI 12)) + x3) 0 u8 h
  · rw [if_pos b10] at h
    obtain rfl := Option.some.inj h
    exact z_vret hC hE dX0_startWithOwn_49
theorem m_X0_startWithOwn {l : Launch} {dC : Nat → ClassId} {dI : Nat → Nat → Nat} {dA : Nat → ClassId} {as : Nat → Nat} (hD : mDis as) (q1 : Nat) (hq1 : okX5 q1) (x2 : Int32) (x3 : Int32) (u : MU) {r : Int32} {v : MU} (h : f_X0_startWithOwn q1 x2 x3 u = some (r, v)) : mMV l dC dI dA as yX0_startWithOwn cX0_startWithOwn 7 1 21 [.ref (as 2), .ref (as q1), .int x2, .int x3] u v := mMVof RX0 [some (.ref (as 2)), some (.ref (as q1)), some (.int x2), some (.int x3), none, none, none] hD (by decide +kernel) rfl (Nat.le_of_ble_eq_true rfl) rfl (fun C e1 e2 e3 e4 e5 hC hE => by subst e5; exact s_X0_startWithOwn_0 hC (res := (r, v)) hE q1 hq1 x2 x3 u h)
set_option maxHeartbeats 4000000 in
set_option maxRecDepth 100000 in
theorem s_X0_take_0 {C : mCtx} (hC : mOK cX0_take RX0 4 0 0 C) {res : Int32 × MU} (hE : mEndI C .boolean res.1 res.2) (x1 : Int32) (x2 : Int32) (u : MU) (h : f_X0_take x1 x2 u = some res) : wat C u 0 [some (.ref (cS C 2)), some (.int x1), some (.int x2), none] [] := by
  unfold f_X0_take at h
  refine z_aload_n hC dX0_take_0 rfl rfl ?_
  refine z_getR hC 3 kF_X0_11 sh_2 rfl dX0_take_1 ?_
  refine z_iload_n hC dX0_take_4 rfl rfl ?_
  obtain ⟨g1, h⟩ := gd_some h
  refine z_iald hC sh_3 g1 dX0_take_5 ?_
  refine z_aload_n hC dX0_take_6 rfl rfl ?_
  refine z_getR hC 3 kF_X0_11 sh_2 rfl dX0_take_7 ?_
  refine z_iload_n hC dX0_take_10 rfl rfl ?_
  obtain ⟨g2, h⟩ := gd_some h
  refine z_iald hC sh_3 g2 dX0_take_11 ?_
  refine z_iconst (v := (-1)) hC dX0_take_12 (by decide) ?_
  refine z_ixor hC dX0_take_13 ?_
  refine z_iand hC dX0_take_14 ?_
  refine z_aload_n hC dX0_take_15 rfl rfl ?_
  refine z_getR hC 4 kF_X0_15 sh_2 rfl dX0_take_16 ?_
  refine z_iload_n hC dX0_take_19 rfl rfl ?_
  obtain ⟨g3, h⟩ := gd_some h
  refine z_iald hC sh_4 g3 dX0_take_20 ?_
  refine z_aload_n hC dX0_take_21 rfl rfl ?_
  refine z_getR hC 4 kF_X0_15 sh_2 rfl dX0_take_22 ?_
  refine z_iload_n hC dX0_take_25 rfl rfl ?_
  obtain ⟨g4, h⟩ := gd_some h
  refine z_iald hC sh_4 g4 dX0_take_26 ?_
  refine z_iconst (v := (-1)) hC dX0_take_27 (by decide) ?_
  refine z_ixor hC dX0_take_28 ?_
  refine z_iand hC dX0_take_29 ?_
  refine z_ior hC dX0_take_30 ?_
  refine z_aload_n hC dX0_take_31 rfl rfl ?_
  refine z_getR hC 5 kF_X0_18 sh_2 rfl dX0_take_32 ?_
  refine z_iload_n hC dX0_take_35 rfl rfl ?_
  obtain ⟨g5, h⟩ := gd_some h
  refine z_iald hC sh_5 g5 dX0_take_36 ?_
  refine z_aload_n hC dX0_take_37 rfl rfl ?_
  refine z_getR hC 5 kF_X0_18 sh_2 rfl dX0_take_38 ?_
  refine z_iload_n hC dX0_take_41 rfl rfl ?_
  obtain ⟨g6, h⟩ := gd_some h
  refine z_iald hC sh_5 g6 dX0_take_42 ?_
  refine z_iconst (v := (-1)) hC dX0_take_43 (by decide) ?_
  refine z_ixor hC dX0_take_44 ?_
  refine z_iand hC dX0_take_45 ?_
  refine z_ior hC dX0_take_46 ?_
  refine z_aload_n hC dX0_take_47 rfl rfl ?_
  refine z_getR hC 6 kF_X0_21 sh_2 rfl dX0_take_48 ?_
  refine z_iload_n hC dX0_take_51 rfl rfl ?_
  obtain ⟨g7, h⟩ := gd_some h
  refine z_iald hC sh_6 g7 dX0_take_52 ?_
  refine z_aload_n hC dX0_take_53 rfl rfl ?_
  refine z_getR hC 6 kF_X0_21 sh_2 rfl dX0_take_54 ?_
  refine z_iload_n hC dX0_take_57 rfl rfl ?_
  obtain ⟨g8, h⟩ := gd_some h
  refine z_iald hC sh_6 g8 dX0_take_58 ?_
  refine z_iconst (v := (-1)) hC dX0_take_59 (by decide) ?_
  refine z_ixor hC dX0_take_60 ?_
  refine z_iand hC dX0_take_61 ?_
  refine z_ior hC dX0_take_62 ?_
  refine y_istore_n hC [some (.ref (cS C 2)), some (.int x1), some (.int x2), some (.int (((((u 3 x2.toNatClampNeg) &&& ((u 3 x1.toNatClampNeg) ^^^ ((-1)))) ||| ((u 4 x2.toNatClampNeg) &&& ((u 4 x1.toNatClampNeg) ^^^ ((-1))))) ||| ((u 5 x2.toNatClampNeg) &&& ((u 5 x1.toNatClampNeg) ^^^ ((-1))))) ||| ((u 6 x2.toNatClampNeg) &&& ((u 6 x1.toNatClampNeg) ^^^ ((-1))))))] dX0_take_63 rfl rfl (Nat.le_of_ble_eq_true rfl) (Nat.le_of_ble_eq_true rfl) rfl ?_
  refine z_aload_n hC dX0_take_64 rfl rfl ?_
  refine z_getR hC 3 kF_X0_11 sh_2 rfl dX0_take_65 ?_
  refine z_iload_n hC dX0_take_68 rfl rfl ?_
  refine z_dup2 hC dX0_take_69 rfl rfl ?_
  obtain ⟨g9, h⟩ := gd_some h
  refine z_iald hC sh_3 g9 dX0_take_70 ?_
  refine z_aload_n hC dX0_take_71 rfl rfl ?_
  refine z_getR hC 3 kF_X0_11 sh_2 rfl dX0_take_72 ?_
  refine z_iload_n hC dX0_take_75 rfl rfl ?_
  obtain ⟨g10, h⟩ := gd_some h
  refine z_iald hC sh_3 g10 dX0_take_76 ?_
  refine z_ior hC dX0_take_77 ?_
  obtain ⟨g11, h⟩ := gd_some h
  obtain ⟨u12, e12, h⟩ := mS_some h
  refine y_iast hC sh_3 g11 dX0_take_78 e12 ?_
  refine z_aload_n hC dX0_take_79 rfl rfl ?_
  refine z_getR hC 4 kF_X0_15 sh_2 rfl dX0_take_80 ?_
  refine z_iload_n hC dX0_take_83 rfl rfl ?_
  refine z_dup2 hC dX0_take_84 rfl rfl ?_
  obtain ⟨g13, h⟩ := gd_some h
  refine z_iald hC sh_4 g13 dX0_take_85 ?_
  refine z_aload_n hC dX0_take_86 rfl rfl ?_
  refine z_getR hC 4 kF_X0_15 sh_2 rfl dX0_take_87 ?_
  refine z_iload_n hC dX0_take_90 rfl rfl ?_
  obtain ⟨g14, h⟩ := gd_some h
  refine z_iald hC sh_4 g14 dX0_take_91 ?_
  refine z_ior hC dX0_take_92 ?_
  obtain ⟨g15, h⟩ := gd_some h
  obtain ⟨u16, e16, h⟩ := mS_some h
  refine y_iast hC sh_4 g15 dX0_take_93 e16 ?_
  refine z_aload_n hC dX0_take_94 rfl rfl ?_
  refine z_getR hC 5 kF_X0_18 sh_2 rfl dX0_take_95 ?_
  refine z_iload_n hC dX0_take_98 rfl rfl ?_
  refine z_dup2 hC dX0_take_99 rfl rfl ?_
  obtain ⟨g17, h⟩ := gd_some h
  refine z_iald hC sh_5 g17 dX0_take_100 ?_
  refine z_aload_n hC dX0_take_101 rfl rfl ?_
  refine z_getR hC 5 kF_X0_18 sh_2 rfl dX0_take_102 ?_
  refine z_iload_n hC dX0_take_105 rfl rfl ?_
  obtain ⟨g18, h⟩ := gd_some h
  refine z_iald hC sh_5 g18 dX0_take_106 ?_
  refine z_ior hC dX0_take_107 ?_
  obtain ⟨g19, h⟩ := gd_some h
  obtain ⟨u20, e20, h⟩ := mS_some h
  refine y_iast hC sh_5 g19 dX0_take_108 e20 ?_
  refine z_aload_n hC dX0_take_109 rfl rfl ?_
  refine z_getR hC 6 kF_X0_21 sh_2 rfl dX0_take_110 ?_
  refine z_iload_n hC dX0_take_113 rfl rfl ?_
  refine z_dup2 hC dX0_take_114 rfl rfl ?_
  obtain ⟨g21, h⟩ := gd_some h
  refine z_iald hC sh_6 g21 dX0_take_115 ?_
  refine z_aload_n hC dX0_take_116 rfl rfl ?_
  refine z_getR hC 6 kF_X0_21 sh_2 rfl dX0_take_117 ?_
  refine z_iload_n hC dX0_take_120 rfl rfl ?_
  obtain ⟨g22, h⟩ := gd_some h
  refine z_iald hC sh_6 g22 dX0_take_121 ?_
  refine z_ior hC dX0_take_122 ?_
  obtain ⟨g23, h⟩ := gd_some h
  obtain ⟨u24, e24, h⟩ := mS_some h
  refine y_iast hC sh_6 g23 dX0_take_123 e24 ?_
  refine z_iload_n hC dX0_take_124 rfl rfl ?_
  refine z_if_eq hC 132 dX0_take_125 (by decide) (fun b25 => ?_) (fun b25 => ?_)
  · rw [if_pos b25] at h
    refine z_iconst (v := 0) hC dX0_take_132 (by decide) ?_
    obtain rfl := Option.some.inj h
    exact z_zret hC hE rfl dX0_take_133
  · rw [if_neg b25] at h
    refine z_iconst (v := 1) hC dX0_take_128 (by decide) ?_
    refine z_goto hC 133 dX0_take_129 (by decide) ?_
    obtain rfl := Option.some.inj h
    exact z_zret hC hE rfl dX0_take_133
theorem m_X0_take {l : Launch} {dC : Nat → ClassId} {dI : Nat → Nat → Nat} {dA : Nat → ClassId} {as : Nat → Nat} (hD : mDis as) (x1 : Int32) (x2 : Int32) (u : MU) {r : Int32} {v : MU} (h : f_X0_take x1 x2 u = some (r, v)) : mMI l dC dI dA as yX0_take cX0_take 4 .boolean 0 0 [.ref (as 2), .int x1, .int x2] u r v := mMIof RX0 [some (.ref (as 2)), some (.int x1), some (.int x2), none] hD (by decide +kernel) rfl (Nat.le_of_ble_eq_true rfl) rfl (fun C e1 e2 e3 e4 e5 hC hE => by subst e5; exact s_X0_take_0 hC (res := (r, v)) hE x1 x2 u h)
set_option maxHeartbeats 4000000 in
set_option maxRecDepth 100000 in
theorem s_X0_takeFromCallees_75 {C : mCtx} (hC : mOK cX0_takeFromCallees RX0 7 1 23 C) {res : Int32 × MU} (hE : mEndI C .boolean res.1 res.2) (q1 : Nat) (hq1 : okX5 q1) (x2 : Int32) (x3 : Int32) (k6 : Int32 → Int32 → MU → mR) (hk6 : ∀ (x4 : Int32) (x5 : Int32) (u : MU), k6 x4 x5 u = some res → wat C u 6 [some (.ref (cS C 2)), some (.ref (cS C q1)), some (.int x2), some (.int x3), some (.int x4), some (.int x5), none] []) (x4 : Int32) (x5 : Int32) (u : MU) (h : b_X0_takeFromCallees_75 k6 q1 x2 x3 x4 x5 u = some res) : wat C u 75 [some (.ref (cS C 2)), some (.ref (cS C q1)), some (.int x2), some (.int x3), some (.int x4), some (.int x5), none] [] := by
  unfold b_X0_takeFromCallees_75 at h
  refine y_iinc hC (x5 + 1) [some (.ref (cS C 2)), some (.ref (cS C q1)), some (.int x2), some (.int x3), some (.int x4), some (.int (x5 + 1)), none] dX0_takeFromCallees_75 rfl rfl rfl (Nat.le_of_ble_eq_true rfl) rfl ?_
  refine z_goto hC 6 dX0_takeFromCallees_78 (by decide) ?_
  exact hk6 x4 (x5 + 1) u h
set_option maxHeartbeats 4000000 in
set_option maxRecDepth 100000 in
theorem s_X0_takeFromCallees_73 {C : mCtx} (hC : mOK cX0_takeFromCallees RX0 7 1 23 C) {res : Int32 × MU} (hE : mEndI C .boolean res.1 res.2) (q1 : Nat) (hq1 : okX5 q1) (x2 : Int32) (x3 : Int32) (k6 : Int32 → Int32 → MU → mR) (hk6 : ∀ (x4 : Int32) (x5 : Int32) (u : MU), k6 x4 x5 u = some res → wat C u 6 [some (.ref (cS C 2)), some (.ref (cS C q1)), some (.int x2), some (.int x3), some (.int x4), some (.int x5), none] []) (x5 : Int32) (s0 : Int32) (u : MU) (h : b_X0_takeFromCallees_73 k6 q1 x2 x3 x5 s0 u = some res) : wat C u 73 [some (.ref (cS C 2)), some (.ref (cS C q1)), some (.int x2), some (.int x3), none, some (.int x5), none] [(.int s0)] := by
  unfold b_X0_takeFromCallees_73 at h
  refine y_istore hC [some (.ref (cS C 2)), some (.ref (cS C q1)), some (.int x2), some (.int x3), some (.int s0), some (.int x5), none] dX0_takeFromCallees_73 rfl (Nat.le_of_ble_eq_true rfl) (Nat.le_of_ble_eq_true rfl) rfl ?_
  exact s_X0_takeFromCallees_75 hC hE q1 hq1 x2 x3 k6 hk6 s0 x5 u h
set_option maxHeartbeats 4000000 in
set_option maxRecDepth 100000 in
theorem s_X0_takeFromCallees_68 {C : mCtx} (hC : mOK cX0_takeFromCallees RX0 7 1 23 C) {res : Int32 × MU} (hE : mEndI C .boolean res.1 res.2) (q1 : Nat) (hq1 : okX5 q1) (x2 : Int32) (x3 : Int32) (k6 : Int32 → Int32 → MU → mR) (hk6 : ∀ (x4 : Int32) (x5 : Int32) (u : MU), k6 x4 x5 u = some res → wat C u 6 [some (.ref (cS C 2)), some (.ref (cS C q1)), some (.int x2), some (.int x3), some (.int x4), some (.int x5), none] []) (x5 : Int32) (u : MU) (h : b_X0_takeFromCallees_68 k6 q1 x2 x3 x5 u = some res) : wat C u 68 [some (.ref (cS C 2)), some (.ref (cS C q1)), some (.int x2), some (.int x3), none, some (.int x5), none] [] := by
  unfold b_X0_takeFromCallees_68 at h
  refine z_iconst (v := 1) hC dX0_takeFromCallees_68 (by decide) ?_
  refine z_goto hC 73 dX0_takeFromCallees_69 (by decide) ?_
  exact s_X0_takeFromCallees_73 hC hE q1 hq1 x2 x3 k6 hk6 x5 1 u h
set_option maxHeartbeats 4000000 in
set_option maxRecDepth 100000 in
theorem s_X0_takeFromCallees_6 {C : mCtx} (hC : mOK cX0_takeFromCallees RX0 7 1 23 C) {res : Int32 × MU} (hE : mEndI C .boolean res.1 res.2) (q1 : Nat) (hq1 : okX5 q1) (x2 : Int32) (x3 : Int32) (k6 : Int32 → Int32 → MU → mR) (hk6 : ∀ (x4 : Int32) (x5 : Int32) (u : MU), k6 x4 x5 u = some res → wat C u 6 [some (.ref (cS C 2)), some (.ref (cS C q1)), some (.int x2), some (.int x3), some (.int x4), some (.int x5), none] []) (x4 : Int32) (x5 : Int32) (u : MU) (h : b_X0_takeFromCallees_6 k6 q1 x2 x3 x4 x5 u = some res) : wat C u 6 [some (.ref (cS C 2)), some (.ref (cS C q1)), some (.int x2), some (.int x3), some (.int x4), some (.int x5), none] [] := by
  unfold b_X0_takeFromCallees_6 at h
  refine z_iload hC dX0_takeFromCallees_6 rfl ?_
  refine z_aload_n hC dX0_takeFromCallees_8 rfl rfl ?_
  refine z_getI hC kF_X0_73 hq1.1 rfl dX0_takeFromCallees_9 ?_
  refine z_icmp_ge hC 81 dX0_takeFromCallees_12 (by decide) (fun b1 => ?_) (fun b1 => ?_)
  · rw [if_pos b1] at h
    refine z_iload hC dX0_takeFromCallees_81 rfl ?_
    obtain ⟨g2, h⟩ := gd_some h
    obtain rfl := Option.some.inj h
    exact z_zret hC hE g2 dX0_takeFromCallees_83
  · rw [if_neg b1] at h
    refine z_aload_n hC dX0_takeFromCallees_15 rfl rfl ?_
    refine z_getR hC (q1 + 2) kF_X0_83 hq1.1 rfl dX0_takeFromCallees_16 ?_
    refine z_iload hC dX0_takeFromCallees_19 rfl ?_
    obtain ⟨g3, h⟩ := gd_some h
    refine z_iald hC hq1.2.2.1 g3 dX0_takeFromCallees_21 ?_
    refine z_iconst (v := nI 3) hC dX0_takeFromCallees_22 (by decide) ?_
    refine z_icmp_ne hC 75 dX0_takeFromCallees_23 (by decide) (fun b4 => ?_) (fun b4 => ?_)
    · rw [if_neg b4] at h
      exact s_X0_takeFromCallees_75 hC hE q1 hq1 x2 x3 k6 hk6 x4 x5 u h
    · rw [if_pos b4] at h
      refine z_aload_n hC dX0_takeFromCallees_26 rfl rfl ?_
      refine z_getR hC (q1 + 3) kF_X0_76 hq1.1 rfl dX0_takeFromCallees_27 ?_
      refine z_iload hC dX0_takeFromCallees_30 rfl ?_
      obtain ⟨g5, h⟩ := gd_some h
      refine z_iald hC hq1.2.2.2.1 g5 dX0_takeFromCallees_32 ?_
      refine z_iload_n hC dX0_takeFromCallees_33 rfl rfl ?_
      obtain ⟨r6, u6, c6, h⟩ := mB_some h
      refine z_callNI hC kC_X6_placeOf kM_X0_79 (m_X6_placeOf hC.dis (u (q1 + 3) x5.toNatClampNeg) x3 u c6) rfl (Nat.le_of_ble_eq_true rfl) (Nat.le_of_ble_eq_true rfl) (Nat.le_of_ble_eq_true rfl) rfl dX0_takeFromCallees_34 ?_
      refine z_bipush (v := nI 6) hC dX0_takeFromCallees_37 (by decide) ?_
      refine z_isub hC dX0_takeFromCallees_39 ?_
      refine y_istore hC [some (.ref (cS C 2)), some (.ref (cS C q1)), some (.int x2), some (.int x3), some (.int x4), some (.int x5), some (.int (r6 - (nI 6)))] dX0_takeFromCallees_40 rfl (Nat.le_of_ble_eq_true rfl) (Nat.le_of_ble_eq_true rfl) rfl ?_
      refine z_aload_n hC dX0_takeFromCallees_42 rfl rfl ?_
      refine z_iload_n hC dX0_takeFromCallees_43 rfl rfl ?_
      refine z_aload_n hC dX0_takeFromCallees_44 rfl rfl ?_
      refine z_getR hC (q1 + 4) kF_X0_99 hq1.1 rfl dX0_takeFromCallees_45 ?_
      refine z_iload hC dX0_takeFromCallees_48 rfl ?_
      obtain ⟨g7, h⟩ := gd_some h
      refine z_iald hC hq1.2.2.2.2.1 g7 dX0_takeFromCallees_50 ?_
      refine z_bipush (v := nI 12) hC dX0_takeFromCallees_51 (by decide) ?_
      refine z_imul hC dX0_takeFromCallees_53 ?_
      refine z_iload hC dX0_takeFromCallees_54 rfl ?_
      refine z_iadd hC dX0_takeFromCallees_56 ?_
      obtain ⟨r8, u8, c8, h⟩ := mB_some h
      refine z_callI hC kC_X0_take kM_X0_102 sh_2 TX0 6 rfl (m_X0_take hC.dis x2 (((u6 (q1 + 4) x5.toNatClampNeg) * (nI 12)) + (r6 - (nI 6))) u6 c8) rfl (Nat.le_of_ble_eq_true rfl) (Nat.le_of_ble_eq_true rfl) (Nat.le_of_ble_eq_true rfl) rfl dX0_takeFromCallees_57 ?_
      refine z_if_ne hC 68 dX0_takeFromCallees_60 (by decide) (fun b9 => ?_) (fun b9 => ?_)
      · rw [if_neg b9] at h
        refine z_mask [true, true, true, true, false, true, false] ?_
        exact s_X0_takeFromCallees_68 hC hE q1 hq1 x2 x3 k6 hk6 x5 u8 h
      · rw [if_pos b9] at h
        refine z_iload hC dX0_takeFromCallees_63 rfl ?_
        refine z_if_eq hC 72 dX0_takeFromCallees_65 (by decide) (fun b10 => ?_) (fun b10 => ?_)
        · rw [if_pos b10] at h
          refine z_iconst (v := 0) hC dX0_takeFromCallees_72 (by decide) ?_
          refine z_mask [true, true, true, true, false, true, false] ?_
          exact s_X0_takeFromCallees_73 hC hE q1 hq1 x2 x3 k6 hk6 x5 0 u8 h
        · rw [if_neg b10] at h
          refine z_mask [true, true, true, true, false, true, false] ?_
          exact s_X0_takeFromCallees_68 hC hE q1 hq1 x2 x3 k6 hk6 x5 u8 h
set_option maxHeartbeats 4000000 in
set_option maxRecDepth 100000 in
theorem t_X0_takeFromCallees_6 {C : mCtx} (hC : mOK cX0_takeFromCallees RX0 7 1 23 C) {res : Int32 × MU} (hE : mEndI C .boolean res.1 res.2) (q1 : Nat) (hq1 : okX5 q1) (x2 : Int32) (x3 : Int32) : ∀ (n : Nat) (x4 : Int32) (x5 : Int32) (u : MU), l_X0_takeFromCallees_6 q1 x2 x3 n x4 x5 u = some res → wat C u 6 [some (.ref (cS C 2)), some (.ref (cS C q1)), some (.int x2), some (.int x3), some (.int x4), some (.int x5), none] [] := by
  intro n
  induction n with
  | zero => intro x4 x5 u h; exact absurd h (by simp [l_X0_takeFromCallees_6])
  | succ n ih =>
    intro x4 x5 u h
    exact s_X0_takeFromCallees_6 hC hE q1 hq1 x2 x3 (fun x4 x5 u => l_X0_takeFromCallees_6 q1 x2 x3 n x4 x5 u) ih x4 x5 u h
set_option maxHeartbeats 4000000 in
set_option maxRecDepth 100000 in
theorem s_X0_takeFromCallees_0 {C : mCtx} (hC : mOK cX0_takeFromCallees RX0 7 1 23 C) {res : Int32 × MU} (hE : mEndI C .boolean res.1 res.2) (q1 : Nat) (hq1 : okX5 q1) (x2 : Int32) (x3 : Int32) (u : MU) (h : f_X0_takeFromCallees q1 x2 x3 u = some res) : wat C u 0 [some (.ref (cS C 2)), some (.ref (cS C q1)), some (.int x2), some (.int x3), none, none, none] [] := by
  unfold f_X0_takeFromCallees at h
  refine z_iconst (v := 0) hC dX0_takeFromCallees_0 (by decide) ?_
  refine y_istore hC [some (.ref (cS C 2)), some (.ref (cS C q1)), some (.int x2), some (.int x3), some (.int 0), none, none] dX0_takeFromCallees_1 rfl (Nat.le_of_ble_eq_true rfl) (Nat.le_of_ble_eq_true rfl) rfl ?_
  refine z_iconst (v := 0) hC dX0_takeFromCallees_3 (by decide) ?_
  refine y_istore hC [some (.ref (cS C 2)), some (.ref (cS C q1)), some (.int x2), some (.int x3), some (.int 0), some (.int 0), none] dX0_takeFromCallees_4 rfl (Nat.le_of_ble_eq_true rfl) (Nat.le_of_ble_eq_true rfl) rfl ?_
  exact t_X0_takeFromCallees_6 hC hE q1 hq1 x2 x3 FU 0 0 u h
theorem m_X0_takeFromCallees {l : Launch} {dC : Nat → ClassId} {dI : Nat → Nat → Nat} {dA : Nat → ClassId} {as : Nat → Nat} (hD : mDis as) (q1 : Nat) (hq1 : okX5 q1) (x2 : Int32) (x3 : Int32) (u : MU) {r : Int32} {v : MU} (h : f_X0_takeFromCallees q1 x2 x3 u = some (r, v)) : mMI l dC dI dA as yX0_takeFromCallees cX0_takeFromCallees 7 .boolean 1 23 [.ref (as 2), .ref (as q1), .int x2, .int x3] u r v := mMIof RX0 [some (.ref (as 2)), some (.ref (as q1)), some (.int x2), some (.int x3), none, none, none] hD (by decide +kernel) rfl (Nat.le_of_ble_eq_true rfl) rfl (fun C e1 e2 e3 e4 e5 hC hE => by subst e5; exact s_X0_takeFromCallees_0 hC (res := (r, v)) hE q1 hq1 x2 x3 u h)
