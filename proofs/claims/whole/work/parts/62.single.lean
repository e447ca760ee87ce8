def z0 : MU := fun _ _ => 0
def lift1 (u : MU) (r : mR) : mR := r.map (fun p => (p.1, u))
theorem ns_l (x0 x1 : Int32) (u : MU) : ∀ (F : Nat) (x2 : Int32), l_X6_nearestSingle_14 x0 x1 F x2 u = lift1 u (l_X6_nearestSingle_14 x0 x1 F x2 z0) := by
  intro F
  induction F with
  | zero => intro x2; rfl
  | succ F ih =>
    intro x2
    rw [l_X6_nearestSingle_14, l_X6_nearestSingle_14]
    unfold b_X6_nearestSingle_14 b_X6_nearestSingle_34 b_X6_nearestSingle_73 b_X6_nearestSingle_76 gd
    repeat' split
    all_goals first
      | rfl
      | exact ih _
theorem sg_l (x0 x1 : Int32) (u : MU) : ∀ (F : Nat) (x2 : Int32), l_X7_single_2 x0 x1 F x2 u = lift1 u (l_X7_single_2 x0 x1 F x2 z0) := by
  intro F
  induction F with
  | zero => intro x2; rfl
  | succ F ih =>
    intro x2
    rw [l_X7_single_2, l_X7_single_2]
    unfold b_X7_single_2 b_X7_single_60 b_X7_single_64 b_X7_single_65 gd
    repeat' split
    all_goals first
      | rfl
      | exact ih _
def ns1 (x0 x1 : Int32) : Option Int32 := (l_X6_nearestSingle_14 x0 x1 20 0 z0).map Prod.fst
def sg1 (x0 x1 : Int32) : Option Int32 := (l_X7_single_2 x0 x1 20 0 z0).map Prod.fst
theorem ns_more (x0 x1 : Int32) : ∀ (F : Nat) (x2 : Int32) (r : Int32 × MU), l_X6_nearestSingle_14 x0 x1 F x2 z0 = some r → ∀ G : Nat, l_X6_nearestSingle_14 x0 x1 (F + G) x2 z0 = some r := by
  intro F
  induction F with
  | zero => intro x2 r h; cases h
  | succ F ih =>
    intro x2 r h G
    rw [show F + 1 + G = (F + G) + 1 by omega]
    rw [l_X6_nearestSingle_14] at h ⊢
    unfold b_X6_nearestSingle_14 at h ⊢
    by_cases c1 : nI 4 ≤ x2
    · rw [if_pos c1] at h ⊢; exact h
    · rw [if_neg c1] at h ⊢
      by_cases c2 : x0 < x1 <<< (x2 + 1 &&& 31)
      · rw [if_pos c2] at h ⊢; exact h
      · rw [if_neg c2] at h ⊢; exact ih _ r h G
theorem sg_more (x0 x1 : Int32) : ∀ (F : Nat) (x2 : Int32) (r : Int32 × MU), l_X7_single_2 x0 x1 F x2 z0 = some r → ∀ G : Nat, l_X7_single_2 x0 x1 (F + G) x2 z0 = some r := by
  intro F
  induction F with
  | zero => intro x2 r h; cases h
  | succ F ih =>
    intro x2 r h G
    rw [show F + 1 + G = (F + G) + 1 by omega]
    rw [l_X7_single_2] at h ⊢
    unfold b_X7_single_2 at h ⊢
    by_cases c2 : x0 < x1 <<< (x2 + 1 &&& 31)
    · rw [if_pos c2] at h ⊢; exact h
    · rw [if_neg c2] at h ⊢; exact ih _ r h G
theorem sgl_dec : ∀ m : Nat, m < 17 → ∀ n : Nat, n < 17 → 1 ≤ n → n ≤ m → (ns1 (nI m) (nI n)).isSome = true ∧ ns1 (nI m) (nI n) = sg1 (nI m) (nI n) := by decide +kernel
theorem single_s {m n : Nat} (hm : m ≤ 16) (hn : 1 ≤ n) (hnm : n ≤ m) (u t : MU) : ∃ r : Int32, f_X6_nearestSingle (nI m) (nI n) u = some (r, u) ∧ f_X7_single (nI m) (nI n) t = some (r, t) := by
  obtain ⟨h1, h2⟩ := sgl_dec m (by omega) n (by omega) hn hnm
  have h3 := h1
  rw [h2] at h3
  obtain ⟨r, hr⟩ := Option.isSome_iff_exists.mp h1
  have hr2 := hr
  rw [h2] at hr2
  unfold ns1 at hr
  unfold sg1 at hr2
  obtain ⟨p, p1, p2⟩ := Option.map_eq_some_iff.mp hr
  obtain ⟨q, q1, q2⟩ := Option.map_eq_some_iff.mp hr2
  refine ⟨r, ?_, ?_⟩
  · rw [f_X6_nearestSingle, if_neg (show ¬ nI n < 1 from fun z => absurd ((lt_ (b := 1) (by omega) (by omega)).mp z) (by omega)), if_pos ((le_ (by omega) (by omega)).mpr hnm), ns_l, show FU = 20 + 4980 from rfl, ns_more _ _ 20 0 p p1 4980]
    rw [← p2]; rfl
  · rw [f_X7_single, sg_l, show FU = 20 + 4980 from rfl, sg_more _ _ 20 0 q q1 4980]
    rw [← q2]; rfl
