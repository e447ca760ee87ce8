theorem Inv.mk3 {u v : MU} (h : Inv u) (hP : PL v) (hR : PR v) (hI : IM v) (e : ∀ k : Nat, ((2 ≤ k ∧ k ≤ 7) ∨ (30 ≤ k ∧ k ≤ 77) ∨ k = 89 ∨ k = 90) → v k = u k) : Inv v := by
  obtain ⟨h1, h2, h3, h4, h5⟩ := h
  exact ⟨h1.cong (e 89 (by omega)) (e 90 (by omega)) (fun k a b => e k (by omega)), hP, hR, hI, h5.cong (fun k a b => e k (by omega)) (e 89 (by omega)) (e 90 (by omega))⟩
theorem op_call (x y : Int32) : Same (f_X6_call x y) (f_X7_call x y) := by
  intro u h
  rcases rg x 6 (by omega) with hx | ⟨r, hr, rfl⟩
  · refine ⟨-1, u, u, ?_, ?_, h⟩
    · rw [f_X6_call, mBe (wi_out hx u), if_pos rfl]
    · rw [f_X7_call, mBe (isR_out hx u), if_pos rfl]
  · rcases rg y 12 (by omega) with hy | ⟨g, hg, rfl⟩
    · refine ⟨-2, u, u, ?_, ?_, h⟩
      · rw [f_X6_call, mBe (wi_in hr (by omega) u), if_neg (by decide), mBe (wi_out hy u), if_pos rfl]
      · rw [f_X7_call, mBe (isR_in hr u), if_neg (by decide), mBe (isG_out hy u), if_pos rfl]
    · obtain ⟨p1, ⟨⟨m, hm, pm⟩, p2⟩, p3⟩ := h.2.2.1
      by_cases h16 : m = 16
      · subst h16
        refine ⟨-4, u, u, ?_, ?_, h⟩
        · rw [f_X6_call, mBe (wi_in hr (by omega) u), if_neg (by decide), mBe (wi_in hg (by omega) u), if_neg (by decide), pm, if_neg (by decide)]
        · rw [f_X7_call, mBe (isR_in hr u), if_neg (by decide), mBe (isG_in hg u), if_neg (by decide), ← p1, pm, if_pos rfl]
      · have hm16 : m < 16 := by omega
        have ea : f_X4_append 9 (nI r) (nI g) u = some (0, mup (mup (mup u 10 m (nI r)) 11 m (nI g)) 9 2 (nI (m + 1))) := by
          rw [f_X4_append, pm, if_neg (fun z => absurd ((le_ (by omega) (by omega)).mp z) (by omega)), gdt (ix_ hm16 (by omega)), nc_ (by omega), mSe, mup_ne (by decide), pm, gdt (ix_ hm16 (by omega)), mSe, nc_ (by omega), mup_ne (by decide), mup_ne (by decide), pm, nI_1, mSe]
        generalize hv : mup (mup (mup u 10 m (nI r)) 11 m (nI g)) 9 2 (nI (m + 1)) = v at ea
        have v9 : v 9 2 = nI (m + 1) := by rw [← hv, mup_self]
        have vk : ∀ k : Nat, k ≠ 9 → k ≠ 10 → k ≠ 11 → v k = u k := fun k a b c => by rw [← hv, mup_ne a, mup_ne c, mup_ne b]
        have v10 : ∀ j : Nat, v 10 j = if j = m then nI r else u 10 j := fun j => by rw [← hv, mup_ne (by decide), mup_ne (by decide), mup_get, if_pos rfl]
        have v11 : ∀ j : Nat, v 11 j = if j = m then nI g else u 11 j := fun j => by rw [← hv, mup_ne (by decide), mup_get, if_pos rfl, mup_ne (by decide)]
        have b1 : v 88 5 = nI m := by rw [vk 88 (by decide) (by decide) (by decide), ← p1, pm]
        generalize ht : mup (mup (mup v 92 m (nI r)) 93 m (nI g)) 88 5 (nI (m + 1)) = t
        have tk : ∀ k : Nat, k ≠ 88 → k ≠ 92 → k ≠ 93 → t k = v k := fun k a b c => by rw [← ht, mup_ne a, mup_ne c, mup_ne b]
        have t92 : ∀ j : Nat, t 92 j = if j = m then nI r else u 92 j := fun j => by rw [← ht, mup_ne (by decide), mup_ne (by decide), mup_get, if_pos rfl, vk 92 (by decide) (by decide) (by decide)]
        have t93 : ∀ j : Nat, t 93 j = if j = m then nI g else u 93 j := fun j => by rw [← ht, mup_ne (by decide), mup_get, if_pos rfl, mup_ne (by decide), vk 93 (by decide) (by decide) (by decide)]
        refine ⟨nI (m + 1), v, t, ?_, ?_, ?_⟩
        · rw [f_X6_call, mBe (wi_in hr (by omega) u), if_neg (by decide), mBe (wi_in hg (by omega) u), if_neg (by decide), pm, if_pos ((lt_ (by omega) (by omega)).mpr hm16), mBe ea, v9]
        · rw [f_X7_call, mBe (isR_in hr v), if_neg (by decide), mBe (isG_in hg v), if_neg (by decide), b1, if_neg (fun z => h16 ((eq_ (by omega) (by omega)).mp z)), gdt (ix_ hm16 (by omega)), mSe, nc_ (by omega), mup_ne (by decide), b1, gdt (ix_ hm16 (by omega)), mSe, nc_ (by omega), mup_ne (by decide), mup_ne (by decide), b1, nI_1, mSe, ht, show t 88 5 = nI (m + 1) by rw [← ht, mup_self]]
        · refine h.mk3 (h.2.1.cong ?_ ?_) ⟨?_, ⟨⟨m + 1, by omega, ?_⟩, fun j hj => ⟨?_, ?_⟩⟩, fun j hj => ⟨?_, ?_⟩⟩ (h.2.2.2.1.cong ?_ ?_ ?_) ?_
          · rw [tk 8 (by decide) (by decide) (by decide), vk 8 (by decide) (by decide) (by decide)]
          · rw [tk 91 (by decide) (by decide) (by decide), vk 91 (by decide) (by decide) (by decide)]
          · rw [tk 9 (by decide) (by decide) (by decide), v9, ← ht, mup_self]
          · rw [tk 9 (by decide) (by decide) (by decide), v9]
          · rw [tk 10 (by decide) (by decide) (by decide), v10]
            by_cases e : j = m
            · rw [if_pos e]; exact ⟨r, hr, rfl⟩
            · rw [if_neg e]; exact (p2 j hj).1
          · rw [tk 11 (by decide) (by decide) (by decide), v11]
            by_cases e : j = m
            · rw [if_pos e]; exact ⟨g, hg, rfl⟩
            · rw [if_neg e]; exact (p2 j hj).2
          · rw [tk 10 (by decide) (by decide) (by decide), v10, t92, (p3 j hj).1]
          · rw [tk 11 (by decide) (by decide) (by decide), v11, t93, (p3 j hj).2]
          · intro k a b
            rw [tk k (by omega) (by omega) (by omega), vk k (by omega) (by omega) (by omega)]
          · rw [tk 109 (by decide) (by decide) (by decide), vk 109 (by decide) (by decide) (by decide)]
          · rw [tk 110 (by decide) (by decide) (by decide), vk 110 (by decide) (by decide) (by decide)]
          · intro k hk
            rw [tk k (by omega) (by omega) (by omega), vk k (by omega) (by omega) (by omega)]
def shf (f : Nat → Int32) (i m : Nat) : Nat → Int32 := fun j => if i ≤ j ∧ j + 1 < m then f (j + 1) else f j
theorem shf_end {f : Nat → Int32} {i m : Nat} (h : m ≤ i + 1) : shf f i m = f := by
  funext j
  unfold shf
  rw [if_neg (by omega)]
theorem shf_step {f : Nat → Int32} {i m : Nat} (h : i + 1 < m) : shf (upd f i (f (i + 1))) (i + 1) m = shf f i m := by
  funext j
  unfold shf
  by_cases e : j = i
  · subst e
    rw [if_neg (by omega), if_pos (by omega), pk_us]
  · by_cases c : i + 1 ≤ j ∧ j + 1 < m
    · rw [if_pos c, if_pos (by omega), pk_un (by omega)]
    · rw [if_neg c, if_neg (by omega), pk_un e]
theorem mup_row (u : MU) (k j : Nat) (x : Int32) : mup u k j x k = upd (u k) j x := by unfold mup mrow; rw [if_pos rfl]
theorem rem_l {m : Nat} (hm : m ≤ 16) (h0 : 0 < m) : ∀ (d i F : Nat) (u : MU), m - 1 - i ≤ d → d < F → i ≤ m - 1 → u 9 2 = nI m → ∃ v : MU, l_X4_remove_2 9 F (nI i) u = some (0, v) ∧ v 9 2 = nI (m - 1) ∧ v 10 = shf (u 10) i m ∧ v 11 = shf (u 11) i m ∧ ∀ k : Nat, k ≠ 9 → k ≠ 10 → k ≠ 11 → v k = u k := by
  intro d
  have exit : ∀ (i F : Nat) (u : MU), 0 < F → m - 1 ≤ i → i ≤ m - 1 → u 9 2 = nI m → ∃ v : MU, l_X4_remove_2 9 F (nI i) u = some (0, v) ∧ v 9 2 = nI (m - 1) ∧ v 10 = shf (u 10) i m ∧ v 11 = shf (u 11) i m ∧ ∀ k : Nat, k ≠ 9 → k ≠ 10 → k ≠ 11 → v k = u k := by
    intro i F u h1 h2 h3 h4
    obtain ⟨F, rfl⟩ : ∃ g, F = g + 1 := ⟨F - 1, by omega⟩
    rw [l_X4_remove_2, b_X4_remove_2, h4, sub1_ h0, if_pos ((le_ (by omega) (by omega)).mpr h2), mSe]
    exact ⟨_, rfl, mup_self, by rw [mup_ne (by decide), shf_end (by omega)], by rw [mup_ne (by decide), shf_end (by omega)], fun k a _ _ => mup_ne a⟩
  induction d with
  | zero => intro i F u h1 h2 h3 h4; exact exit i F u (by omega) (by omega) h3 h4
  | succ d ih =>
    intro i F u h1 h2 h3 h4
    by_cases hl : i < m - 1
    · obtain ⟨F, rfl⟩ : ∃ g, F = g + 1 := ⟨F - 1, by omega⟩
      rw [l_X4_remove_2, b_X4_remove_2, h4, sub1_ h0, if_neg (fun z => absurd ((le_ (by omega) (by omega)).mp z) (by omega)), nI_1, gdt (ix_ (by omega) (by omega)), gdt (ix_ (by omega) (by omega)), mSe, nc_ (by omega), nc_ (by omega), gdt (ix_ (by omega) (by omega)), gdt (ix_ (by omega) (by omega)), mSe]
      obtain ⟨v, e1, e2, e3, e4, e5⟩ := ih (i + 1) F (mup (mup u (9 + 1) i (u (9 + 1) (i + 1))) (9 + 2) i (mup u (9 + 1) i (u (9 + 1) (i + 1)) (9 + 2) (i + 1))) (by omega) (by omega) (by omega) (by rw [mup_ne (by decide), mup_ne (by decide)]; exact h4)
      refine ⟨v, e1, e2, ?_, ?_, fun k a b c => ?_⟩
      · rw [e3, mup_ne (show (10 : Nat) ≠ 9 + 2 by decide), mup_row u 10]
        exact shf_step (by omega)
      · rw [e4, mup_row _ 11, mup_ne (show (11 : Nat) ≠ 9 + 1 by decide)]
        exact shf_step (by omega)
      · rw [e5 k a b c, mup_ne c, mup_ne b]
    · exact exit i F u (by omega) (by omega) h3 h4
theorem mrem_l {m : Nat} (hm : m ≤ 16) (h0 : 0 < m) : ∀ (d i F : Nat) (u : MU), m - 1 - i ≤ d → d < F → i ≤ m - 1 → u 88 5 = nI (m - 1) → ∃ v : MU, l_X7_drop_22 F (nI i) u = some (nI (m - 1), v) ∧ v 92 = shf (u 92) i m ∧ v 93 = shf (u 93) i m ∧ ∀ k : Nat, k ≠ 92 → k ≠ 93 → v k = u k := by
  intro d
  have exit : ∀ (i F : Nat) (u : MU), 0 < F → m - 1 ≤ i → i ≤ m - 1 → u 88 5 = nI (m - 1) → ∃ v : MU, l_X7_drop_22 F (nI i) u = some (nI (m - 1), v) ∧ v 92 = shf (u 92) i m ∧ v 93 = shf (u 93) i m ∧ ∀ k : Nat, k ≠ 92 → k ≠ 93 → v k = u k := by
    intro i F u h1 h2 h3 h4
    obtain ⟨F, rfl⟩ : ∃ g, F = g + 1 := ⟨F - 1, by omega⟩
    rw [l_X7_drop_22, b_X7_drop_22, h4, if_pos ((le_ (by omega) (by omega)).mpr h2)]
    exact ⟨u, rfl, (shf_end (by omega)).symm, (shf_end (by omega)).symm, fun k _ _ => rfl⟩
  induction d with
  | zero => intro i F u h1 h2 h3 h4; exact exit i F u (by omega) (by omega) h3 h4
  | succ d ih =>
    intro i F u h1 h2 h3 h4
    by_cases hl : i < m - 1
    · obtain ⟨F, rfl⟩ : ∃ g, F = g + 1 := ⟨F - 1, by omega⟩
      rw [l_X7_drop_22, b_X7_drop_22, h4, if_neg (fun z => absurd ((le_ (by omega) (by omega)).mp z) (by omega)), nI_1, gdt (ix_ (by omega) (by omega)), gdt (ix_ (by omega) (by omega)), mSe, nc_ (by omega), nc_ (by omega), gdt (ix_ (by omega) (by omega)), gdt (ix_ (by omega) (by omega)), mSe]
      obtain ⟨v, e1, e3, e4, e5⟩ := ih (i + 1) F (mup (mup u 92 i (u 92 (i + 1))) 93 i (mup u 92 i (u 92 (i + 1)) 93 (i + 1))) (by omega) (by omega) (by omega) (by rw [mup_ne (by decide), mup_ne (by decide)]; exact h4)
      refine ⟨v, e1, ?_, ?_, fun k b c => ?_⟩
      · rw [e3, mup_ne (show (92 : Nat) ≠ 93 by decide), mup_row u 92]
        exact shf_step (by omega)
      · rw [e4, mup_row _ 93, mup_ne (show (93 : Nat) ≠ 92 by decide)]
        exact shf_step (by omega)
      · rw [e5 k b c, mup_ne c, mup_ne b]
    · exact exit i F u (by omega) (by omega) h3 h4
theorem isC_in {u : MU} {m k : Nat} (hm : m ≤ 16) (h : u 88 5 = nI m) (hk : k < m) : f_X7_isCall (nI k) u = some (1, u) := by
  have e : ((u 88 5) - 1).toInt64.toInt = ((m : Int) - 1) := by
    rw [h, sub1_ (by omega), Int32.toInt_toInt64, toInt_n (by omega)]; omega
  rw [f_X7_isCall, mBe (in_s _ 0 _ 0 _ (by decide) e u), toInt_n (by omega), if_pos (show (0 : Int) ≤ (k : Int) ∧ (k : Int) ≤ (m : Int) - 1 by omega), gdt z_one]
theorem isC_out {u : MU} {m : Nat} {x : Int32} (hm : m ≤ 16) (h : u 88 5 = nI m) (hx : x < 0 ∨ nI m ≤ x) : f_X7_isCall x u = some (0, u) := by
  have hq := out_toInt (n := m) (by omega) hx
  by_cases m0 : m = 0
  · subst m0
    have e : ((u 88 5) - 1).toInt64.toInt = (-1 : Int) := by rw [h]; decide
    rw [f_X7_isCall, mBe (in_s x 0 _ 0 _ (by decide) e u), if_neg (show ¬ (0 ≤ x.toInt ∧ x.toInt ≤ -1) by omega), gdt z_zero]
  · have e : ((u 88 5) - 1).toInt64.toInt = ((m : Int) - 1) := by
      rw [h, sub1_ (by omega), Int32.toInt_toInt64, toInt_n (by omega)]; omega
    rw [f_X7_isCall, mBe (in_s x 0 _ 0 _ (by decide) e u), if_neg (show ¬ (0 ≤ x.toInt ∧ x.toInt ≤ (m : Int) - 1) by omega), gdt z_zero]
theorem shf_ok {P : Int32 → Prop} {f : Nat → Int32} {i m : Nat} (hm : m ≤ 16) (h : ∀ j : Nat, j < 16 → P (f j)) : ∀ j : Nat, j < 16 → P (shf f i m j) := by
  intro j hj
  unfold shf
  by_cases c : i ≤ j ∧ j + 1 < m
  · rw [if_pos c]; exact h _ (by omega)
  · rw [if_neg c]; exact h j hj
theorem shf_eq {f g : Nat → Int32} {i m : Nat} (hm : m ≤ 16) (h : ∀ j : Nat, j < 16 → f j = g j) : ∀ j : Nat, j < 16 → shf f i m j = shf g i m j := by
  intro j hj
  unfold shf
  by_cases c : i ≤ j ∧ j + 1 < m
  · rw [if_pos c, if_pos c, h _ (by omega)]
  · rw [if_neg c, if_neg c, h j hj]
theorem op_drop (x : Int32) : Same (f_X6_drop x) (f_X7_drop x) := by
  intro u h
  obtain ⟨p1, ⟨⟨m, hm, pm⟩, p2⟩, p3⟩ := h.2.2.1
  have p5 : u 88 5 = nI m := by rw [← p1, pm]
  rcases rg x m (by omega) with hx | ⟨c, hc, rfl⟩
  · refine ⟨-1, u, u, ?_, ?_, h⟩
    · rw [f_X6_drop, pm, mBe (wi_out hx u), if_pos rfl]
    · rw [f_X7_drop, mBe (isC_out hm p5 hx), if_pos rfl]
  · obtain ⟨v, e1, e2, e3, e4, e5⟩ := rem_l hm (by omega) 16 c FU u (by omega) (by unfold FU; omega) (by omega) pm
    have v5 : v 88 5 = nI m := by rw [e5 88 (by decide) (by decide) (by decide)]; exact p5
    obtain ⟨t, g1, g3, g4, g5⟩ := mrem_l hm (by omega) 16 c FU (mup v 88 5 (nI (m - 1))) (by omega) (by unfold FU; omega) (by omega) mup_self
    have tk : ∀ k : Nat, k ≠ 88 → k ≠ 92 → k ≠ 93 → t k = v k := fun k a b c => by rw [g5 k b c, mup_ne a]
    refine ⟨nI (m - 1), v, t, ?_, ?_, ?_⟩
    · rw [f_X6_drop, pm, mBe (wi_in hc (by omega) u), if_neg (by decide), f_X4_remove, mBe e1, e2]
    · rw [f_X7_drop, mBe (isC_in hm v5 hc), if_neg (by decide), v5, sub1_ (by omega), mSe, g1]
    · refine h.mk3 (h.2.1.cong ?_ ?_) ⟨?_, ⟨⟨m - 1, by omega, ?_⟩, fun j hj => ⟨?_, ?_⟩⟩, fun j hj => ⟨?_, ?_⟩⟩ (h.2.2.2.1.cong ?_ ?_ ?_) ?_
      · rw [tk 8 (by decide) (by decide) (by decide), e5 8 (by decide) (by decide) (by decide)]
      · rw [tk 91 (by decide) (by decide) (by decide), e5 91 (by decide) (by decide) (by decide)]
      · rw [tk 9 (by decide) (by decide) (by decide), e2, g5 88 (by decide) (by decide), mup_self]
      · rw [tk 9 (by decide) (by decide) (by decide), e2]
      · rw [tk 10 (by decide) (by decide) (by decide), e3]
        exact shf_ok (P := fun z => ∃ w : Nat, w < 6 ∧ z = nI w) hm (fun j hj => (p2 j hj).1) j hj
      · rw [tk 11 (by decide) (by decide) (by decide), e4]
        exact shf_ok (P := fun z => ∃ w : Nat, w < 12 ∧ z = nI w) hm (fun j hj => (p2 j hj).2) j hj
      · rw [tk 10 (by decide) (by decide) (by decide), e3, g3, mup_ne (by decide), e5 92 (by decide) (by decide) (by decide)]
        exact shf_eq hm (fun j hj => (p3 j hj).1) j hj
      · rw [tk 11 (by decide) (by decide) (by decide), e4, g4, mup_ne (by decide), e5 93 (by decide) (by decide) (by decide)]
        exact shf_eq hm (fun j hj => (p3 j hj).2) j hj
      · intro k a b
        rw [tk k (by omega) (by omega) (by omega), e5 k (by omega) (by omega) (by omega)]
      · rw [tk 109 (by decide) (by decide) (by decide), e5 109 (by decide) (by decide) (by decide)]
      · rw [tk 110 (by decide) (by decide) (by decide), e5 110 (by decide) (by decide) (by decide)]
      · intro k hk
        rw [tk k (by omega) (by omega) (by omega), e5 k (by omega) (by omega) (by omega)]
