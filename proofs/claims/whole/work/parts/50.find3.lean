def pP (u0 u : MU) (r x : Nat) : Prop := (∀ i : Nat, i < 4 → isub (u (3 + i) (12 * r + x)) (msk i)) ∧ (u0 7 r = 1 → (∀ st ∈ ssOf u0 r, ∀ i : Nat, i < 4 → isub (ownM i st x) (u (3 + i) (12 * r + x))) ∧ ∀ G : Nat → Int32, (∀ st ∈ ssOf u0 r, ∀ i : Nat, i < 4 → isub (ownM i st x) (G i)) → ∀ i : Nat, i < 4 → isub (u (3 + i) (12 * r + x)) (G i))
theorem pP.cong {u0 u v : MU} {r x : Nat} (h : pP u0 u r x) (e : ∀ i : Nat, i < 4 → v (3 + i) (12 * r + x) = u (3 + i) (12 * r + x)) : pP u0 v r x := by
  refine ⟨fun i hi => by rw [e i hi]; exact h.1 i hi, fun q => ⟨fun st hst i hi => by rw [e i hi]; exact (h.2 q).1 st hst i hi, fun G hG i hi => by rw [e i hi]; exact (h.2 q).2 G hG i hi⟩⟩
theorem btI_msk : ∀ k : Nat, k < 18 → isub (btI k) (nI 262143) := by
  intro k hk
  unfold isub
  have : ∀ k : Nat, k < 18 → btI k ||| nI 262143 = nI 262143 := by decide +kernel
  exact this k hk
theorem ownM_msk {st : pSt} {x : Nat} (h : stOK st) : ∀ i : Nat, i < 4 → isub (ownM i st x) (msk i) := by
  have hp := plc_18 (x := x) h.2.1
  intro i hi
  rcases i4 hi with rfl | rfl | rfl | rfl
  · show isub (ownM 0 st x) (nI 262143)
    simp only [ownM]
    by_cases c : st.1 = 2
    · rw [if_pos c]; exact btI_msk _ hp
    · rw [if_neg c]
      by_cases c2 : st.1 < 2
      · rw [if_pos c2]
        refine lbits_le _ _ (isub.zero _) (fun l hl => ?_)
        unfold lbt
        by_cases c3 : l.1 = 2
        · rw [if_pos c3]
          refine btI_msk _ (plc_18 ?_)
          rcases h.2.2.2.2 l hl with q | q | q <;> omega
        · rw [if_neg c3]; exact isub.zero _
      · rw [if_neg c2]; exact isub.zero _
  · show isub (ownM 1 st x) (nI 262143)
    simp only [ownM]
    by_cases c : st.1 = 0
    · rw [if_pos c]; exact btI_msk _ hp
    · rw [if_neg c]; exact isub.zero _
  · show isub (ownM 2 st x) (nI 262143)
    simp only [ownM]
    by_cases c : st.1 = 1
    · rw [if_pos c]; exact btI_msk _ hp
    · rw [if_neg c]; exact isub.zero _
  · show isub (ownM 3 st x) 1
    simp only [ownM]
    by_cases c : st.1 = 2
    · rw [if_pos c]; exact isub.rf _
    · rw [if_neg c]; exact isub.zero _
theorem fs_l {u0 : MU} (hT : TX u0) (hK : KN u0) {r : Nat} (hr : r < 6) (k15 : Int32 → MU → mR) : ∀ (d x F : Nat) (u : MU), 12 - x ≤ d → d < F → x ≤ 12 → eO u0 u → (∀ r' x' : Nat, r' < 6 → x' < 12 → 12 * r' + x' < 12 * r + x → pP u0 u r' x') → ∃ v : MU, l_X0_find_23 k15 F (nI r) (nI x) u = k15 (nI (r + 1)) v ∧ eO u0 v ∧ ∀ r' x' : Nat, r' < 6 → x' < 12 → 12 * r' + x' < 12 * (r + 1) → pP u0 v r' x' := by
  intro d
  have exit : ∀ (x F : Nat) (u : MU), 0 < F → 12 ≤ x → x ≤ 12 → eO u0 u → (∀ r' x' : Nat, r' < 6 → x' < 12 → 12 * r' + x' < 12 * r + x → pP u0 u r' x') → ∃ v : MU, l_X0_find_23 k15 F (nI r) (nI x) u = k15 (nI (r + 1)) v ∧ eO u0 v ∧ ∀ r' x' : Nat, r' < 6 → x' < 12 → 12 * r' + x' < 12 * (r + 1) → pP u0 v r' x' := by
    intro x F u h1 h2 h3 h4 h5
    obtain ⟨F, rfl⟩ : ∃ g, F = g + 1 := ⟨F - 1, by omega⟩
    rw [l_X0_find_23, b_X0_find_23, if_pos ((le_ (by omega) (by omega)).mpr (by omega)), nI_1]
    exact ⟨u, rfl, h4, fun r' x' a b c => h5 r' x' a b (by omega)⟩
  induction d with
  | zero => intro x F u h1 h2 h3 h4 h5; exact exit x F u (by omega) (by omega) h3 h4 h5
  | succ d ih =>
    intro x F u h1 h2 h3 h4 h5
    by_cases hx : x < 12
    · obtain ⟨F, rfl⟩ : ∃ g, F = g + 1 := ⟨F - 1, by omega⟩
      obtain ⟨s1, s2⟩ := ss_cong (h4 89 (by omega)) (h4 90 (by omega))
      have u7 : u 7 = u0 7 := h4 7 (by omega)
      have hTu : TX u := hT.cong (h4 89 (by omega)) (h4 90 (by omega)) (fun k a b => h4 k (by omega))
      obtain ⟨v, e1, e2, e3, e4⟩ := start_s (u := u) hr hx (hTu r hr).2.2 (by rw [u7]; exact hK.1 r hr) (fun q => by rw [s2]; rw [u7] at q; exact (hK.2.1 r hr q).1)
      rw [u7, s1] at e4
      rw [u7] at e3
      rw [l_X0_find_23, b_X0_find_23, if_neg (fun q => absurd ((le_ (by omega) (by omega)).mp q) (by omega)), gdt (ix_ hr (by omega)), rtn_n (by omega), mBe e1, nI_1]
      refine ih (x + 1) F v (by omega) (by omega) (by omega) (h4.tr e2.1) (fun r' x' a b c => ?_)
      by_cases ee : 12 * r' + x' = 12 * r + x
      · have er : r' = r := by omega
        have ex : x' = x := by omega
        subst er; subst ex
        refine ⟨fun i hi => ?_, e4⟩
        rcases mZ_or (hK.1 r' hr) with q | q
        · rw [e3 q i hi]; exact isub.zero _
        · exact (e4 q).2 msk (fun st hst => ownM_msk (ssOf_ok hT hr st hst)) i hi
      · exact (h5 r' x' a b (by omega)).cong (fun i hi => e2.2 i hi _ ee)
    · exact exit x F u (by omega) (by omega) h3 h4 h5
theorem fo_l {u0 : MU} (hT : TX u0) (hK : KN u0) : ∀ (d r F : Nat) (u : MU), 6 - r ≤ d → d < F → r ≤ 6 → eO u0 u → (∀ r' x' : Nat, r' < 6 → x' < 12 → 12 * r' + x' < 12 * r → pP u0 u r' x') → ∃ v : MU, l_X0_find_15 F (nI r) u = some (0, mup v 2 5 1) ∧ eO u0 v ∧ CE v := by
  intro d
  have exit : ∀ (r F : Nat) (u : MU), 0 < F → 6 ≤ r → r ≤ 6 → eO u0 u → (∀ r' x' : Nat, r' < 6 → x' < 12 → 12 * r' + x' < 12 * r → pP u0 u r' x') → ∃ v : MU, l_X0_find_15 F (nI r) u = some (0, mup v 2 5 1) ∧ eO u0 v ∧ CE v := by
    intro r F u h1 h2 h3 h4 h5
    obtain ⟨F, rfl⟩ : ∃ g, F = g + 1 := ⟨F - 1, by omega⟩
    have hI : sI u0 u := by
      refine ⟨h4, fun G hG r' hr' hk' x hx i hi => ?_, fun i hi e he => ?_⟩
      · exact ((h5 r' x hr' hx (by omega)).2 hk').2 (fun i => G i (12 * r' + x)) (fun st hst i hi => ((hG r' hr' hk' x hx) st hst i hi).1) i hi
      · have := (h5 (e / 12) (e % 12) (by omega) (by omega) (by omega)).1 i hi
        rw [show 12 * (e / 12) + e % 12 = e by omega] at this
        exact this
    rw [l_X0_find_15, b_X0_find_15, if_pos ((le_ (by omega) (by omega)).mpr (by omega)), show l_X0_find_54 FU 1 0 u = l_X0_find_54 FU 1 (nI 0) u from rfl]
    obtain ⟨v, e1, e2, e3, e4⟩ := f54_l hT hK 3961 0 FU 1 u (by omega) (by unfold FU; omega) (by omega) rfl hI (fun _ => Nat.zero_le _) (fun h => absurd h (by decide))
    refine ⟨v, e1, e2.1, ?_⟩
    obtain ⟨s1, s2⟩ := e2.ss
    have v7 : v 7 = u0 7 := e2.1 7 (by omega)
    unfold CE
    rw [s1, v7]
    refine ⟨fun r' hr' hk' x hx st hst i hi => ⟨?_, fun q3 => e4 r' hr' hk' x hx st hst q3 i hi⟩, fun G hG r' hr' hk' x hx i hi => e2.2.1 G hG r' hr' hk' x hx i hi⟩
    exact (((h5 r' x hr' hx (by omega)).2 hk').1 st hst i hi).tr (e3 i hi _)
  induction d with
  | zero => intro r F u h1 h2 h3 h4 h5; exact exit r F u (by omega) (by omega) h3 h4 h5
  | succ d ih =>
    intro r F u h1 h2 h3 h4 h5
    by_cases hr : r < 6
    · obtain ⟨F, rfl⟩ : ∃ g, F = g + 1 := ⟨F - 1, by omega⟩
      rw [l_X0_find_15, b_X0_find_15, if_neg (fun q => absurd ((le_ (by omega) (by omega)).mp q) (by omega))]
      obtain ⟨v, e1, e2, e3⟩ := fs_l hT hK hr (fun x2 u => l_X0_find_15 F x2 u) 12 0 FU u (by omega) (by unfold FU; omega) (by omega) h4 (fun r' x' a b c => h5 r' x' a b (by omega))
      rw [show l_X0_find_23 (fun x2 u => l_X0_find_15 F x2 u) FU (nI r) 0 u = l_X0_find_23 (fun x2 u => l_X0_find_15 F x2 u) FU (nI r) (nI 0) u from rfl, e1]
      exact ih (r + 1) F v (by omega) (by omega) (by omega) e2 e3
    · exact exit r F u (by omega) (by omega) h3 h4 h5
/-- the class's effects are found -/
theorem find_s {u : MU} (h : Inv u) : ∃ v : MU, f_X0_find u = some (0, v) ∧ Inv v ∧ KN v ∧ CE v ∧ ∀ k : Nat, (k < 2 ∨ 7 < k) → v k = u k := by
  obtain ⟨h1, h2, h3, h4, h5⟩ := h
  rcases h5 with h5 | ⟨h5, hK, hC⟩
  · obtain ⟨a, e1, e2, e3⟩ := known_s h1
    have hTa := h1.only7 e2
    obtain ⟨v, f1, f2, f3⟩ := fo_l hTa e3 6 0 FU a (by omega) (by unfold FU; omega) (by omega) (fun _ _ => rfl) (fun r' x' _ _ c => by omega)
    have vk : ∀ k : Nat, (k < 3 ∨ 7 < k) → v k = u k := fun k hk => by rw [f2 k (by omega), e2 k (by omega)]
    have wk : ∀ k : Nat, k ≠ 2 → mup v 2 5 1 k = v k := fun k hk => mup_ne hk
    obtain ⟨s1, s2⟩ := ss_cong (u := v) (v := mup v 2 5 1) (wk 89 (by decide)) (wk 90 (by decide))
    obtain ⟨s3, s4⟩ := ss_cong (u := a) (v := v) (f2 89 (by omega)) (f2 90 (by omega))
    have kn : KN (mup v 2 5 1) := by
      unfold KN
      rw [s1, s2, s3, s4, wk 7 (by decide), f2 7 (by omega)]
      exact e3
    have ce : CE (mup v 2 5 1) := by
      obtain ⟨c1, c2⟩ := f3
      unfold CE
      rw [s1, wk 7 (by decide)]
      refine ⟨fun r hr hk x hx st hst i hi => ?_, fun G hG r hr hk x hx i hi => ?_⟩
      · dsimp only
        rw [wk (3 + i) (by omega)]
        exact c1 r hr hk x hx st hst i hi
      · rw [wk (3 + i) (by omega)]
        exact c2 G hG r hr hk x hx i hi
    have frame : ∀ k : Nat, (k < 2 ∨ 7 < k) → mup v 2 5 1 k = u k := fun k hk => by rw [wk k (by omega), vk k (by omega)]
    refine ⟨mup v 2 5 1, ?_, ⟨h1.cong (frame 89 (by omega)) (frame 90 (by omega)) (fun k a b => frame k (by omega)), h2.cong (frame 8 (by omega)) (frame 91 (by omega)), h3.cong (by rw [frame 9 (by omega)]) (by rw [frame 88 (by omega)]) (frame 10 (by omega)) (frame 11 (by omega)) (frame 92 (by omega)) (frame 93 (by omega)), h4.cong (fun k a b => frame k (by omega)) (frame 109 (by omega)) (frame 110 (by omega)), Or.inr ⟨mup_self, kn, ce⟩⟩, kn, ce, frame⟩
    rw [f_X0_find, h5, if_pos rfl, mBe e1, show l_X0_find_15 FU 0 a = l_X0_find_15 FU (nI 0) a from rfl, f1]
  · refine ⟨u, ?_, ⟨h1, h2, h3, h4, Or.inr ⟨h5, hK, hC⟩⟩, hK, hC, fun _ _ => rfl⟩
    rw [f_X0_find, h5, if_neg (by decide)]
