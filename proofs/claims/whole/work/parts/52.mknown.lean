theorem oF_neg {o : Option Nat} : (0 ≤ oF o) ↔ ∃ a, o = some a ∧ 0 ≤ nI a := by
  cases o with
  | none => simp only [oF]; constructor
            · intro h; exact absurd h (by decide)
            · rintro ⟨a, h, _⟩; cases h
  | some a => simp only [oF]; exact ⟨fun h => ⟨a, rfl, h⟩, fun ⟨b, h1, h2⟩ => by cases h1; exact h2⟩
theorem pA_fl {w : Nat → Int32} {n : Nat} (hn : n ≤ 30) : ∀ (f a b : Nat), a ≤ n → (pA w n f a).2 = some b → b ≤ 30 := by
  intro f
  induction f with
  | zero => intro a b h1 h2; rw [pA] at h2; cases h2
  | succ f ih =>
    intro a b h1 h2
    rw [pA] at h2
    by_cases c : a < n
    · rw [if_pos c] at h2
      obtain ⟨p1, p2, p3⟩ := pS_le (w := w) c
      cases hp : pS w n a with
      | mk b' o =>
        rw [hp] at h2 p2
        cases o with
        | none =>
          dsimp only at h2 p2
          have := Option.some.inj h2
          omega
        | some st =>
          dsimp only at h2 p2
          exact ih b' b p2 h2
    · rw [if_neg c] at h2; cases h2
theorem fl_neg {u : MU} (hT : TX u) {r : Nat} (hr : r < 6) : (0 ≤ oF (flOf u r)) ↔ ¬ flOf u r = none := by
  rw [oF_neg]
  constructor
  · rintro ⟨a, h, _⟩ q; rw [h] at q; cases q
  · intro h
    cases hf : flOf u r with
    | none => exact absurd hf h
    | some a =>
      have := pA_fl (hT r hr).1 31 0 a (Nat.zero_le _) hf
      exact ⟨a, rfl, (z0_ (by omega)).mpr trivial⟩
theorem kn_l {u0 : MU} (hT : TX u0) {r : Nat} (hr : r < 6) : ∀ (d i F : Nat) (z : Int32) (u : MU), 6 - i ≤ d → d < F → i ≤ 6 → pf7 u0 u → mZ z = true → ∃ (z' : Int32) (v : MU), l_X7_isKnown_4 (nI r) F z (nI i) u = some (z', v) ∧ pf7 u0 v ∧ mZ z' = true ∧ (z' = 1 ↔ z = 1 ∧ ∀ s : Nat, i ≤ s → s < 6 → bt (u0 98 r) s = true → flOf u0 s = none) := by
  intro d
  have exit : ∀ (i F : Nat) (z : Int32) (u : MU), 0 < F → 6 ≤ i → i ≤ 6 → pf7 u0 u → mZ z = true → ∃ (z' : Int32) (v : MU), l_X7_isKnown_4 (nI r) F z (nI i) u = some (z', v) ∧ pf7 u0 v ∧ mZ z' = true ∧ (z' = 1 ↔ z = 1 ∧ ∀ s : Nat, i ≤ s → s < 6 → bt (u0 98 r) s = true → flOf u0 s = none) := by
    intro i F z u h1 h2 h3 h4 h5
    obtain ⟨F, rfl⟩ : ∃ g, F = g + 1 := ⟨F - 1, by omega⟩
    rw [l_X7_isKnown_4, b_X7_isKnown_4, if_pos ((le_ (by omega) (by omega)).mpr (by omega)), gdt h5]
    exact ⟨z, u, rfl, h4, h5, ⟨fun h => ⟨h, fun s a b => by omega⟩, fun h => h.1⟩⟩
  induction d with
  | zero => intro i F z u h1 h2 h3 h4 h5; exact exit i F z u (by omega) (by omega) h3 h4 h5
  | succ d ih =>
    intro i F z u h1 h2 h3 h4 h5
    by_cases hi : i < 6
    · obtain ⟨F, rfl⟩ : ∃ g, F = g + 1 := ⟨F - 1, by omega⟩
      rw [l_X7_isKnown_4, b_X7_isKnown_4, if_neg (fun q => absurd ((le_ (by omega) (by omega)).mp q) (by omega))]
      have go : ∀ (z2 : Int32) (t : MU), pf7 u0 t → mZ z2 = true → (z2 = 1 ↔ z = 1 ∧ (bt (u0 98 r) i = true → flOf u0 i = none)) → ∃ (z' : Int32) (v : MU), l_X7_isKnown_4 (nI r) F z2 (nI (i + 1)) t = some (z', v) ∧ pf7 u0 v ∧ mZ z' = true ∧ (z' = 1 ↔ z = 1 ∧ ∀ s : Nat, i ≤ s → s < 6 → bt (u0 98 r) s = true → flOf u0 s = none) := by
        intro z2 t ht hz2 hiff
        obtain ⟨z', v, e1, e2, e3, e4⟩ := ih (i + 1) F z2 t (by omega) (by omega) (by omega) ht hz2
        refine ⟨z', v, e1, e2, e3, e4.trans ?_⟩
        rw [hiff]
        constructor
        · rintro ⟨⟨a, b⟩, c⟩
          refine ⟨a, fun s a1 a2 a3 => ?_⟩
          by_cases es : s = i
          · subst es; exact b a3
          · exact c s (by omega) a2 a3
        · rintro ⟨a, b⟩
          exact ⟨⟨a, fun h => b i (by omega) hi h⟩, fun s h1 h2 h3 => b s (by omega) h2 h3⟩
      rcases mZ_or h5 with q | q
      · rw [if_pos q, b_X7_isKnown_39, b_X7_isKnown_40, nI_1]
        exact go 0 u h4 rfl ⟨fun h => absurd h (by decide), fun h => by rw [q] at h; exact absurd h.1 (by decide)⟩
      · have e98 : u 98 r = u0 98 r := by rw [h4.1 98 (by decide)]
        rw [if_neg (by rw [q]; decide), gdt (ix_ hr (by omega)), nc_ (by omega), e98]
        by_cases c : bt (u0 98 r) i = true
        · rw [if_neg (fun h => by rw [(tb_sh0 (by omega)).mp h] at c; cases c)]
          have hTu : TX u := h4.fE.tx hT
          obtain ⟨v, f1, f2⟩ := faultOf_s (u := u) hi (hTu i hi).1 (hTu i hi).2.1 (hTu.text hi)
          rw [mBe f1]
          have ef : (pA (tW u i) (tN u i) 31 0).2 = flOf u0 i := by rw [← h4.fE.ss.2]; rfl
          rw [ef]
          by_cases c2 : flOf u0 i = none
          · rw [if_neg (fun h => (fl_neg hT hi).mp h c2), b_X7_isKnown_35, b_X7_isKnown_40, nI_1]
            exact go 1 v (h4.tr f2) rfl ⟨fun _ => ⟨q, fun _ => c2⟩, fun _ => rfl⟩
          · rw [if_pos ((fl_neg hT hi).mpr c2), b_X7_isKnown_39, b_X7_isKnown_40, nI_1]
            exact go 0 v (h4.tr f2) rfl ⟨fun h => absurd h (by decide), fun h => absurd (h.2 c) c2⟩
        · rw [if_pos ((tb_sh0 (by omega)).mpr (by simpa using c)), b_X7_isKnown_35, b_X7_isKnown_40, nI_1]
          exact go 1 u h4 rfl ⟨fun _ => ⟨q, fun h => absurd h c⟩, fun _ => rfl⟩
    · exact exit i F z u (by omega) (by omega) h3 h4 h5
/-- the model knows what the class knows -/
theorem mknown_s {u : MU} (hT : TX u) (hR : RE u) (hK : KN u) {r : Nat} (hr : r < 6) : ∃ v : MU, f_X7_isKnown (nI r) u = some (u 7 r, v) ∧ pf7 u v := by
  obtain ⟨z, v, e1, e2, e3, e4⟩ := kn_l hT hr 6 0 FU 1 u (by omega) (by unfold FU; omega) (by omega) (pf7.rf u) rfl
  obtain ⟨k1, k2, k3⟩ := hK
  rw [nI_0] at e1
  refine ⟨v, ?_, e2⟩
  rw [f_X7_isKnown, e1]
  have : z = u 7 r := by
    have key : z = 1 ↔ u 7 r = 1 := by
      rw [e4]
      constructor
      · rintro ⟨-, h⟩
        refine k3 (fun s => s < 6 ∧ bt (u 98 r) s = true) (fun s hs hb => ⟨h s (by omega) hs hb.2, fun st hst q3 => ?_⟩) r hr ⟨hr, (hR.2 r hr).1⟩
        have hc : cal u s st.2.2.1 := ⟨st, hst, q3, rfl⟩
        exact ⟨cal_lt hT hs hc, (hR.2 r hr).2 s hs hb.2 _ hc⟩
      · intro h
        refine ⟨rfl, fun s _ hs hb => ?_⟩
        have := hR.1 r hr (fun s => u 7 s = 1) h (fun s t hs hSs hc => by
          obtain ⟨st, a, b, c⟩ := hc
          rw [← c]
          exact (k2 s hs hSs).2 st a b) s hs hb
        exact (k2 s hs this).1
    rcases mZ_or e3 with q | q
    · rcases mZ_or (k1 r hr) with p | p
      · rw [q, p]
      · have := key.mpr p
        rw [q] at this
        exact absurd this (by decide)
    · rw [q, key.mp q]
  rw [this]
