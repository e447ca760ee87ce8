theorem pTS_le {w : Nat → Int32} {n k sp b : Nat} (h : b ≤ n) : b ≤ (pTS w n k sp b).1 ∧ (pTS w n k sp b).1 ≤ n ∧ ∀ st, (pTS w n k sp b).2 = some st → st.1 = k ∧ st.2.1 = sp ∧ st.2.2.1 = 0 ∧ b + st.2.2.2.length ≤ (pTS w n k sp b).1 ∧ ∀ l ∈ st.2.2.2, lfOK l := by
  obtain ⟨h1, h2, h3⟩ := pT_le (w := w) (n := n) 31 1 b h
  unfold pTS
  cases hp : pT w n 31 1 b with
  | mk b' o =>
    rw [hp] at h1 h2 h3
    cases o with
    | none => exact ⟨h1, h2, fun st hst => by cases hst⟩
    | some ls =>
      refine ⟨h1, h2, fun st hst => ?_⟩
      cases hst
      exact ⟨rfl, rfl, rfl, (h3 ls rfl).1, (h3 ls rfl).2⟩
/-- what a statement may be -/
def stOK (st : pSt) : Prop := st.1 ≤ 3 ∧ st.2.1 < 30 ∧ (st.1 = 3 → 6 ≤ st.2.1) ∧ st.2.2.1 < 6 ∧ ∀ l ∈ st.2.2.2, lfOK l
theorem let_ltr {w : Nat → Int32} {n a : Nat} (h : isLet (hr w n a) = true) : ltr (hr w n a) < 6 := by
  obtain ⟨d, hd, he⟩ := let_of h
  rw [he, ltr, nc_ (by omega)]; omega
theorem pS_le {w : Nat → Int32} {n a : Nat} (h : a < n) : a ≤ (pS w n a).1 ∧ (pS w n a).1 ≤ n ∧ ∀ st, (pS w n a).2 = some st → a + 2 ≤ (pS w n a).1 ∧ a + st.2.2.2.length ≤ (pS w n a).1 ∧ stOK st := by
  unfold pS
  by_cases c1 : hr w n a = nI 61 ∨ hr w n a = nI 43
  · rw [if_pos c1]
    by_cases c : isLet (hr w n (a + 1)) = true
    · have hl := let_lt c
      have h6 := let_ltr c
      rw [if_pos c]
      obtain ⟨k1, k2, k3⟩ := pTS_le (w := w) (n := n) (k := if hr w n a = nI 61 then 0 else 1) (sp := ltr (hr w n (a + 1))) (b := a + 2) (by omega)
      refine ⟨by omega, k2, fun st hst => ?_⟩
      obtain ⟨m1, m2, m3, m4, m5⟩ := k3 st hst
      refine ⟨k1, by omega, ?_, by omega, fun q => ?_, by omega, m5⟩
      · rw [m1]; split <;> omega
      · rw [m1] at q; split at q <;> omega
    · rw [if_neg c]
      exact ⟨by simp only; omega, by simp only; omega, fun st hst => by cases hst⟩
  · rw [if_neg c1]
    by_cases c2 : hr w n a = nI 35 ∨ hr w n a = nI 94
    · rw [if_pos c2]
      obtain ⟨i1, i2, i3⟩ := pI_le (w := w) (n := n) (a := a + 1) (by omega)
      cases hp : pI w n (a + 1) with
      | mk b o =>
        rw [hp] at i1 i2 i3
        cases o with
        | none => exact ⟨by simp only at i1 ⊢; omega, i2, fun st hst => by cases hst⟩
        | some s =>
          have i4 := i3 s rfl
          dsimp only at i1 i2 i4 ⊢
          obtain ⟨k1, k2, k3⟩ := pTS_le (w := w) (n := n) (k := if hr w n a = nI 35 then 0 else 1) (sp := s) (b := b) (by omega)
          refine ⟨by omega, k2, fun st hst => ?_⟩
          obtain ⟨m1, m2, m3, m4, m5⟩ := k3 st hst
          refine ⟨by omega, by omega, ?_, by omega, fun q => ?_, by omega, m5⟩
          · rw [m1]; split <;> omega
          · rw [m1] at q; split at q <;> omega
    · rw [if_neg c2]
      by_cases c3 : hr w n a = nI 63
      · rw [if_pos c3]
        by_cases c : isLet (hr w n (a + 1)) = true
        · have hl := let_lt c
          have h6 := let_ltr c
          rw [if_pos c]
          refine ⟨by simp only; omega, by simp only; omega, fun st hst => ?_⟩
          cases hst
          refine ⟨by simp only; omega, by simp, by simp, by simp only; omega, fun q => by simp at q, by simp, fun l hl => by cases hl⟩
        · rw [if_neg c]
          exact ⟨by simp only; omega, by simp only; omega, fun st hst => by cases hst⟩
      · rw [if_neg c3]
        by_cases c4 : hr w n a = nI 99
        · rw [if_pos c4]
          by_cases c : ¬ hr w n (a + 1) < nI 48 ∧ hr w n (a + 1) < nI 54
          · have hl : a + 1 < n := hr_lt (w := w) (c := hr w n (a + 1)) rfl (fun q => by rw [q] at c; exact absurd c (by decide))
            obtain ⟨d, hd, he⟩ := (call_iff _).mp c
            have hdg : dgt (hr w n (a + 1)) = d := by rw [he, dgt, nc_ (by omega)]; omega
            rw [if_pos c]
            obtain ⟨i1, i2, i3⟩ := pI_le (w := w) (n := n) (a := a + 2) (by omega)
            cases hp : pI w n (a + 2) with
            | mk b o =>
              rw [hp] at i1 i2 i3
              cases o with
              | none => exact ⟨by simp only at i1 ⊢; omega, i2, fun st hst => by cases hst⟩
              | some s =>
                have i4 := i3 s rfl
                dsimp only at i1 i2 i4 ⊢
                refine ⟨by omega, i2, fun st hst => ?_⟩
                cases hst
                refine ⟨by omega, by simp; omega, by simp, by simp only; omega, fun _ => i4.1, by simp only; omega, fun l hl => by cases hl⟩
          · rw [if_neg c]
            exact ⟨by simp only; omega, by simp only; omega, fun st hst => by cases hst⟩
        · rw [if_neg c4]
          exact ⟨Nat.le_refl _, by simp only; omega, fun st hst => by cases hst⟩
def lsum (ss : List pSt) : Nat := match ss with
  | [] => 0
  | st :: ss => st.2.2.2.length + lsum ss
def encR (v : MU) (q : Nat) : Nat → Nat → List pSt → Prop
  | _, _, [] => True
  | s, L, st :: ss => v (q + 2) s = nI st.1 ∧ v (q + 3) s = nI st.2.1 ∧ (st.1 = 3 → v (q + 4) s = nI st.2.2.1) ∧ v (q + 5) s = nI (L + st.2.2.2.length) ∧ lvsAt v q L st.2.2.2 ∧ encR v q (s + 1) (L + st.2.2.2.length) ss
def oF (o : Option Nat) : Int32 := match o with
  | some b => nI b
  | none => -6
theorem readT_l {q n : Nat} {w : Nat → Int32} (hn : n ≤ 30) : ∀ (d a f F s Lc : Nat) (u : MU), n - a ≤ d → d < f → d < F → a ≤ n → 2 * s ≤ a → Lc ≤ a → cT u q w n → u q 11 = nI a → u q 10 = nI Lc → u q 7 = nI s → ∃ v : MU, l_X5_readText_19 q F 1 (nI s) u = some (0, v) ∧ ch q s Lc u v ∧ v q 2 = oF (pA w n f a).2 ∧ v q 7 = nI (s + (pA w n f a).1.length) ∧ s + (pA w n f a).1.length ≤ 15 ∧ encR v q s Lc (pA w n f a).1 ∧ ((pA w n f a).2 = none → v q 10 = nI (Lc + lsum (pA w n f a).1) ∧ Lc + lsum (pA w n f a).1 ≤ 30) ∧ ∀ st ∈ (pA w n f a).1, stOK st := by
  intro d
  have exit : ∀ (a f F s Lc : Nat) (u : MU), 0 < f → 0 < F → n ≤ a → a ≤ n → 2 * s ≤ a → Lc ≤ a → cT u q w n → u q 11 = nI a → u q 10 = nI Lc → u q 7 = nI s → ∃ v : MU, l_X5_readText_19 q F 1 (nI s) u = some (0, v) ∧ ch q s Lc u v ∧ v q 2 = oF (pA w n f a).2 ∧ v q 7 = nI (s + (pA w n f a).1.length) ∧ s + (pA w n f a).1.length ≤ 15 ∧ encR v q s Lc (pA w n f a).1 ∧ ((pA w n f a).2 = none → v q 10 = nI (Lc + lsum (pA w n f a).1) ∧ Lc + lsum (pA w n f a).1 ≤ 30) ∧ ∀ st ∈ (pA w n f a).1, stOK st := by
    intro a f F s Lc u h2 h2' hna h3 hs hL h4 h5 h10 h7
    obtain ⟨f, rfl⟩ : ∃ g, f = g + 1 := ⟨f - 1, by omega⟩
    obtain ⟨F, rfl⟩ : ∃ g, F = g + 1 := ⟨F - 1, by omega⟩
    have c1 : u q 1 ≤ u q 11 := by rw [h4.2.1, h5]; exact (le_ (by omega) (by omega)).mpr (by omega)
    have e : b_X5_readText_19 (fun x1 x2 u => l_X5_readText_19 q F x1 x2 u) q 1 (nI s) u = b_X5_readText_52 q 1 u := by
      rw [b_X5_readText_19]
      by_cases h15 : nI 15 ≤ nI s
      · rw [if_pos h15]
      · rw [if_neg h15, if_neg (by decide), if_pos c1]
    rw [l_X5_readText_19, e, b_X5_readText_52, if_neg (by decide), b_X5_readText_66, mSe, pA, if_neg (by omega)]
    refine ⟨_, rfl, (ch.rf q s Lc u).obj (by decide), mup_self, ?_, by simp; omega, trivial, fun _ => ⟨?_, ?_⟩, fun st hst => by cases hst⟩
    · rw [mup_sne (by decide)]; exact h7
    · rw [mup_sne (by decide)]; exact h10
    · simp [lsum]; omega
  induction d with
  | zero =>
    intro a f F s Lc u h1 h2 h2' h3 hs hL h4 h5 h10 h7
    exact exit a f F s Lc u (by omega) (by omega) (by omega) h3 hs hL h4 h5 h10 h7
  | succ d ih =>
    intro a f F s Lc u h1 h2 h2' h3 hs hL h4 h5 h10 h7
    by_cases hl : a < n
    · obtain ⟨f, rfl⟩ : ∃ g, f = g + 1 := ⟨f - 1, by omega⟩
      obtain ⟨F, rfl⟩ : ∃ g, F = g + 1 := ⟨F - 1, by omega⟩
      have c1 : ¬ u q 1 ≤ u q 11 := by rw [h4.2.1, h5, le_ (by omega) (by omega)]; omega
      obtain ⟨v, e1, e2, e3, e4, e5⟩ := cstmt_s hl (show s < 15 by omega) hL h4 h5 h10
      obtain ⟨p1, p2, p3⟩ := pS_le (w := w) hl
      rw [l_X5_readText_19, b_X5_readText_19, if_neg (fun q => absurd ((le_ (by omega) (by omega)).mp q) (by omega)), if_neg (by decide), if_neg c1, mBe e1, nI_1, pA, if_pos hl]
      cases hp : pS w n a with
      | mk b o =>
        rw [hp] at e3 e4 e5 p1 p2 p3
        cases o with
        | none =>
          obtain ⟨F, rfl⟩ : ∃ g, F = g + 1 := ⟨F - 1, by omega⟩
          have e : b_X5_readText_19 (fun x1 x2 u => l_X5_readText_19 q F x1 x2 u) q (oB (b, (none : Option pSt)).2) (nI (s + 1)) v = b_X5_readText_52 q 0 v := by
            rw [b_X5_readText_19]
            by_cases h15 : nI 15 ≤ nI (s + 1)
            · rw [if_pos h15]; rfl
            · rw [if_neg h15, if_pos (show oB (b, (none : Option pSt)).2 = 0 from rfl)]; rfl
          rw [l_X5_readText_19, e, b_X5_readText_52, if_pos rfl, b_X5_readText_66, mSe]
          dsimp only at e3 p2 ⊢
          refine ⟨_, rfl, e2.obj (by decide), ?_, ?_, by simp; omega, trivial, fun q => (by cases q), fun st hst => by cases hst⟩
          · rw [mup_self, e3]; rfl
          · rw [mup_sne (by decide), e4 rfl, h7]; rfl
        | some st =>
          obtain ⟨q1, q2, q3⟩ := p3 st rfl
          obtain ⟨o1, o2, o3, o4, o5, o6, o7⟩ := e5 st rfl
          dsimp only at e3 p1 p2 q1 q2 ⊢
          rw [show oB (some st) = 1 from rfl]
          obtain ⟨t, g1, g2, g3, g4, g5, g6, g7, g8⟩ := ih b f F (s + 1) (Lc + st.2.2.2.length) v (by omega) (by omega) (by omega) (by omega) (by omega) (by omega) (h4.ch e2) e3 o2 o1
          have hc : ch q s Lc v t := ⟨g2.1, g2.2.1, fun j hj => g2.2.2.1 j (by omega), fun j hj => g2.2.2.2 j (by omega)⟩
          refine ⟨t, g1, e2.tr hc, g3, ?_, ?_, ⟨?_, ?_, fun q3 => ?_, ?_, fun i l hl => ?_, g6⟩, fun q => ?_, fun st' hst' => ?_⟩
          · rw [g4, List.length_cons]; congr 1; omega
          · rw [List.length_cons]; omega
          · rw [(g2.2.2.2 s (by omega)).1]; exact o3
          · rw [(g2.2.2.2 s (by omega)).2.1]; exact o4
          · rw [(g2.2.2.2 s (by omega)).2.2.1]; exact o5 q3
          · rw [(g2.2.2.2 s (by omega)).2.2.2]; exact o6
          · have hi : i < st.2.2.2.length := (List.getElem?_eq_some_iff.mp hl).1
            have k := g2.2.2.1 (Lc + i) (by omega)
            rw [k.1, k.2]
            exact o7 i l hl
          · obtain ⟨r1, r2⟩ := g7 q
            simp only [lsum]
            refine ⟨by rw [r1]; congr 1; omega, by omega⟩
          · rcases List.mem_cons.mp hst' with rfl | hst'
            · exact q3
            · exact g8 st' hst'
    · exact exit a f F s Lc u (by omega) (by omega) (by omega) h3 hs hL h4 h5 h10 h7
/-- the routine at q is read: it holds what its text says -/
def rOK (v : MU) (q : Nat) (w : Nat → Int32) (n : Nat) : Prop := cT v q w n ∧ v q 2 = oF (pA w n 31 0).2 ∧ v q 7 = nI (pA w n 31 0).1.length ∧ (pA w n 31 0).1.length ≤ 15 ∧ encR v q 0 0 (pA w n 31 0).1 ∧ ((pA w n 31 0).2 = none → v q 10 = nI (lsum (pA w n 31 0).1) ∧ lsum (pA w n 31 0).1 ≤ 30) ∧ ∀ st ∈ (pA w n 31 0).1, stOK st
theorem readT_s {u : MU} {q n : Nat} {w : Nat → Int32} (h : cT u q w n) : ∃ v : MU, f_X5_readText q u = some (0, v) ∧ (∀ k : Nat, (k < q ∨ q + 7 < k ∨ k = q + 1) → v k = u k) ∧ rOK v q w n := by
  have hn := h.1
  rw [f_X5_readText, mSe, mSe, mSe]
  obtain ⟨v, g1, g2, g3, g4, g5, g6, g7, g8⟩ := readT_l (u := mup (mup (mup u q 11 0) q 7 0) q 10 0) hn 30 0 31 FU 0 0 (by omega) (by omega) (by unfold FU; omega) (by omega) (by omega) (by omega) (((h.up (by decide)).up (by decide)).up (by decide)) (by rw [mup_sne (by decide), mup_sne (by decide), mup_self]; rfl) (by rw [mup_self]; rfl) (by rw [mup_sne (by decide), mup_self]; rfl)
  refine ⟨v, g1, fun k hk => ?_, (((h.up (by decide)).up (by decide)).up (by decide)).ch g2, g3, ?_, ?_, g6, fun q => ?_, g8⟩
  · rw [g2.1 k hk, mup_ne (by omega), mup_ne (by omega), mup_ne (by omega)]
  · rw [g4, Nat.zero_add]
  · omega
  · have := g7 q
    rw [Nat.zero_add] at this
    exact this
