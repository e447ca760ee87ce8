theorem pT_le {w : Nat → Int32} {n : Nat} : ∀ (f due a : Nat), a ≤ n → a ≤ (pT w n f due a).1 ∧ (pT w n f due a).1 ≤ n ∧ ∀ ls, (pT w n f due a).2 = some ls → a + ls.length ≤ (pT w n f due a).1 ∧ ∀ l ∈ ls, lfOK l := by
  intro f
  induction f with
  | zero => intro due a h; exact ⟨Nat.le_refl _, h, fun ls hl => by cases hl⟩
  | succ f ih =>
    intro due a h
    rw [pT]
    by_cases hd : due = 0
    · rw [if_pos hd]
      refine ⟨Nat.le_refl _, h, fun ls hl => ?_⟩
      cases hl
      exact ⟨Nat.le_refl _, fun l hl => by cases hl⟩
    · rw [if_neg hd]
      by_cases c : hr w n a = nI 126
      · have hl := hr_lt c (by decide)
        rw [if_pos c]
        obtain ⟨g1, g2, g3⟩ := ih (due + 1) (a + 1) (by omega)
        exact ⟨by omega, g2, fun ls hl => ⟨by have := (g3 ls hl).1; omega, (g3 ls hl).2⟩⟩
      · rw [if_neg c]
        obtain ⟨g1, g2, g3⟩ := pL_le (w := w) (n := n) h
        cases hp : pL w n a with
        | mk b o =>
          rw [hp] at g1 g2 g3
          cases o with
          | none => exact ⟨g1, g2, fun ls hl => by cases hl⟩
          | some l =>
            obtain ⟨e1, e2⟩ := g3 l rfl
            dsimp only at g1 g2 e1 ⊢
            obtain ⟨k1, k2, k3⟩ := ih (due - 1) b g2
            cases hq : pT w n f (due - 1) b with
            | mk b' o' =>
              rw [hq] at k1 k2 k3
              cases o' with
              | none => exact ⟨Nat.le_trans g1 k1, k2, fun ls hl => by cases hl⟩
              | some ls' =>
                refine ⟨Nat.le_trans g1 k1, k2, fun ls hl => ?_⟩
                cases hl
                have := k3 ls' rfl
                dsimp only at this ⊢
                rw [List.length_cons]
                refine ⟨by omega, fun l' hl' => ?_⟩
                rcases List.mem_cons.mp hl' with rfl | hl'
                · exact e2
                · exact this.2 l' hl'
/-- rows of leaves from a place on -/
def lvsAt (v : MU) (q L : Nat) (ls : List (Nat × Nat)) : Prop := ∀ (i : Nat) (l : Nat × Nat), ls[i]? = some l → v (q + 6) (L + i) = nI l.1 ∧ v (q + 7) (L + i) = nI l.2
/-- the leaf rows ahead of a place are kept -/
def lkeep (q L : Nat) (u v : MU) : Prop := ∀ j : Nat, j < L → v (q + 6) j = u (q + 6) j ∧ v (q + 7) j = u (q + 7) j
theorem cterm_l {q n : Nat} {w : Nat → Int32} (hn : n ≤ 30) : ∀ (d a f F due i Lc : Nat) (u : MU), n - a ≤ d → d < f → d < F → a ≤ n → i + (n - a) < 30 → due + (n - a) ≤ 1000 → Lc ≤ a → cT u q w n → u q 11 = nI a → u q 10 = nI Lc → ∃ v : MU, l_X5_readTerm_4 q F (nI due) (nI i) u = some (oB (pT w n f due a).2, v) ∧ cg q u v ∧ v q 11 = nI (pT w n f due a).1 ∧ lkeep q Lc u v ∧ (∃ L' : Nat, L' ≤ 30 ∧ v q 10 = nI L') ∧ ∀ ls, (pT w n f due a).2 = some ls → v q 10 = nI (Lc + ls.length) ∧ lvsAt v q Lc ls := by
  intro d
  have exit : ∀ (a f F due i Lc : Nat) (u : MU), 0 < f → 0 < F → a ≤ n → i < 30 → due ≤ 1000 → Lc ≤ a → cT u q w n → u q 11 = nI a → u q 10 = nI Lc → (due = 0 ∨ n ≤ a) → ∃ v : MU, l_X5_readTerm_4 q F (nI due) (nI i) u = some (oB (pT w n f due a).2, v) ∧ cg q u v ∧ v q 11 = nI (pT w n f due a).1 ∧ lkeep q Lc u v ∧ (∃ L' : Nat, L' ≤ 30 ∧ v q 10 = nI L') ∧ ∀ ls, (pT w n f due a).2 = some ls → v q 10 = nI (Lc + ls.length) ∧ lvsAt v q Lc ls := by
    intro a f F due i Lc u h2 h2' h3 hi hdu hLa h4 h5 h10 hor
    obtain ⟨f, rfl⟩ : ∃ g, f = g + 1 := ⟨f - 1, by omega⟩
    obtain ⟨F, rfl⟩ : ∃ g, F = g + 1 := ⟨F - 1, by omega⟩
    rw [l_X5_readTerm_4, b_X5_readTerm_4, pT, if_neg (fun q => absurd ((le_ (by omega) (by omega)).mp q) (by omega))]
    by_cases hd : due = 0
    · rw [if_pos ((z1_ (by omega)).mpr hd), if_pos hd, b_X5_readTerm_76, if_pos ((e0_ (by omega)).mpr hd)]
      refine ⟨u, rfl, cg.rf q u, h5, fun j _ => ⟨rfl, rfl⟩, ⟨Lc, by omega, h10⟩, fun ls hl => ?_⟩
      cases hl
      exact ⟨h10, fun i l hl => by simp at hl⟩
    · have hna : n ≤ a := hor.resolve_left hd
      have c1 : u q 1 ≤ u q 11 := by rw [h4.2.1, h5]; exact (le_ (by omega) (by omega)).mpr (by omega)
      have hz : hr w n a = 0 := by unfold hr; rw [if_neg (by omega)]
      have hp : pL w n a = (a, none) := by
        unfold pL
        rw [hz, if_neg (by decide), if_neg (by decide), if_neg (by decide), if_neg (by decide)]
      rw [if_neg (fun q => hd ((z1_ (by omega)).mp q)), if_neg hd, if_pos c1, b_X5_readTerm_76, if_neg (fun q => hd ((e0_ (by omega)).mp q)), hz, if_neg (by decide), hp]
      exact ⟨u, rfl, cg.rf q u, h5, fun j _ => ⟨rfl, rfl⟩, ⟨Lc, by omega, h10⟩, fun ls hl => by cases hl⟩
  induction d with
  | zero =>
    intro a f F due i Lc u h1 h2 h2' h3 hi hdu hLa h4 h5 h10
    exact exit a f F due i Lc u (by omega) (by omega) h3 (by omega) (by omega) hLa h4 h5 h10 (Or.inr (by omega))
  | succ d ih =>
    intro a f F due i Lc u h1 h2 h2' h3 hi hdu hLa h4 h5 h10
    by_cases hd : due = 0
    · exact exit a f F due i Lc u (by omega) (by omega) h3 (by omega) (by omega) hLa h4 h5 h10 (Or.inl hd)
    · by_cases hl : a < n
      · obtain ⟨f, rfl⟩ : ∃ g, f = g + 1 := ⟨f - 1, by omega⟩
        obtain ⟨F, rfl⟩ : ∃ g, F = g + 1 := ⟨F - 1, by omega⟩
        obtain ⟨s1, s2⟩ := at_s h4 h5 hl
        have c1 : ¬ u q 1 ≤ u q 11 := by rw [h4.2.1, h5, le_ (by omega) (by omega)]; omega
        rw [l_X5_readTerm_4, b_X5_readTerm_4, pT, if_neg (fun q => absurd ((le_ (by omega) (by omega)).mp q) (by omega)), if_neg (fun q => hd ((z1_ (by omega)).mp q)), if_neg hd, if_neg c1, gdt s1, s2]
        by_cases c : hr w n a = nI 126
        · rw [if_pos c, if_pos c, mSe, h5, nI_1, nI_1, b_X5_readTerm_70, nI_1]
          obtain ⟨v, e1, e2, e3, e4, e5, e6⟩ := ih (a + 1) f F (due + 1) (i + 1) Lc _ (by omega) (by omega) (by omega) (by omega) (by omega) (by omega) (by omega) (h4.up (by decide)) mup_self (show mup u q 11 (nI (a + 1)) q 10 = nI Lc by rw [mup_sne (by decide)]; exact h10)
          refine ⟨v, e1, ((cg.rf q u).up (Or.inr rfl)).tr e2, e3, fun j hj => ?_, e5, e6⟩
          have := e4 j hj
          rw [mup_ne (by omega), mup_ne (by omega)] at this
          exact this
        · rw [if_neg c, if_neg c]
          obtain ⟨v, e1, e2, e3, e4, e5⟩ := cleaf_s hl h4 h5 (show Lc < 30 by omega) h10
          have hle := pL_le (w := w) (n := n) h3
          cases hp : pL w n a with
          | mk b o =>
            rw [hp] at e1 e3 e4 e5 hle
            cases o with
            | none =>
              obtain ⟨k1, k2, k3⟩ := e4 rfl
              rw [mBe e1]
              exact ⟨v, rfl, e2, e3, fun j _ => ⟨by rw [k2], by rw [k3]⟩, ⟨Lc, by omega, k1⟩, fun ls hl => by cases hl⟩
            | some l =>
              have hb := (hle.2.2 l rfl).1
              obtain ⟨k1, k2, k3⟩ := e5 l rfl
              rw [mBe e1, if_neg (show ¬ oB (b, some l).2 = 0 from (by decide : ¬ (1 : Int32) = 0)), m1_ (by omega), b_X5_readTerm_70, nI_1]
              dsimp only at hle hb e3 ⊢
              obtain ⟨t, g1, g2, g3, g4, g5, g6⟩ := ih b f F (due - 1) (i + 1) (Lc + 1) v (by omega) (by omega) (by omega) (by omega) (by omega) (by omega) (by omega) (h4.cg e2) e3 k1
              have keep : lkeep q Lc u t := fun j hj => by
                have := g4 j (by omega)
                rw [k2, k3] at this
                rw [this.1, this.2]
                exact ⟨pk_un (by omega), pk_un (by omega)⟩
              cases hq : pT w n f (due - 1) b with
              | mk b' o' =>
                rw [hq] at g1 g3 g6
                cases o' with
                | none => exact ⟨t, g1, e2.tr g2, g3, keep, g5, fun ls hl => by cases hl⟩
                | some ls' =>
                  refine ⟨t, g1, e2.tr g2, g3, keep, g5, fun ls hl => ?_⟩
                  cases hl
                  obtain ⟨j1, j2⟩ := g6 ls' rfl
                  refine ⟨by rw [j1, List.length_cons, show Lc + 1 + ls'.length = Lc + (ls'.length + 1) by omega], fun i l' hl' => ?_⟩
                  cases i with
                  | zero =>
                    have e : l = l' := by simpa using hl'
                    subst e
                    have := g4 Lc (by omega)
                    rw [k2, k3] at this
                    show t (q + 6) Lc = _ ∧ t (q + 7) Lc = _
                    rw [this.1, this.2]
                    exact ⟨pk_us, pk_us⟩
                  | succ i =>
                    have := j2 i l' (by simpa using hl')
                    rw [show Lc + (i + 1) = Lc + 1 + i by omega]
                    exact this
      · exact exit a f F due i Lc u (by omega) (by omega) h3 (by omega) (by omega) hLa h4 h5 h10 (Or.inr (by omega))
theorem cterm_s {u : MU} {q n a Lc : Nat} {w : Nat → Int32} (h0 : 1 ≤ a) (ha : a ≤ n) (hL : Lc ≤ a) (h : cT u q w n) (h5 : u q 11 = nI a) (h10 : u q 10 = nI Lc) : ∃ v : MU, f_X5_readTerm q u = some (oB (pT w n 31 1 a).2, v) ∧ cg q u v ∧ v q 11 = nI (pT w n 31 1 a).1 ∧ lkeep q Lc u v ∧ (∃ L' : Nat, L' ≤ 30 ∧ v q 10 = nI L') ∧ ∀ ls, (pT w n 31 1 a).2 = some ls → v q 10 = nI (Lc + ls.length) ∧ lvsAt v q Lc ls := by
  have hn := h.1
  rw [f_X5_readTerm, one_, show (0 : Int32) = nI 0 from rfl]
  exact cterm_l hn 30 a 31 FU 1 0 Lc u (by omega) (by omega) (by unfold FU; omega) ha (by omega) (by omega) hL h h5 h10
