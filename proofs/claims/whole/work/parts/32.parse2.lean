def btI (k : Nat) : Int32 := 1 <<< (nI k &&& 31)
def lvl (now : Nat → Int32) (x : Nat) (l : Nat × Nat) : Int32 := if l.1 = 0 then nI l.2 else if l.1 = 1 then nI x else now (plc l.2 x)
def lbt (x : Nat) (l : Nat × Nat) : Int32 := if l.1 = 2 then btI (plc l.2 x) else 0
def pf3 (u v : MU) : Prop := (∀ k : Nat, k ≠ 88 → v k = u k) ∧ ∀ j : Nat, j ≠ 6 → j ≠ 8 → j ≠ 9 → v 88 j = u 88 j
theorem pf3.rf (u : MU) : pf3 u u := ⟨fun _ _ => rfl, fun _ _ _ _ => rfl⟩
theorem pf3.tr {u v t : MU} (h : pf3 u v) (g : pf3 v t) : pf3 u t := ⟨fun k hk => (g.1 k hk).trans (h.1 k hk), fun j h1 h2 h3 => (g.2 j h1 h2 h3).trans (h.2 j h1 h2 h3)⟩
theorem pf3.up {u v : MU} {j : Nat} {x : Int32} (h : pf3 u v) (hj : j = 6 ∨ j = 8 ∨ j = 9) : pf3 u (mup v 88 j x) := by
  refine h.tr ⟨fun k hk => mup_ne hk, fun i h1 h2 h3 => mup_sne ?_⟩
  omega
theorem mT.pf3 {u v : MU} {r n : Nat} {w : Nat → Int32} (h : mT u r w n) (g : pf3 u v) : mT v r w n := by
  obtain ⟨h1, h2, h3, h4, h5⟩ := h
  exact ⟨h1, h2, by rw [g.2 7 (by decide) (by decide) (by decide)]; exact h3, by rw [g.1 90 (by decide)]; exact h4, fun j hj => by rw [g.1 89 (by decide)]; exact h5 j hj⟩
theorem fig_lt {w : Nat → Int32} {n a : Nat} (h : isFig (hr w n a) = true) : a < n := hr_lt (w := w) (c := hr w n a) rfl (fun q => by rw [q] at h; exact absurd h (by decide))
theorem let_lt {w : Nat → Int32} {n a : Nat} (h : isLet (hr w n a) = true) : a < n := hr_lt (w := w) (c := hr w n a) rfl (fun q => by rw [q] at h; exact absurd h (by decide))
theorem pI_le {w : Nat → Int32} {n a : Nat} (h : a ≤ n) : a ≤ (pI w n a).1 ∧ (pI w n a).1 ≤ n ∧ ∀ s, (pI w n a).2 = some s → 6 ≤ s ∧ s < 30 ∧ a < (pI w n a).1 := by
  have h1 := pGt_le w n (n - a) a (Nat.le_refl _) h
  unfold pI
  by_cases c1 : hr w n (a + pGt w n a) = nI 112
  · have := hr_lt c1 (by decide)
    rw [if_pos c1]
    refine ⟨by simp only; omega, by simp only; omega, fun s hs => ?_⟩
    have : s = 18 + pGt w n a % 12 := (Option.some.inj hs).symm
    simp only
    omega
  · rw [if_neg c1]
    by_cases c2 : isFig (hr w n (a + pGt w n a)) = true
    · have hl : a + pGt w n a < n := fig_lt c2
      rw [if_pos c2]
      refine ⟨by simp only; omega, by simp only; omega, fun s hs => ?_⟩
      have : s = 6 + (pGt w n a + dgt (hr w n (a + pGt w n a))) % 12 := (Option.some.inj hs).symm
      simp only
      omega
    · rw [if_neg c2]
      refine ⟨by simp only; omega, by simp only; omega, fun s hs => ?_⟩
      cases hs
def lfOK (l : Nat × Nat) : Prop := (l.1 = 0 ∧ l.2 ≤ 9) ∨ (l.1 = 1 ∧ l.2 = 0) ∨ (l.1 = 2 ∧ l.2 < 30)
theorem pL_le {w : Nat → Int32} {n a : Nat} (h : a ≤ n) : a ≤ (pL w n a).1 ∧ (pL w n a).1 ≤ n ∧ ∀ l, (pL w n a).2 = some l → a < (pL w n a).1 ∧ lfOK l := by
  unfold pL
  by_cases c1 : hr w n a = nI 64
  · have hl := hr_lt c1 (by decide)
    rw [if_pos c1]
    have hI := pI_le (w := w) (n := n) (a := a + 1) (by omega)
    cases hp : pI w n (a + 1) with
    | mk b o =>
      rw [hp] at hI
      cases o with
      | none => exact ⟨by simp only at hI ⊢; omega, hI.2.1, fun l hl => by cases hl⟩
      | some s =>
        refine ⟨by simp only at hI ⊢; omega, hI.2.1, fun l hl => ?_⟩
        cases hl
        have := hI.2.2 s rfl
        simp only at this hI ⊢
        exact ⟨by omega, Or.inr (Or.inr ⟨rfl, by omega⟩)⟩
  · rw [if_neg c1]
    by_cases c2 : isFig (hr w n a) = true
    · have hl := fig_lt c2
      obtain ⟨d, hd, he⟩ := fig_of c2
      rw [if_pos c2]
      refine ⟨by simp only; omega, by simp only; omega, fun l hl => ?_⟩
      cases hl
      refine ⟨by simp only; omega, Or.inl ⟨rfl, ?_⟩⟩
      rw [he, dgt, nc_ (by omega)]
      omega
    · rw [if_neg c2]
      by_cases c3 : isLet (hr w n a) = true
      · have hl := let_lt c3
        obtain ⟨d, hd, he⟩ := let_of c3
        rw [if_pos c3]
        refine ⟨by simp only; omega, by simp only; omega, fun l hl => ?_⟩
        cases hl
        refine ⟨by simp only; omega, Or.inr (Or.inr ⟨rfl, ?_⟩)⟩
        rw [he, ltr, nc_ (by omega)]
        omega
      · rw [if_neg c3]
        by_cases c4 : hr w n a = nI 112
        · have hl := hr_lt c4 (by decide)
          rw [if_pos c4]
          refine ⟨by simp only; omega, by simp only; omega, fun l hl => ?_⟩
          cases hl
          exact ⟨by simp only; omega, Or.inr (Or.inl ⟨rfl, rfl⟩)⟩
        · rw [if_neg c4]
          exact ⟨Nat.le_refl _, h, fun l hl => by cases hl⟩
def oB {α : Type} (o : Option α) : Int32 := match o with
  | some _ => 1
  | none => 0
theorem leaf_s {u : MU} {r n a x : Nat} {w : Nat → Int32} (hx : x < 12) (ha : a ≤ n) (h : mT u r w n) (h5 : u 88 6 = nI a) : ∃ v : MU, f_X7_leaf (nI x) u = some (oB (pL w n a).2, v) ∧ pf3 u v ∧ v 88 6 = nI (pL w n a).1 ∧ ∀ l, (pL w n a).2 = some l → v 88 8 = u 88 8 + lvl (u 99) x l ∧ v 88 9 = u 88 9 ||| lbt x l := by
  have hn := h.2.1
  unfold f_X7_leaf pL
  rw [mBe (here_s h h5 (by omega))]
  by_cases c1 : hr w n a = nI 64
  · have hl := hr_lt c1 (by decide)
    rw [if_pos c1, if_pos c1, mSe, h5, nI_1, mBe (index_s hx (show a + 1 ≤ n by omega) (h.up (by decide)) mup_self)]
    have hI := pI_le (w := w) (n := n) (a := a + 1) (by omega)
    cases hp : pI w n (a + 1) with
    | mk b o =>
      rw [hp] at hI
      cases o with
      | none =>
        refine ⟨mup u 88 6 (nI b), ?_, (pf3.rf u).up (Or.inl rfl), mup_self, fun l hl => by cases hl⟩
        simp only
        rw [if_neg (by decide), mup_mup]
        rfl
      | some s =>
        have hs := hI.2.2 s rfl
        have hp6 : 6 ≤ plc s x ∧ plc s x < 18 := by unfold plc; split <;> omega
        have e1 : nI 6 + nI (plc s x - 6) = nI (plc s x) := by rw [nI_add, show 6 + (plc s x - 6) = plc s x by omega]
        simp only
        rw [if_pos ((z0_ (by omega)).mpr trivial), mup_mup, e1, gdt (ix_ hp6.2 (by omega)), nc_ (by omega), mSe, mSe]
        refine ⟨_, rfl, (((pf3.rf u).up (Or.inl rfl)).up (Or.inr (Or.inl rfl))).up (Or.inr (Or.inr rfl)), ?_, fun l hl => ?_⟩
        · rw [mup_sne (by decide), mup_sne (by decide), mup_self]
        · cases hl
          refine ⟨?_, ?_⟩
          · rw [mup_sne (by decide), mup_self, mup_sne (by decide), mup_ne (by decide)]
            rfl
          · rw [mup_self, mup_sne (by decide), mup_sne (by decide)]
            rfl
  · rw [if_neg c1, if_neg c1, mBe (fig7 _ _)]
    by_cases c2 : isFig (hr w n a) = true
    · have hl := fig_lt c2
      obtain ⟨d, hd, he⟩ := fig_of c2
      have c3 : isLet (hr w n a) = false := by
        rw [he]
        have : ∀ d : Nat, d ≤ 9 → isLet (nI (48 + d)) = false := by decide +kernel
        exact this d hd
      rw [if_pos c2, if_neg (by decide), if_pos c2, b_X7_leaf_90, mSe, mBe (fig7 _ _), if_pos c2, if_neg (by decide), b_X7_leaf_138, mSe, mBe (let7 _ _), c3, if_pos (by decide), b_X7_leaf_164, mSe]
      refine ⟨_, rfl, (((pf3.rf u).up (Or.inl rfl)).up (Or.inr (Or.inl rfl))).up (Or.inr (Or.inr rfl)), ?_, fun l hl => ?_⟩
      · rw [mup_sne (by decide), mup_sne (by decide), mup_self, h5, nI_1]
      · cases hl
        refine ⟨?_, ?_⟩
        · rw [mup_sne (by decide), mup_self, mup_sne (by decide), he, sub_ (by omega)]
          simp only [lvl, dgt]
          rw [if_pos trivial, nc_ (by omega)]
        · rw [mup_self, mup_sne (by decide), mup_sne (by decide)]
          rfl
    · rw [if_neg c2, if_pos rfl, if_neg c2, mBe (let7 _ _)]
      by_cases c3 : isLet (hr w n a) = true
      · have hl := let_lt c3
        obtain ⟨d, hd, he⟩ := let_of c3
        have c4 : ¬ hr w n a = nI 112 := fun q => by rw [q] at c3; exact absurd c3 (by decide)
        rw [if_pos c3, if_neg (by decide), if_pos c3, b_X7_leaf_90, mSe, mBe (fig7 _ _), if_neg c2, if_pos rfl, if_neg c4, he, sub_ (by omega), show 97 + d - 97 = d by omega, gdt (ix_ (by omega) (by omega)), nc_ (by omega), b_X7_leaf_138, mSe, mBe (let7 _ _), ← he, if_pos c3, if_neg (by decide), b_X7_leaf_164, mSe, he, sub_ (by omega), show 97 + d - 97 = d by omega]
        refine ⟨_, rfl, (((pf3.rf u).up (Or.inl rfl)).up (Or.inr (Or.inl rfl))).up (Or.inr (Or.inr rfl)), ?_, fun l hl => ?_⟩
        · rw [mup_sne (by decide), mup_sne (by decide), mup_self, h5, nI_1]
        · cases hl
          have e2 : ltr (nI (97 + d)) = d := by rw [ltr, nc_ (by omega)]; omega
          have e3 : plc d x = d := by unfold plc; rw [if_pos (by omega)]
          refine ⟨?_, ?_⟩
          · rw [mup_sne (by decide), mup_self, mup_sne (by decide), mup_ne (by decide), e2]
            simp only [lvl]
            rw [if_neg (by decide), if_neg (by decide), e3]
          · rw [mup_self, mup_sne (by decide), mup_sne (by decide), e2]
            simp only [lbt]
            rw [if_pos trivial, e3]
            rfl
      · rw [if_neg c3, if_pos rfl, if_neg c3]
        by_cases c4 : hr w n a = nI 112
        · have hl := hr_lt c4 (by decide)
          have c3' : isLet (hr w n a) = false := by simpa using c3
          rw [if_pos c4, if_pos c4, b_X7_leaf_90, mSe, mBe (fig7 _ _), if_neg c2, if_pos rfl, if_pos c4, b_X7_leaf_138, mSe, mBe (let7 _ _), c3', if_pos (by decide), b_X7_leaf_164, mSe]
          refine ⟨_, rfl, (((pf3.rf u).up (Or.inl rfl)).up (Or.inr (Or.inl rfl))).up (Or.inr (Or.inr rfl)), ?_, fun l hl => ?_⟩
          · rw [mup_sne (by decide), mup_sne (by decide), mup_self, h5, nI_1]
          · cases hl
            refine ⟨?_, ?_⟩
            · rw [mup_sne (by decide), mup_self, mup_sne (by decide)]
              rfl
            · rw [mup_self, mup_sne (by decide), mup_sne (by decide)]
              rfl
        · rw [if_neg c4, if_neg c4]
          exact ⟨u, rfl, pf3.rf u, h5, fun l hl => by cases hl⟩
