def cT (u : MU) (q : Nat) (w : Nat → Int32) (n : Nat) : Prop := n ≤ 30 ∧ u q 1 = nI n ∧ ∀ j : Nat, j < n → u (q + 1) j = w j
/-- only the leaf rows, and the object's slots 10 and 11 -/
def cg (q : Nat) (u v : MU) : Prop := (∀ k : Nat, k ≠ q → k ≠ q + 6 → k ≠ q + 7 → v k = u k) ∧ ∀ j : Nat, j ≠ 10 → j ≠ 11 → v q j = u q j
theorem cg.rf (q : Nat) (u : MU) : cg q u u := ⟨fun _ _ _ _ => rfl, fun _ _ _ => rfl⟩
theorem cg.tr {q : Nat} {u v t : MU} (h : cg q u v) (g : cg q v t) : cg q u t := ⟨fun k h1 h2 h3 => (g.1 k h1 h2 h3).trans (h.1 k h1 h2 h3), fun j h1 h2 => (g.2 j h1 h2).trans (h.2 j h1 h2)⟩
theorem cg.up {q : Nat} {u v : MU} {j : Nat} {x : Int32} (h : cg q u v) (hj : j = 10 ∨ j = 11) : cg q u (mup v q j x) := h.tr ⟨fun _ hk _ _ => mup_ne hk, fun _ _ _ => mup_sne (by omega)⟩
theorem cg.row {q : Nat} {u v : MU} {k j : Nat} {x : Int32} (h : cg q u v) (hk : k = q + 6 ∨ k = q + 7) : cg q u (mup v k j x) := h.tr ⟨fun _ _ h1 h2 => mup_ne (by omega), fun _ _ _ => by rw [mup_ne (by omega)]⟩
theorem cT.cg {u v : MU} {q n : Nat} {w : Nat → Int32} (h : cT u q w n) (g : cg q u v) : cT v q w n := ⟨h.1, by rw [g.2 1 (by decide) (by decide)]; exact h.2.1, fun j hj => by rw [g.1 (q + 1) (by omega) (by omega) (by omega)]; exact h.2.2 j hj⟩
theorem cT.up {u : MU} {q n j : Nat} {w : Nat → Int32} {x : Int32} (h : cT u q w n) (hj : j ≠ 1) : cT (mup u q j x) q w n := ⟨h.1, by rw [mup_sne (Ne.symm hj)]; exact h.2.1, fun i hi => by rw [mup_ne (by omega)]; exact h.2.2 i hi⟩
/-- the class's reader looks at the sign where it stands -/
theorem at_s {u : MU} {q n a : Nat} {w : Nat → Int32} (h : cT u q w n) (h5 : u q 11 = nI a) (ha : a < n) : mIx (u q 11) 30 = true ∧ u (q + 1) (u q 11).toNatClampNeg = hr w n a := by
  obtain ⟨h1, h2, h3⟩ := h
  rw [h5, nc_ (by omega), h3 a ha]
  exact ⟨ix_ (by omega) (by omega), by unfold hr; rw [if_pos ha]⟩
theorem cidx_l {q n : Nat} {w : Nat → Int32} (hn : n ≤ 30) : ∀ (d a f m : Nat) (u : MU), n - a ≤ d → d < f → a ≤ n → m ≤ a → cT u q w n → u q 11 = nI a → l_X5_readIndex_2 q f (nI m) u = some ((if hr w n (a + pGt w n a) = nI 112 then nI (18 + (m + pGt w n a) % 12) else if isFig (hr w n (a + pGt w n a)) = true then nI (6 + (m + pGt w n a + dgt (hr w n (a + pGt w n a))) % 12) else -1), mup u q 11 (nI (pI w n a).1)) := by
  intro d
  induction d with
  | zero =>
    intro a f m u h1 h2 h3 h3' h4 h5
    obtain ⟨f, rfl⟩ : ∃ g, f = g + 1 := ⟨f - 1, by omega⟩
    have hz : hr w n a = 0 := by unfold hr; rw [if_neg (by omega)]
    have hg : pGt w n a = 0 := by rw [pGt_eq, hz, if_neg (by decide)]
    have e : pI w n a = (a, none) := by
      unfold pI
      rw [hg, Nat.add_zero, hz, if_neg (by decide), if_neg (by decide)]
    have c1 : u q 1 ≤ u q 11 := by rw [h4.2.1, h5]; exact (le_ (by omega) (by omega)).mpr (by omega)
    have c2 : ¬ u q 11 < u q 1 := Int32.not_lt.mpr c1
    rw [l_X5_readIndex_2, b_X5_readIndex_2, if_pos c1, b_X5_readIndex_43, if_neg c2, hg, Nat.add_zero, hz, if_neg (by decide), if_neg (by decide), e, mup_id h5]
  | succ d ih =>
    intro a f m u h1 h2 h3 h3' h4 h5
    obtain ⟨f, rfl⟩ : ∃ g, f = g + 1 := ⟨f - 1, by omega⟩
    by_cases hl : a < n
    · have c1 : ¬ u q 1 ≤ u q 11 := by rw [h4.2.1, h5, le_ (by omega) (by omega)]; omega
      have c2 : u q 11 < u q 1 := Int32.not_le.mp c1
      obtain ⟨s1, s2⟩ := at_s h4 h5 hl
      rw [l_X5_readIndex_2, b_X5_readIndex_2, if_neg c1, gdt s1, s2]
      by_cases c : hr w n a = nI 62
      · have e : pI w n a = pI w n (a + 1) ∨ True := Or.inr trivial
        have e1 : pGt w n a = pGt w n (a + 1) + 1 := by rw [pGt_eq, if_pos c]
        have e2 : (pI w n a).1 = (pI w n (a + 1)).1 := by
          unfold pI
          rw [e1, show a + (pGt w n (a + 1) + 1) = a + 1 + pGt w n (a + 1) by omega]
          by_cases d1 : hr w n (a + 1 + pGt w n (a + 1)) = nI 112
          · rw [if_pos d1, if_pos d1]
          · rw [if_neg d1, if_neg d1]
            by_cases d2 : isFig (hr w n (a + 1 + pGt w n (a + 1))) = true
            · rw [if_pos d2, if_pos d2]
            · rw [if_neg d2, if_neg d2]
        rw [if_pos c, mSe, h5, nI_1, nI_1, ih (a + 1) f (m + 1) _ (by omega) (by omega) (by omega) (by omega) (h4.up (by decide)) mup_self, mup_mup, e1, e2, show a + (pGt w n (a + 1) + 1) = a + 1 + pGt w n (a + 1) by omega, show m + (pGt w n (a + 1) + 1) = m + 1 + pGt w n (a + 1) by omega]
      · have hg : pGt w n a = 0 := by rw [pGt_eq, if_neg c]
        rw [if_neg c, b_X5_readIndex_43, if_pos c2, gdt s1, s2, hg, Nat.add_zero, Nat.add_zero]
        by_cases d1 : hr w n a = nI 112
        · have e : pI w n a = (a + 1, some (18 + 0 % 12)) := by
            unfold pI
            rw [hg, Nat.add_zero, if_pos d1]
          rw [if_pos d1, if_pos d1, mSe, h5, nI_1, irm_ (by omega) (by omega) (by omega), nI_add, e]
        · rw [if_neg d1, if_neg d1, mBe (fig5 _ _)]
          by_cases d2 : isFig (hr w n a) = true
          · obtain ⟨g, hg9, hge⟩ := fig_of d2
            have e : (pI w n a).1 = a + 1 := by
              unfold pI
              rw [hg, Nat.add_zero, if_neg d1, if_pos d2]
            rw [if_pos d2, if_neg (by decide), if_pos d2, mSe, h5, nI_1, e, hge, sub_ (by omega), nI_add, irm_ (by omega) (by omega) (by omega), nI_add, dgt, nc_ (by omega), show 48 + g - 48 + m = m + (48 + g - 48) by omega]
          · have e : pI w n a = (a, none) := by
              unfold pI
              rw [hg, Nat.add_zero, if_neg d1, if_neg d2]
            rw [if_neg d2, if_pos rfl, if_neg d2, e, mup_id h5]
    · have hz : hr w n a = 0 := by unfold hr; rw [if_neg (by omega)]
      have hg : pGt w n a = 0 := by rw [pGt_eq, hz, if_neg (by decide)]
      have e : pI w n a = (a, none) := by
        unfold pI
        rw [hg, Nat.add_zero, hz, if_neg (by decide), if_neg (by decide)]
      have c1 : u q 1 ≤ u q 11 := by rw [h4.2.1, h5]; exact (le_ (by omega) (by omega)).mpr (by omega)
      have c2 : ¬ u q 11 < u q 1 := Int32.not_lt.mpr c1
      rw [l_X5_readIndex_2, b_X5_readIndex_2, if_pos c1, b_X5_readIndex_43, if_neg c2, hg, Nat.add_zero, hz, if_neg (by decide), if_neg (by decide), e, mup_id h5]
def oN (o : Option Nat) : Int32 := match o with
  | some s => nI s
  | none => -1
theorem cidx_s {u : MU} {q n a : Nat} {w : Nat → Int32} (ha : a ≤ n) (h : cT u q w n) (h5 : u q 11 = nI a) : f_X5_readIndex q u = some (oN (pI w n a).2, mup u q 11 (nI (pI w n a).1)) := by
  have hn := h.1
  rw [f_X5_readIndex, show (0 : Int32) = nI 0 from rfl, cidx_l hn 31 a FU 0 u (by omega) (by unfold FU; omega) ha (by omega) h h5, Nat.zero_add]
  unfold pI
  by_cases c1 : hr w n (a + pGt w n a) = nI 112
  · rw [if_pos c1, if_pos c1]; rfl
  · rw [if_neg c1, if_neg c1]
    by_cases c2 : isFig (hr w n (a + pGt w n a)) = true
    · rw [if_pos c2, if_pos c2]; rfl
    · rw [if_neg c2, if_neg c2]; rfl
theorem clet_s {u : MU} {q n a : Nat} {w : Nat → Int32} (ha : a ≤ n) (h : cT u q w n) (h5 : u q 11 = nI a) : f_X5_readLetter q u = some (if isLet (hr w n a) = true then nI (ltr (hr w n a)) else -1, mup u q 11 (nI (if isLet (hr w n a) = true then a + 1 else a))) := by
  have hn := h.1
  by_cases hl : a < n
  · have c1 : ¬ u q 1 ≤ u q 11 := by rw [h.2.1, h5, le_ (by omega) (by omega)]; omega
    obtain ⟨s1, s2⟩ := at_s h h5 hl
    rw [f_X5_readLetter, if_neg c1, gdt s1, s2, mBe (let5 _ _)]
    by_cases c : isLet (hr w n a) = true
    · obtain ⟨d, hd, he⟩ := let_of c
      simp only [if_pos c]
      rw [if_neg (show ¬ (1 : Int32) = 0 by decide), gdt s1, mSe, s2, he, sub_ (by omega), h5, nI_1, ltr, nc_ (by omega)]
    · simp only [if_neg c]
      rw [if_pos trivial, mup_id h5]
  · have hz : hr w n a = 0 := by unfold hr; rw [if_neg (by omega)]
    have c1 : u q 1 ≤ u q 11 := by rw [h.2.1, h5]; exact (le_ (by omega) (by omega)).mpr (by omega)
    rw [f_X5_readLetter, if_pos c1, hz, if_neg (by decide), if_neg (by decide), mup_id h5]
theorem addl_s {u : MU} {q Lc : Nat} {kd : Int32} {vl : Nat} (hL : Lc < 30) (hv : vl < 1000) (h : u q 10 = nI Lc) : ∃ v : MU, f_X5_addLeaf q kd (nI vl) u = some (1, v) ∧ cg q u v ∧ v q 11 = u q 11 ∧ v q 10 = nI (Lc + 1) ∧ v (q + 6) = upd (u (q + 6)) Lc kd ∧ v (q + 7) = upd (u (q + 7)) Lc (nI vl) := by
  have e1 : ∀ (j : Nat) (x : Int32), mup u (q + 6) j x q 10 = nI Lc := fun j x => by rw [mup_ne (by omega)]; exact h
  have e2 : ∀ (j i : Nat) (x y : Int32), mup (mup u (q + 6) j x) (q + 7) i y q 10 = nI Lc := fun j i x y => by rw [mup_ne (by omega)]; exact e1 j x
  have hne : ¬ nI vl = (-1 : Int32) := fun q => by
    have := congrArg Int32.toInt q
    rw [toInt_n (by omega), show (-1 : Int32).toInt = -1 from rfl] at this
    omega
  rw [f_X5_addLeaf, if_neg hne, h, if_pos ((lt_ (by omega) (by omega)).mpr hL), gdt (ix_ hL (by omega)), mSe, nc_ (by omega), e1, gdt (ix_ hL (by omega)), mSe, nc_ (by omega), e2, mSe, nI_1]
  refine ⟨_, rfl, (((cg.rf q u).row (Or.inl rfl)).row (Or.inr rfl)).up (Or.inl rfl), ?_, mup_self, ?_, ?_⟩
  · rw [mup_sne (by decide), mup_ne (by omega), mup_ne (by omega)]
  · rw [mup_ne (by omega), mup_ne (by omega)]
    unfold mup mrow
    rw [if_pos rfl]
  · rw [mup_ne (by omega)]
    unfold mup mrow
    rw [if_pos rfl, if_neg (by omega)]
theorem addl_n (q : Nat) (kd : Int32) (u : MU) : f_X5_addLeaf q kd (-1) u = some (0, u) := by
  rw [f_X5_addLeaf, if_pos rfl]
theorem cleaf_s {u : MU} {q n a Lc : Nat} {w : Nat → Int32} (ha : a < n) (h : cT u q w n) (h5 : u q 11 = nI a) (hL : Lc < 30) (h10 : u q 10 = nI Lc) : ∃ v : MU, f_X5_readLeaf q u = some (oB (pL w n a).2, v) ∧ cg q u v ∧ v q 11 = nI (pL w n a).1 ∧ ((pL w n a).2 = none → v q 10 = nI Lc ∧ v (q + 6) = u (q + 6) ∧ v (q + 7) = u (q + 7)) ∧ ∀ l, (pL w n a).2 = some l → v q 10 = nI (Lc + 1) ∧ v (q + 6) = upd (u (q + 6)) Lc (nI l.1) ∧ v (q + 7) = upd (u (q + 7)) Lc (nI l.2) := by
  have hn := h.1
  obtain ⟨s1, s2⟩ := at_s h h5 ha
  have fin : ∀ (kd vl b : Nat), kd < 1000 → vl < 1000 → pL w n a = (b, some (kd, vl)) → ∀ (t : MU), cg q u t → t q 11 = nI b → t q 10 = nI Lc → t (q + 6) = u (q + 6) → t (q + 7) = u (q + 7) → ∃ v : MU, mB (f_X5_addLeaf q (nI kd) (nI vl) t) (fun r1 u1 => gd (mZ r1) (some (r1, u1))) = some (oB (pL w n a).2, v) ∧ cg q u v ∧ v q 11 = nI (pL w n a).1 ∧ ((pL w n a).2 = none → v q 10 = nI Lc ∧ v (q + 6) = u (q + 6) ∧ v (q + 7) = u (q + 7)) ∧ ∀ l, (pL w n a).2 = some l → v q 10 = nI (Lc + 1) ∧ v (q + 6) = upd (u (q + 6)) Lc (nI l.1) ∧ v (q + 7) = upd (u (q + 7)) Lc (nI l.2) := by
    intro kd vl b hkd hvl hp t g1 g2 g3 g4 g5
    obtain ⟨v, e1, e2, e3, e4, e5, e6⟩ := addl_s (kd := nI kd) hL hvl g3
    rw [mBe e1, gdt z_one, hp]
    refine ⟨v, rfl, g1.tr e2, e3.trans g2, fun q => (by cases q), fun l hl => ?_⟩
    cases hl
    rw [g4] at e5
    rw [g5] at e6
    exact ⟨e4, e5, e6⟩
  have up : ∀ x : Int32, mup u q 11 x q 10 = nI Lc ∧ mup u q 11 x (q + 6) = u (q + 6) ∧ mup u q 11 x (q + 7) = u (q + 7) := fun x => ⟨by rw [mup_sne (by decide)]; exact h10, mup_ne (by omega), mup_ne (by omega)⟩
  rw [f_X5_readLeaf, gdt s1, s2, mBe (fig5 _ _)]
  by_cases c2 : isFig (hr w n a) = true
  · obtain ⟨d, hd, he⟩ := fig_of c2
    have c1 : ¬ hr w n a = nI 64 := fun q => by rw [q] at c2; exact absurd c2 (by decide)
    have hp : pL w n a = (a + 1, some (0, d)) := by
      unfold pL
      rw [if_neg c1, if_pos c2, he, dgt, nc_ (by omega), show 48 + d - 48 = d by omega]
    rw [if_pos c2, if_neg (by decide), mSe, h5, nI_1, he, sub_ (by omega), show 48 + d - 48 = d by omega]
    exact fin 0 d (a + 1) (by omega) (by omega) hp _ ((cg.rf q u).up (Or.inr rfl)) mup_self (up _).1 (up _).2.1 (up _).2.2
  · rw [if_neg c2, if_pos rfl]
    by_cases c4 : hr w n a = nI 112
    · have hp : pL w n a = (a + 1, some (1, 0)) := by
        unfold pL
        rw [if_neg (by rw [c4]; decide), if_neg c2, if_neg (by rw [c4]; decide), if_pos c4]
      rw [if_pos c4, mSe, h5, nI_1]
      exact fin 1 0 (a + 1) (by omega) (by omega) hp _ ((cg.rf q u).up (Or.inr rfl)) mup_self (up _).1 (up _).2.1 (up _).2.2
    · rw [if_neg c4, mBe (let5 _ _)]
      by_cases c3 : isLet (hr w n a) = true
      · obtain ⟨d, hd, he⟩ := let_of c3
        have c1 : ¬ hr w n a = nI 64 := fun q => by rw [q] at c3; exact absurd c3 (by decide)
        have hp : pL w n a = (a + 1, some (2, d)) := by
          unfold pL
          rw [if_neg c1, if_neg c2, if_pos c3, he, ltr, nc_ (by omega), show 97 + d - 97 = d by omega]
        rw [if_pos c3, if_neg (by decide), mSe, h5, nI_1, he, sub_ (by omega), show 97 + d - 97 = d by omega]
        exact fin 2 d (a + 1) (by omega) (by omega) hp _ ((cg.rf q u).up (Or.inr rfl)) mup_self (up _).1 (up _).2.1 (up _).2.2
      · rw [if_neg c3, if_pos rfl]
        by_cases c1 : hr w n a = nI 64
        · rw [if_pos c1, mSe, h5, nI_1, mBe (cidx_s (show a + 1 ≤ n by omega) (h.up (by decide)) mup_self), mup_mup]
          have hI := pI_le (w := w) (n := n) (a := a + 1) (by omega)
          cases hp : pI w n (a + 1) with
          | mk b o =>
            rw [hp] at hI
            cases o with
            | none =>
              have hp2 : pL w n a = (b, none) := by
                unfold pL
                rw [if_pos c1, hp]
              rw [show oN (b, (none : Option Nat)).2 = -1 from rfl, mBe (addl_n _ _ _), gdt z_zero, hp2]
              exact ⟨_, rfl, (cg.rf q u).up (Or.inr rfl), mup_self, fun _ => up _, fun l hl => by cases hl⟩
            | some s =>
              have hp2 : pL w n a = (b, some (2, s)) := by
                unfold pL
                rw [if_pos c1, hp]
              have := hI.2.2 s rfl
              exact fin 2 s b (by omega) (by omega) hp2 _ ((cg.rf q u).up (Or.inr rfl)) mup_self (up _).1 (up _).2.1 (up _).2.2
        · have hp : pL w n a = (a, none) := by
            unfold pL
            rw [if_neg c1, if_neg c2, if_neg c3, if_neg c4]
          rw [if_neg c1, hp]
          exact ⟨u, rfl, cg.rf q u, h5, fun _ => ⟨h10, rfl, rfl⟩, fun l hl => by cases hl⟩
