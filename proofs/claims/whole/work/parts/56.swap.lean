def swp (f : Nat → Int32) (k : Nat) : Nat → Int32 := fun j => if j = k then f (k + 1) else if j = k + 1 then f k else f j
theorem swp_ok {P : Int32 → Prop} {f : Nat → Int32} {k : Nat} (hk : k + 1 < 16) (h : ∀ j : Nat, j < 16 → P (f j)) : ∀ j : Nat, j < 16 → P (swp f k j) := by
  intro j hj
  unfold swp
  by_cases c : j = k
  · rw [if_pos c]; exact h _ hk
  · rw [if_neg c]
    by_cases c2 : j = k + 1
    · rw [if_pos c2]; exact h _ (by omega)
    · rw [if_neg c2]; exact h j hj
theorem swp_eq {f g : Nat → Int32} {k : Nat} (hk : k + 1 < 16) (h : ∀ j : Nat, j < 16 → f j = g j) : ∀ j : Nat, j < 16 → swp f k j = swp g k j := by
  intro j hj
  unfold swp
  rw [h (k + 1) hk, h k (by omega), h j hj]
theorem swp_up {f : Nat → Int32} {k : Nat} : upd (upd f k (f (k + 1))) (k + 1) (f k) = swp f k := by
  funext j
  unfold swp
  by_cases c : j = k + 1
  · subst c
    rw [pk_us, if_neg (by omega), if_pos rfl]
  · rw [pk_un c]
    by_cases c2 : j = k
    · subst c2
      rw [pk_us, if_pos rfl]
    · rw [pk_un c2, if_neg c2, if_neg c]
theorem exch_s {u : MU} {k : Nat} (hk : k + 1 < 16) : ∃ v : MU, f_X4_exchangeWithNext 9 (nI k) u = some (0, v) ∧ v 10 = swp (u 10) k ∧ v 11 = swp (u 11) k ∧ ∀ a : Nat, a ≠ 10 → a ≠ 11 → v a = u a := by
  have i0 := ix_ (show k < 16 by omega) (show (16 : Nat) < 1000 by omega)
  have i1 := ix_ hk (show (16 : Nat) < 1000 by omega)
  rw [f_X4_exchangeWithNext, nI_1, gdt i0, gdt i0, gdt i1, gdt i0, mSe, gdt i1, gdt i0, mSe, gdt i1, mSe, gdt i1, mSe, nc_ (by omega), nc_ (by omega)]
  refine ⟨_, rfl, ?_, ?_, fun a h1 h2 => ?_⟩
  · rw [mup_ne (by decide), show (9 : Nat) + 1 = 10 from rfl, mup_row, mup_ne (by decide), mup_row, swp_up]
  · rw [show (9 : Nat) + 2 = 11 from rfl, show (9 : Nat) + 1 = 10 from rfl, mup_row, mup_ne (by decide), mup_row, mup_ne (by decide), swp_up]
  · rw [mup_ne h2, mup_ne h1, mup_ne h2, mup_ne h1]
theorem turn_s {u : MU} {q k : Nat} (hq : mLen q = 16) (hk : k + 1 < 16) : ∃ v : MU, f_X7_turn q (nI k) u = some (0, v) ∧ v q = swp (u q) k ∧ ∀ a : Nat, a ≠ q → v a = u a := by
  have i0 := ix_ (show k < 16 by omega) (show (16 : Nat) < 1000 by omega)
  have i1 := ix_ hk (show (16 : Nat) < 1000 by omega)
  rw [f_X7_turn, hq, nI_1, gdt i0, gdt i1, gdt i0, mSe, gdt i1, mSe, nc_ (by omega), nc_ (by omega)]
  refine ⟨_, rfl, ?_, fun a h => ?_⟩
  · rw [mup_row, mup_row, swp_up]
  · rw [mup_ne h, mup_ne h]
theorem effOf_s {u : MU} {k r x : Nat} (hk : k < 16) (h1 : u 92 k = nI r) (h2 : u 93 k = nI x) : f_X7_effectOf (nI k) u = some (nI (12 * r + x), u) := by
  rw [f_X7_effectOf, gdt (ix_ hk (by omega)), gdt (ix_ hk (by omega)), nc_ (by omega), h1, h2, mul_, nI_add]
theorem cau_fE {u v : MU} (h : ∀ k : Nat, 3 ≤ k → k ≤ 6 → v k = u k) (p q : Nat) : cau (cG v) p q = cau (cG u) p q := cau_eq (fun i hi => by unfold cG; rw [h (3 + i) (by omega) (by omega)]) (fun i hi => by unfold cG; rw [h (3 + i) (by omega) (by omega)])
theorem op_swap (x : Int32) : Same (f_X6_swap x) (f_X7_swap x) := by
  intro u h
  obtain ⟨p1, ⟨⟨m, hm, pm⟩, p2⟩, p3⟩ := h.2.2.1
  have p5 : u 88 5 = nI m := by rw [← p1, pm]
  by_cases m0 : m = 0
  · subst m0
    refine ⟨-1, u, u, ?_, ?_, h⟩
    · rw [f_X6_swap, pm]
      have : f_X6_within x (nI 0 - 1) u = some (0, u) := by
        unfold f_X6_within
        by_cases c : x < 0
        · rw [if_pos c]
        · rw [if_neg c, if_pos]
          have := Int32.not_lt.mp c
          have a1 := Int32.le_iff_toInt_le.mp this
          rw [show (0 : Int32).toInt = 0 from by decide] at a1
          apply Int32.le_iff_toInt_le.mpr
          rw [show (nI 0 - 1).toInt = -1 from by decide]
          omega
      rw [mBe this, if_pos rfl]
    · rw [f_X7_swap, mBe (isC_out hm p5 (by
        rcases rg x 0 (by omega) with hx | ⟨k, hk, _⟩
        · exact hx
        · omega)), if_pos rfl]
  · have es : nI m - 1 = nI (m - 1) := sub1_ (by omega)
    rcases rg x (m - 1) (by omega) with hx | ⟨k, hk, rfl⟩
    · refine ⟨-1, u, u, ?_, ?_, h⟩
      · rw [f_X6_swap, pm, es, mBe (wi_out hx u), if_pos rfl]
      · rw [f_X7_swap]
        rcases rg x m (by omega) with hx' | ⟨k, hk, rfl⟩
        · rw [mBe (isC_out hm p5 hx'), if_pos rfl]
        · have : k = m - 1 := by
            rcases hx with hx | hx
            · exact absurd hx (nI_pos (by omega))
            · have := (le_ (by omega) (by omega)).mp hx
              omega
          subst this
          rw [mBe (isC_in hm p5 hk), if_neg (by decide), nI_1, mBe (isC_out hm p5 (Or.inr ((le_ (by omega) (by omega)).mpr (by omega)))), if_pos rfl]
    · have hk16 : k + 1 < 16 := by omega
      obtain ⟨⟨r, hr, er⟩, g, hg, eg⟩ := p2 k (by omega)
      obtain ⟨⟨r', hr', er'⟩, g', hg', eg'⟩ := p2 (k + 1) hk16
      obtain ⟨v, e1, e2, e3, e4, e5⟩ := find_s h
      have v10 : v 10 = u 10 := e5 10 (by omega)
      have v11 : v 11 = u 11 := e5 11 (by omega)
      have i0 := ix_ (show k < 16 by omega) (show (16 : Nat) < 1000 by omega)
      have i1 := ix_ hk16 (show (16 : Nat) < 1000 by omega)
      have cls : ∀ (a : Int32) (b : MU), (if v 7 r = 0 then some ((-5), v) else (if v 7 r' = 0 then some ((-5), v) else (if cau (cG v) (12 * r + g) (12 * r' + g') = 0 then mB (f_X4_exchangeWithNext 9 (nI k) v) (fun _ u12 => some (1, u12)) else some ((-3), v)))) = some (a, b) → f_X6_swap (nI k) u = some (a, b) := by
        intro a b q
        rw [f_X6_swap, pm, es, mBe (wi_in hk (by omega) u), if_neg (by decide), mBe e1, gdt i0, nI_1, v10, nc_ (by omega), nc_ (by omega), er, er', gdt (ix_ hr (by omega)), nc_ (by omega), gdt i1, gdt (ix_ hr' (by omega)), nc_ (by omega), f_X0_free, gdt i0, gdt i0, gdt i1, gdt i1, nc_ (by omega), nc_ (by omega), show (9 : Nat) + 1 = 10 from rfl, show (9 : Nat) + 2 = 11 from rfl, v10, v11, er, er', eg, eg', mBe (between_s hr hg hr' hg')]
        by_cases c : cau (cG v) (12 * r + g) (12 * r' + g') = 0
        · rw [if_pos c] at q ⊢
          rw [mBs, if_neg (show ¬ (1 : Int32) = 0 by decide)]
          exact q
        · rw [if_neg c] at q ⊢
          rw [mBs, if_pos rfl]
          exact q
      -- the model, from any state that the class leaves
      have mdl : ∀ w : MU, TX w → KN w → CE w → (∀ j : Nat, (2 ≤ j ∧ j ≤ 7) → w j = v j) → w 88 5 = nI m → w 92 = u 92 → w 93 = u 93 → ∃ s : MU, fE w s ∧ f_X7_swap (nI k) w = (if v 7 r = 0 then some ((-5), s) else (if v 7 r' = 0 then some ((-5), s) else (if cau (cG v) (12 * r + g) (12 * r' + g') = 0 then mB (f_X7_turn 92 (nI k) s) (fun _ u16 => mB (f_X7_turn 93 (nI k) u16) (fun _ u17 => some (1, u17))) else some ((-3), s)))) := by
        intro w hT hK hC hw w5 w92 w93
        obtain ⟨t, f1, f2, f3⟩ := fnd_s hT hK hC
        obtain ⟨s, g1, g2⟩ := f3.known hr
        obtain ⟨s', k1, k2⟩ := (f3.p7 g2).known hr'
        have q1 : u 92 k = nI r := by rw [← (p3 k (by omega)).1]; exact er
        have q2 : u 92 (k + 1) = nI r' := by rw [← (p3 (k + 1) hk16).1]; exact er'
        have q3 : u 93 k = nI g := by rw [← (p3 k (by omega)).2]; exact eg
        have q4 : u 93 (k + 1) = nI g' := by rw [← (p3 (k + 1) hk16).2]; exact eg'
        have t92 : t 92 = u 92 := by rw [f2.1 92 (by decide) (by omega), w92]
        have s92 : s 92 = u 92 := by rw [g2.1 92 (by decide), t92]
        have s92' : s' 92 = u 92 := by rw [k2.1 92 (by decide), s92]
        have s93' : s' 93 = u 93 := by rw [k2.1 93 (by decide), g2.1 93 (by decide), f2.1 93 (by decide) (by omega), w93]
        have t7 : t 7 = v 7 := by rw [f2.1 7 (by decide) (by omega), hw 7 (by omega)]
        have s7 : s 7 = v 7 := by rw [g2.1 7 (by decide), t7]
        have s7' : s' 7 = v 7 := by rw [k2.1 7 (by decide), s7]
        have head : f_X7_swap (nI k) w = (if v 7 r = 0 then some ((-5), s) else (if v 7 r' = 0 then some ((-5), s') else mB (f_X7_causesOf (nI (12 * r + g)) (nI (12 * r' + g')) s') (fun r14 u14 => (if r14 = 0 then mB (f_X7_turn 92 (nI k) u14) (fun r16 u16 => mB (f_X7_turn 93 (nI k) u16) (fun r17 u17 => some (1, u17))) else some ((-3), u14))))) := by
          rw [f_X7_swap, mBe (isC_in hm w5 (by omega)), if_neg (by decide), nI_1, mBe (isC_in hm w5 (by omega)), if_neg (by decide), mBe f1, gdt i0, nc_ (by omega), t92, q1, mBe g1, gdt i1, nc_ (by omega), s92, q2, mBe k1, mBe (effOf_s (by omega) (by rw [s92']; exact q1) (by rw [s93']; exact q3)), mBe (effOf_s hk16 (by rw [s92']; exact q2) (by rw [s93']; exact q4)), t7, s7]
        rcases mZ_or (e3.1 r hr) with q | q
        · refine ⟨s, f2.tr g2.fE, ?_⟩
          rw [head, if_pos q, if_pos q]
        · have q0 : ¬ v 7 r = 0 := by rw [q]; decide
          refine ⟨s', (f2.tr g2.fE).tr k2.fE, ?_⟩
          rw [head, if_neg q0, if_neg q0]
          rcases mZ_or (e3.1 r' hr') with p | p
          · rw [if_pos p, if_pos p]
          · have p0 : ¬ v 7 r' = 0 := by rw [p]; decide
            rw [if_neg p0, if_neg p0, mBe (causesOf_s (by omega) (by omega)), ((f3.p7 g2).p7 k2).cauE hr hg hr' hg' (by rw [s7']; exact q) (by rw [s7']; exact p), cau_fE (u := v) (fun j a b => by rw [k2.1 j (by omega), g2.1 j (by omega), f2.1 j (by omega) (by omega), hw j (by omega)])]
      have none : ∀ a : Int32, (∀ (s : MU), (if v 7 r = 0 then some ((-5 : Int32), s) else (if v 7 r' = 0 then some ((-5), s) else (if cau (cG v) (12 * r + g) (12 * r' + g') = 0 then mB (f_X7_turn 92 (nI k) s) (fun _ u16 => mB (f_X7_turn 93 (nI k) u16) (fun _ u17 => some (1, u17))) else some ((-3), s)))) = some (a, s)) → f_X6_swap (nI k) u = some (a, v) → ∃ (r : Int32) (v t : MU), f_X6_swap (nI k) u = some (r, v) ∧ f_X7_swap (nI k) v = some (r, t) ∧ Inv t := by
        intro a ha hc
        obtain ⟨s, s1, s2⟩ := mdl v e2.1 e3 e4 (fun _ _ => rfl) (by rw [e5 88 (by omega)]; exact p5) (e5 92 (by omega)) (e5 93 (by omega))
        exact ⟨a, v, s, hc, by rw [s2]; exact ha s, e2.scr s1.scr⟩
      by_cases c1 : v 7 r = 0
      · exact none (-5) (fun s => by rw [if_pos c1]) (cls _ _ (by rw [if_pos c1]))
      by_cases c2 : v 7 r' = 0
      · exact none (-5) (fun s => by rw [if_neg c1, if_pos c2]) (cls _ _ (by rw [if_neg c1, if_pos c2]))
      by_cases c3 : cau (cG v) (12 * r + g) (12 * r' + g') = 0
      · obtain ⟨a, a1, a2, a3, a4⟩ := exch_s (u := v) hk16
        have aT : TX a := e2.1.cong (a4 89 (by decide) (by decide)) (a4 90 (by decide) (by decide)) (fun j _ _ => a4 j (by omega) (by omega))
        have aK : KN a := e3.cong (a4 7 (by decide) (by decide)) (a4 89 (by decide) (by decide)) (a4 90 (by decide) (by decide))
        have aC : CE a := e4.cong (fun j _ _ => a4 j (by omega) (by omega)) (a4 89 (by decide) (by decide)) (a4 90 (by decide) (by decide))
        obtain ⟨s, s1, s2⟩ := mdl a aT aK aC (fun j hj => a4 j (by omega) (by omega)) (by rw [a4 88 (by decide) (by decide), e5 88 (by omega)]; exact p5) (by rw [a4 92 (by decide) (by decide), e5 92 (by omega)]) (by rw [a4 93 (by decide) (by decide), e5 93 (by omega)])
        obtain ⟨b, b1, b2, b3⟩ := turn_s (u := s) (q := 92) (by decide) hk16
        obtain ⟨c, d1, d2, d3⟩ := turn_s (u := b) (q := 93) (by decide) hk16
        have cE : ∀ j : Nat, j ≠ 92 → j ≠ 93 → c j = s j := fun j h1 h2 => by rw [d3 j h2, b3 j h1]
        have cA : ∀ j : Nat, j ≠ 88 → (j < 92 ∨ 98 < j) → c j = a j := fun j h1 h2 => by rw [cE j (by omega) (by omega), s1.1 j h1 (by omega)]
        have cV : ∀ j : Nat, j ≠ 88 → (j < 10 ∨ (11 < j ∧ j < 92) ∨ 98 < j) → c j = v j := fun j h1 h2 => by rw [cA j h1 (by omega), a4 j (by omega) (by omega)]
        have c92 : c 92 = swp (u 92) k := by rw [d3 92 (by decide), b2, s1.1 92 (by decide) (by omega), a4 92 (by decide) (by decide), e5 92 (by omega)]
        have c93 : c 93 = swp (u 93) k := by rw [d2, b3 93 (by decide), s1.1 93 (by decide) (by omega), a4 93 (by decide) (by decide), e5 93 (by omega)]
        have c10 : c 10 = swp (u 10) k := by rw [cA 10 (by decide) (by omega), a2, v10]
        have c11 : c 11 = swp (u 11) k := by rw [cA 11 (by decide) (by omega), a3, v11]
        have c9 : c 9 2 = nI m := by rw [cV 9 (by decide) (by omega), e5 9 (by omega)]; exact pm
        have c88 : c 88 5 = nI m := by rw [cE 88 (by decide) (by decide), s1.2 5 (by omega), a4 88 (by decide) (by decide), e5 88 (by omega)]; exact p5
        refine ⟨1, a, c, cls _ _ ?_, ?_, ?_⟩
        · rw [if_neg c1, if_neg c2, if_pos c3, mBe a1]
        · rw [s2, if_neg c1, if_neg c2, if_pos c3, mBe b1, mBe d1]
        · refine e2.mk3 (e2.2.1.cong (cV 8 (by decide) (by omega)) (cV 91 (by decide) (by omega))) ⟨by rw [c9, c88], ⟨⟨m, hm, c9⟩, fun j hj => ?_⟩, fun j hj => ?_⟩ (e2.2.2.2.1.cong (fun j _ _ => cV j (by omega) (by omega)) (cV 109 (by decide) (by omega)) (cV 110 (by decide) (by omega))) (fun j hj => cV j (by omega) (by omega))
          · rw [c10, c11]
            exact ⟨swp_ok (P := fun z => ∃ v : Nat, v < 6 ∧ z = nI v) hk16 (fun j hj => (p2 j hj).1) j hj, swp_ok (P := fun z => ∃ v : Nat, v < 12 ∧ z = nI v) hk16 (fun j hj => (p2 j hj).2) j hj⟩
          · rw [c10, c11, c92, c93]
            exact ⟨swp_eq hk16 (fun j hj => (p3 j hj).1) j hj, swp_eq hk16 (fun j hj => (p3 j hj).2) j hj⟩
      · exact none (-3) (fun s => by rw [if_neg c1, if_neg c2, if_neg c3]) (cls _ _ (by rw [if_neg c1, if_neg c2, if_neg c3]))
