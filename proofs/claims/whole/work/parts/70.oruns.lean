theorem how_out {x : Int32} (h : x < 0 ∨ nI 3 ≤ x) : x < 0 ∨ nI 2 < x := by
  rcases h with h | h
  · exact Or.inl h
  · right
    have h1 := Int32.le_iff_toInt_le.mp h
    apply Int32.lt_iff_toInt_lt.mpr
    rw [toInt_n (by omega)] at h1 ⊢
    omega
theorem op_run (x y : Int32) : Same (f_X6_run x y) (f_X7_run x y) := by
  intro u h
  rcases rg x 3 (by omega) with hx | ⟨how, hh, rfl⟩
  · refine ⟨-2, u, u, ?_, ?_, h⟩
    · rw [f_X6_run]
      by_cases c : x < 0
      · rw [if_pos c]
      · rw [if_neg c, if_pos]
        rcases how_out hx with q | q
        · exact absurd q c
        · exact q
    · rw [f_X7_run, mBe (inZ (n := 2) (by omega) (by decide) (by decide) u hx (by omega)), if_pos rfl]
  have c1 : ¬ nI how < 0 := nI_pos (by omega)
  have c2 : ¬ nI 2 < nI how := fun z => absurd ((lt_ (by omega) (by omega)).mp z) (by omega)
  rcases rg y 20 (by omega) with hy | ⟨k, hk, rfl⟩
  · refine ⟨-2, u, u, ?_, ?_, h⟩
    · rw [f_X6_run, if_neg c1, if_neg c2]
      by_cases c : y < 0
      · rw [if_pos c]
      · rw [if_neg c, if_neg]
        intro q
        rcases hy with z | z
        · exact c z
        · have h1 := Int32.le_iff_toInt_le.mp z
          have h2 := Int32.le_iff_toInt_le.mp q
          rw [toInt_n (by omega)] at h1 h2
          omega
    · rw [f_X7_run, mBe (inO (n := 2) (by omega) (by decide) (by decide) u hh), if_neg (by decide), mBe (inZ (n := 19) (by omega) (by decide) (by decide) u hy (by omega)), if_pos rfl]
  have c3 : ¬ nI k < 0 := nI_pos (by omega)
  have c4 : nI k ≤ nI 19 := (le_ (by omega) (by omega)).mpr (by omega)
  obtain ⟨v, v1, v2, v3⟩ := both_s h (show how ≤ 2 by omega)
  rcases v3 with ⟨p1, p2⟩ | ⟨V, T, n, S, p1, p2, p3, p4⟩
  · obtain ⟨t, t1, t2⟩ := p2 v (fun _ _ _ => rfl)
    refine ⟨-3, v, t, ?_, ?_, v1.scr t1.scr⟩
    · rw [f_X6_run, if_neg c1, if_neg c2, if_neg c3, if_pos c4, mBe p1, if_pos rfl]
    · rw [f_X7_run, mBe (inO (n := 2) (by omega) (by decide) (by decide) v hh), if_neg (by decide), mBe (inO (n := 19) (by omega) (by decide) (by decide) v hk), if_neg (by decide), mBe t2, if_pos rfl]
  · obtain ⟨t, t1, t2, t3⟩ := p4 v (fun _ _ _ => rfl)
    obtain ⟨a1, a2, a3, a4, a5, a6, a7⟩ := p3
    obtain ⟨b1, b2, b3, b4, b5, b6, b7⟩ := t3
    have f6 : ∀ r : Int32, (if nI k = nI 18 then some (v 27 2, v) else (if nI k = nI 19 then some (v 27 3, v) else gd (mIx (nI k) 18) (some (v 28 (nI k).toNatClampNeg, v)))) = some (r, v) → f_X6_run (nI how) (nI k) u = some (r, v) := by
      intro r q
      rw [f_X6_run, if_neg c1, if_neg c2, if_neg c3, if_pos c4, mBe p1, if_neg (by decide)]
      exact q
    have f7 : ∀ r : Int32, (if nI 18 ≤ nI k then (if nI k = nI 18 then some (t 88 33, t) else some (t 88 34, t)) else gd (mIx (nI k) 18) (some (t 99 (nI k).toNatClampNeg, t))) = some (r, t) → f_X7_run (nI how) (nI k) v = some (r, t) := by
      intro r q
      rw [f_X7_run, mBe (inO (n := 2) (by omega) (by decide) (by decide) v hh), if_neg (by decide), mBe (inO (n := 19) (by omega) (by decide) (by decide) v hk), if_neg (by decide), mBe t2, if_neg (by decide)]
      exact q
    by_cases k18 : k = 18
    · subst k18
      refine ⟨nI n, v, t, f6 _ ?_, f7 _ ?_, v1.scr t1.scr⟩
      · rw [if_pos rfl, a3]
      · rw [if_pos (by decide), if_pos rfl, b3]
    · have d18 : ¬ nI k = nI 18 := fun z => k18 ((eq_ (by omega) (by omega)).mp z)
      by_cases k19 : k = 19
      · subst k19
        refine ⟨nI S, v, t, f6 _ ?_, f7 _ ?_, v1.scr t1.scr⟩
        · rw [if_neg d18, if_pos rfl, a6]
        · rw [if_pos (by decide), if_neg d18, b6]
      · have d19 : ¬ nI k = nI 19 := fun z => k19 ((eq_ (by omega) (by omega)).mp z)
        have ik := ix_ (show k < 18 by omega) (show (18 : Nat) < 1000 by omega)
        refine ⟨nI (V k), v, t, f6 _ ?_, f7 _ ?_, v1.scr t1.scr⟩
        · rw [if_neg d18, if_neg d19, gdt ik, nc_ (by omega), a1 k (by omega)]
        · rw [if_neg (fun z => absurd ((le_ (by omega) (by omega)).mp z) (by omega)), gdt ik, nc_ (by omega), b1 k (by omega)]
theorem inm_in {z : Int32} {m k : Nat} (hm : m ≤ 16) (h : z = nI m) (hk : k < m) (u : MU) : f_X7_in (nI k).toInt64 0 ((z - 1).toInt64) u = some (1, u) := by
  have e : (z - 1).toInt64.toInt = ((m : Int) - 1) := by
    rw [h, sub1_ (by omega), Int32.toInt_toInt64, toInt_n (by omega)]; omega
  rw [in_s _ 0 _ 0 _ (by decide) e u, toInt_n (by omega), if_pos (show (0 : Int) ≤ (k : Int) ∧ (k : Int) ≤ (m : Int) - 1 by omega)]
theorem inm_out {z x : Int32} {m : Nat} (hm : m ≤ 16) (h : z = nI m) (hx : x < 0 ∨ nI m ≤ x) (u : MU) : f_X7_in x.toInt64 0 ((z - 1).toInt64) u = some (0, u) := by
  have hq := out_toInt (n := m) (by omega) hx
  by_cases m0 : m = 0
  · subst m0
    have e : (z - 1).toInt64.toInt = (-1 : Int) := by rw [h]; decide
    rw [in_s x 0 _ 0 _ (by decide) e u, if_neg (show ¬ (0 ≤ x.toInt ∧ x.toInt ≤ -1) by omega)]
  · have e : (z - 1).toInt64.toInt = ((m : Int) - 1) := by
      rw [h, sub1_ (by omega), Int32.toInt_toInt64, toInt_n (by omega)]; omega
    rw [in_s x 0 _ 0 _ (by decide) e u, if_neg (show ¬ (0 ≤ x.toInt ∧ x.toInt ≤ (m : Int) - 1) by omega)]
theorem op_thrower (x y : Int32) : Same (f_X6_thrower x y) (f_X7_thrower x y) := by
  intro u h
  rcases rg x 3 (by omega) with hx | ⟨how, hh, rfl⟩
  · refine ⟨-2, u, u, ?_, ?_, h⟩
    · rw [f_X6_thrower]
      by_cases c : x < 0
      · rw [if_pos c]
      · rw [if_neg c, if_neg]
        rcases how_out hx with q | q
        · exact absurd q c
        · exact fun z => absurd z (Int32.not_le.mpr q)
    · rw [f_X7_thrower, mBe (inZ (n := 2) (by omega) (by decide) (by decide) u hx (by omega)), if_pos rfl]
  have c1 : ¬ nI how < 0 := nI_pos (by omega)
  have c2 : nI how ≤ nI 2 := (le_ (by omega) (by omega)).mpr (by omega)
  obtain ⟨v, v1, v2, v3⟩ := both_s h (show how ≤ 2 by omega)
  rcases v3 with ⟨p1, p2⟩ | ⟨V, T, n, S, p1, p2, p3, p4⟩
  · obtain ⟨t, t1, t2⟩ := p2 v (fun _ _ _ => rfl)
    refine ⟨-3, v, t, ?_, ?_, v1.scr t1.scr⟩
    · rw [f_X6_thrower, if_neg c1, if_pos c2, mBe p1, if_pos rfl]
    · rw [f_X7_thrower, mBe (inO (n := 2) (by omega) (by decide) (by decide) v hh), if_neg (by decide), mBe t2, if_pos rfl]
  · obtain ⟨t, t1, t2, t3⟩ := p4 v (fun _ _ _ => rfl)
    obtain ⟨a1, a2, a3, a4, a5, a6, a7⟩ := p3
    obtain ⟨b1, b2, b3, b4, b5, b6, b7⟩ := t3
    rcases rg y n (by omega) with hy | ⟨k, hk, rfl⟩
    · refine ⟨-6, v, t, ?_, ?_, v1.scr t1.scr⟩
      · rw [f_X6_thrower, if_neg c1, if_pos c2, mBe p1, if_neg (by decide), a3, mBe (wi_out hy v), if_pos rfl]
      · rw [f_X7_thrower, mBe (inO (n := 2) (by omega) (by decide) (by decide) v hh), if_neg (by decide), mBe t2, if_neg (by decide), mBe (inm_out p2 b3 hy t), if_pos rfl]
    · have ik := ix_ (show k < 16 by omega) (show (16 : Nat) < 1000 by omega)
      refine ⟨nI (T k), v, t, ?_, ?_, v1.scr t1.scr⟩
      · rw [f_X6_thrower, if_neg c1, if_pos c2, mBe p1, if_neg (by decide), a3, mBe (wi_in hk (by omega) v), if_neg (by decide), gdt ik, nc_ (by omega), a5 k hk]
      · rw [f_X7_thrower, mBe (inO (n := 2) (by omega) (by decide) (by decide) v hh), if_neg (by decide), mBe t2, if_neg (by decide), mBe (inm_in p2 b3 hk t), if_neg (by decide), gdt ik, nc_ (by omega), b5 k hk]
theorem com13_s (u : MU) : ∃ v : MU, l_X7_commit_13 FU 0 u = some (u 88 33, v) ∧ v 88 5 = 0 ∧ (∀ j : Nat, j ≠ 5 → v 88 j = u 88 j) ∧ (∀ j : Nat, j < 18 → v 91 j = u 99 j) ∧ ∀ k : Nat, k ≠ 88 → k ≠ 91 → v k = u k := by
  rw [show l_X7_commit_13 FU 0 u = l_X7_commit_13 FU (nI 0) u from rfl]
  refine for_s (L := fun F i (_ : Unit) u => l_X7_commit_13 F (nI i) u) (Q := fun r => ∃ v : MU, r = some (u 88 33, v) ∧ v 88 5 = 0 ∧ (∀ j : Nat, j ≠ 5 → v 88 j = u 88 j) ∧ (∀ j : Nat, j < 18 → v 91 j = u 99 j) ∧ ∀ k : Nat, k ≠ 88 → k ≠ 91 → v k = u k) (I := fun i _ v => (∀ j : Nat, j < i → v 91 j = u 99 j) ∧ ∀ k : Nat, k ≠ 91 → v k = u k) (m := 18) ?_ ?_ 0 () u FU (by omega) ⟨fun j hj => by omega, fun _ _ => rfl⟩ (by unfold FU; omega)
  · rintro F i _ v hi ⟨i1, i2⟩
    right
    have ii := ix_ hi (show (18 : Nat) < 1000 by omega)
    rw [l_X7_commit_13, b_X7_commit_13, if_neg (fun z => absurd ((le_ (by omega) (by omega)).mp z) (by omega)), gdt ii, gdt ii, mSe, nc_ (by omega), nI_1, i2 99 (by decide)]
    refine ⟨(), _, rfl, fun j hj => ?_, fun k hk => by rw [mup_ne hk]; exact i2 k hk⟩
    by_cases e : j = i
    · rw [e, mup_self]
    · rw [mup_sne e]; exact i1 j (by omega)
  · rintro F _ v ⟨i1, i2⟩
    rw [l_X7_commit_13, b_X7_commit_13, if_pos ((le_ (by omega) (by omega)).mpr (by omega)), mSe]
    refine ⟨mup v 88 5 0, ?_, mup_self, fun j hj => by rw [mup_sne hj, i2 88 (by decide)], fun j hj => by rw [mup_ne (by decide)]; exact i1 j hj, fun k h1 h2 => by rw [mup_ne h1]; exact i2 k h2⟩
    rw [mup_sne (by decide), i2 88 (by decide)]
theorem op_commit : Same f_X6_commit f_X7_commit := by
  intro u h
  obtain ⟨v, v1, v2, v3⟩ := both_s h (show 0 ≤ 2 by omega)
  rcases v3 with ⟨p1, p2⟩ | ⟨V, T, n, S, p1, p2, p3, p4⟩
  · obtain ⟨t, t1, t2⟩ := p2 v (fun _ _ _ => rfl)
    refine ⟨-3, v, t, ?_, ?_, v1.scr t1.scr⟩
    · rw [f_X6_commit, show f_X6_perform 0 u = f_X6_perform (nI 0) u from rfl, mBe p1, if_pos rfl]
    · rw [f_X7_commit, show f_X7_isRun 0 v = f_X7_isRun (nI 0) v from rfl, mBe t2, if_pos rfl]
  · generalize hw : mup (mrow v 8 (va_cpy (v 28) (v 8) (0 : Int32).toNatClampNeg (0 : Int32).toNatClampNeg (nI 18 : Int32).toNatClampNeg)) 9 2 0 = w
    have wv : ∀ k : Nat, k ≠ 8 → k ≠ 9 → w k = v k := fun k h1 h2 => by rw [← hw, mup_ne h2, mrow_get, if_neg h1]
    obtain ⟨t, t1, t2, t3⟩ := p4 w wv
    obtain ⟨a1, a2, a3, a4, a5, a6, a7⟩ := p3
    obtain ⟨b1, b2, b3, b4, b5, b6, b7⟩ := t3
    obtain ⟨s, s1, s2, s3, s4, s5⟩ := com13_s t
    have w8 : ∀ j : Nat, j < 18 → w 8 j = nI (V j) := fun j hj => by
      rw [← hw, mup_ne (by decide), mrow_get, if_pos rfl]
      have e : va_cpy (v 28) (v 8) 0 0 18 j = v 28 j := cpy_in hj
      rw [show (0 : Int32).toNatClampNeg = 0 from rfl, show (nI 18).toNatClampNeg = 18 from nc_ (by omega), e]
      exact a1 j hj
    have w9 : w 9 2 = 0 := by rw [← hw, mup_self]
    have sw : ∀ k : Nat, k ≠ 88 → k ≠ 91 → (k < 94 ∨ 108 < k) → s k = w k := fun k h1 h2 h3 => by rw [s5 k h1 h2, t1.1 k h1 (by omega)]
    have sv : ∀ k : Nat, k ≠ 8 → k ≠ 9 → k ≠ 88 → k ≠ 91 → (k < 94 ∨ 108 < k) → s k = v k := fun k h1 h2 h3 h4 h5 => by rw [sw k h3 h4 h5, wv k h1 h2]
    refine ⟨nI n, w, s, ?_, ?_, ?_⟩
    · have e27 : mrow v 8 (va_cpy (v 28) (v 8) (0 : Int32).toNatClampNeg (0 : Int32).toNatClampNeg (nI 18 : Int32).toNatClampNeg) 27 2 = nI n := by
        rw [mrow_get, if_neg (by decide)]; exact a3
      rw [f_X6_commit, show f_X6_perform 0 u = f_X6_perform (nI 0) u from rfl, mBe p1, if_neg (by decide), mSe, mSe, hw, wv 27 (by decide) (by decide), a3]
    · rw [f_X7_commit, show f_X7_isRun 0 w = f_X7_isRun (nI 0) w from rfl, mBe t2, if_neg (by decide), s1, b3]
    · obtain ⟨q1, q2, q3⟩ := v1.2.2.1
      refine v1.mk3 (fun j hj => ?_) ⟨?_, ⟨⟨0, by omega, ?_⟩, fun j hj => ?_⟩, fun j hj => ?_⟩ (v1.2.2.2.1.cong (fun k _ _ => sv k (by omega) (by omega) (by omega) (by omega) (by omega)) (sv 109 (by decide) (by decide) (by decide) (by decide) (by omega)) (sv 110 (by decide) (by decide) (by decide) (by decide) (by omega))) (fun k hk => sv k (by omega) (by omega) (by omega) (by omega) (by omega))
      · rw [sw 8 (by decide) (by decide) (by omega), s4 j hj, w8 j hj, b1 j hj]
        exact ⟨rfl, V j, a2 j hj, rfl⟩
      · rw [sw 9 (by decide) (by decide) (by omega), w9, s2]
      · rw [sw 9 (by decide) (by decide) (by omega), w9]; rfl
      · rw [sv 10 (by decide) (by decide) (by decide) (by decide) (by omega), sv 11 (by decide) (by decide) (by decide) (by decide) (by omega)]
        exact q2.2 j hj
      · rw [sv 10 (by decide) (by decide) (by decide) (by decide) (by omega), sv 11 (by decide) (by decide) (by decide) (by decide) (by omega), sv 92 (by decide) (by decide) (by decide) (by decide) (by omega), sv 93 (by decide) (by decide) (by decide) (by decide) (by omega)]
        exact q3 j hj
