theorem lz_ex {u : MU} {o : Nat} (h : prOK (u o 2) (u (o + 1)) (u (o + 2))) : ∃ (m : Nat) (a b : Nat → Nat), lz u o m a b := by
  obtain ⟨m, hl⟩ := lz_of h
  exact ⟨m, _, _, hl⟩
theorem layP_s {u : MU} (h : Inv u) {m : Nat} {a b : Nat → Nat} (hl : lz u 9 m a b) : ∃ v : MU, Inv v ∧ KN v ∧ CE v ∧ (∀ k : Nat, (k < 2 ∨ (7 < k ∧ k < 13) ∨ 19 < k) → v k = u k) ∧ ((f_X6_layProgram u = some (0, v) ∧ ∃ j : Nat, j < m ∧ v 7 (a j) = 0) ∨ (f_X6_layProgram u = some (1, v) ∧ (∀ j : Nat, j < m → v 7 (a j) = 1) ∧ LY 13 m a b (bd (cG v) a b) v)) := by
  obtain ⟨v, e1, e2, e3, e4, e5⟩ := find_s h
  have hlv : lz v 9 m a b := hl.cong (by rw [e5 9 (by omega)]) (e5 10 (by omega)) (e5 11 (by omega))
  rcases knowsAll_s hlv e3 with ⟨g1, g2⟩ | ⟨g1, g2⟩
  · obtain ⟨w, w1, w2, w3⟩ := lay_s (q := 13) (by omega) (by omega) hlv
    have wv : ∀ k : Nat, (k < 13 ∨ 19 < k) → w k = v k := fun k hk => w3 k (by omega)
    have hs : scr v w := ⟨fun k hk => wv k (by omega), by rw [wv 88 (by omega)]⟩
    have eB : bd (cG w) a b = bd (cG v) a b := bd_fE (fun k _ _ => wv k (by omega)) a b
    refine ⟨w, e2.scr hs, e3.cong (wv 7 (by omega)) (wv 89 (by omega)) (wv 90 (by omega)), e4.cong (fun k _ _ => wv k (by omega)) (wv 89 (by omega)) (wv 90 (by omega)), fun k hk => by rw [wv k (by omega), e5 k (by omega)], Or.inr ⟨?_, fun j hj => by rw [wv 7 (by omega)]; exact g2 j hj, by rw [eB]; exact w2⟩⟩
    rw [f_X6_layProgram, mBe e1, mBe g1, if_neg (by decide), mBe w1]
  · refine ⟨v, e2, e3, e4, fun k hk => e5 k (by omega), Or.inl ⟨?_, g2⟩⟩
    rw [f_X6_layProgram, mBe e1, mBe g1, if_pos rfl]
/-- what the model's isFound may change -/
def fF (u v : MU) : Prop := (∀ k : Nat, k ≠ 88 → (k < 94 ∨ k = 99 ∨ 101 < k) → v k = u k) ∧ ∀ j : Nat, (j < 6 ∨ (13 < j ∧ j ≠ 20)) → v 88 j = u 88 j
theorem fF.scr {u v : MU} (h : fF u v) : scr u v := ⟨fun k hk => h.1 k (by omega) (by omega), h.2 5 (by omega)⟩
theorem found_s {u : MU} (hT : TX u) (hK : KN u) (hC : CE u) {m : Nat} {a b : Nat → Nat} (hz : mz u m a b) : ∃ v : MU, fF u v ∧ ((f_X7_isFound u = some (0, v) ∧ ∃ j : Nat, j < m ∧ u 7 (a j) = 0) ∨ (f_X7_isFound u = some (1, v) ∧ (∀ j : Nat, j < m → u 7 (a j) = 1) ∧ MK v ∧ SY m a b (bd (cG u) a b) v)) := by
  obtain ⟨t, t1, t2, t3⟩ := fnd_s hT hK hC
  have hzt : mz t m a b := hz.cong (t2.2 5 (by omega)) (t2.1 92 (by decide) (by omega)) (t2.1 93 (by decide) (by omega))
  have t7 : t 7 = u 7 := t2.1 7 (by decide) (by omega)
  obtain ⟨z, s, s1, s2, s3⟩ := allKnown_s hzt t3
  rw [t7] at s3
  rcases s3 with ⟨rfl, s3⟩ | ⟨rfl, s3⟩
  · have hMs := t3.p7 s2
    have hzs := hzt.pf7 s2
    have s7 : s 7 = u 7 := by rw [s2.1 7 (by decide), t7]
    obtain ⟨w, w1, w2, w3⟩ := findStages_s hMs hzs (fun j hj => by rw [s7]; exact s3 j hj)
    have eB : bd (cG s) a b = bd (cG u) a b := bd_fE (fun k _ _ => by rw [s2.1 k (by omega), t2.1 k (by omega) (by omega)]) a b
    rw [eB] at w3
    refine ⟨w, ⟨fun k h1 h2 => by rw [w2 k (by omega) (by omega), s2.1 k h1, t2.1 k h1 (by omega)], fun j hj => by rw [w2 88 (by decide) (by decide), s2.2 j (by omega), t2.2 j (by omega)]⟩, Or.inr ⟨?_, s3, hMs.fS w2, w3⟩⟩
    rw [f_X7_isFound, mBe t1, mBe s1, if_neg (by decide), mBe w1]
  · refine ⟨s, ⟨fun k h1 h2 => by rw [s2.1 k h1, t2.1 k h1 (by omega)], fun j hj => by rw [s2.2 j (by omega), t2.2 j (by omega)]⟩, Or.inl ⟨?_, s3⟩⟩
    rw [f_X7_isFound, mBe t1, mBe s1, if_pos rfl]
theorem op_told (x y : Int32) : Same (f_X6_told x y) (f_X7_told x y) := by
  intro u h
  obtain ⟨m, a, b, hl⟩ := lz_ex (o := 9) h.2.2.1.2.1
  have hm := hl.2.1
  have p5 : u 88 5 = nI m := by rw [← h.2.2.1.1]; exact hl.1
  rcases rg x m (by omega) with hx | ⟨c, hc, rfl⟩
  · refine ⟨-1, u, u, ?_, ?_, h⟩
    · rw [f_X6_told, hl.1, mBe (wi_out hx u), if_pos rfl]
    · rw [f_X7_told, mBe (isC_out hm p5 hx), if_pos rfl]
  have ic := ix_ (show c < 16 by omega) (show (16 : Nat) < 1000 by omega)
  rcases rg y 4 (by omega) with hy | ⟨k, hk, rfl⟩
  · refine ⟨-2, u, u, ?_, ?_, h⟩
    · rw [f_X6_told, hl.1, mBe (wi_in hc (by omega) u), if_neg (by decide), mBe (wi_out hy u), if_pos rfl]
    · rw [f_X7_told, mBe (isC_in hm p5 hc), if_neg (by decide), mBe (inZ (n := 3) (by omega) (by decide) (by decide) u hy (by omega)), if_pos rfl]
  obtain ⟨p3a, p3b⟩ := h.2.2.1.2.2 c (by omega)
  by_cases k0 : k = 0
  · subst k0
    refine ⟨u 10 c, u, u, ?_, ?_, h⟩
    · rw [f_X6_told, hl.1, mBe (wi_in hc (by omega) u), if_neg (by decide), mBe (wi_in hk (by omega) u), if_neg (by decide), if_pos (show nI 0 = 0 from rfl), gdt ic, nc_ (by omega)]
    · rw [f_X7_told, mBe (isC_in hm p5 hc), if_neg (by decide), mBe (inO (n := 3) (by omega) (by decide) (by decide) u hk), if_neg (by decide), if_neg (by decide), if_pos (show nI 0 = 0 from rfl), gdt ic, nc_ (by omega), p3a]
  by_cases k1 : k = 1
  · subst k1
    refine ⟨u 11 c, u, u, ?_, ?_, h⟩
    · rw [f_X6_told, hl.1, mBe (wi_in hc (by omega) u), if_neg (by decide), mBe (wi_in hk (by omega) u), if_neg (by decide), if_neg (by decide), if_pos (show nI 1 = 1 from rfl), gdt ic, nc_ (by omega)]
    · rw [f_X7_told, mBe (isC_in hm p5 hc), if_neg (by decide), mBe (inO (n := 3) (by omega) (by decide) (by decide) u hk), if_neg (by decide), if_neg (by decide), if_neg (by decide), gdt ic, nc_ (by omega), p3b]
  have ck0 : ¬ nI k = 0 := fun q => k0 ((e0_ (by omega)).mp q)
  have ck1 : ¬ nI k = 1 := fun q => k1 ((eq_ (b := 1) (by omega) (by omega)).mp q)
  have ck2 : nI 2 ≤ nI k := (le_ (by omega) (by omega)).mpr (by omega)
  obtain ⟨v, v1, v2, v3, v4, v5⟩ := layP_s h hl
  have hzv : mz v m a b := (mz_of h.2.2.1 hl).cong (by rw [v4 88 (by omega)]) (v4 92 (by omega)) (v4 93 (by omega))
  obtain ⟨t, t1, t2⟩ := found_s v1.1 v2 v3 hzv
  have p5v : v 88 5 = nI m := by rw [v4 88 (by omega)]; exact p5
  have ht : Inv t := v1.scr t1.scr
  rcases v5 with ⟨g1, j, hj, g2⟩ | ⟨g1, g2, g3⟩
  · rcases t2 with ⟨q1, q2⟩ | ⟨q1, q2, -⟩
    · refine ⟨-5, v, t, ?_, ?_, ht⟩
      · rw [f_X6_told, hl.1, mBe (wi_in hc (by omega) u), if_neg (by decide), mBe (wi_in hk (by omega) u), if_neg (by decide), if_neg ck0, if_neg ck1, mBe g1, if_pos rfl]
      · rw [f_X7_told, mBe (isC_in hm p5v hc), if_neg (by decide), mBe (inO (n := 3) (by omega) (by decide) (by decide) v hk), if_neg (by decide), if_pos ck2, mBe q1, if_pos rfl]
    · have := q2 j hj
      rw [g2] at this
      exact absurd this (by decide)
  · rcases t2 with ⟨q1, j, hj, q2⟩ | ⟨q1, q2, q3, q4⟩
    · have := g2 j hj
      rw [q2] at this
      exact absurd this (by decide)
    · obtain ⟨y1, y2, y3, y4, y5⟩ := g3
      obtain ⟨z1, z2, z3⟩ := q4
      have f6 : ∀ r : Int32, (if nI k = nI 2 then some (v 17 c, v) else some (v 18 c, v)) = some (r, v) → f_X6_told (nI c) (nI k) u = some (r, v) := by
        intro r q
        rw [f_X6_told, hl.1, mBe (wi_in hc (by omega) u), if_neg (by decide), mBe (wi_in hk (by omega) u), if_neg (by decide), if_neg ck0, if_neg ck1, mBe g1, if_neg (by decide), gdt ic, gdt ic, nc_ (by omega)]
        exact q
      have f7 : ∀ r : Int32, (if nI k = nI 2 then some (t 100 c, t) else some (t 101 c, t)) = some (r, t) → f_X7_told (nI c) (nI k) v = some (r, t) := by
        intro r q
        rw [f_X7_told, mBe (isC_in hm p5v hc), if_neg (by decide), mBe (inO (n := 3) (by omega) (by decide) (by decide) v hk), if_neg (by decide), if_pos ck2, mBe q1, if_neg (by decide), gdt ic, gdt ic, nc_ (by omega)]
        exact q
      by_cases k2 : k = 2
      · subst k2
        refine ⟨t 100 c, v, t, f6 _ ?_, f7 _ (if_pos rfl), ht⟩
        rw [if_pos rfl, z2 c hc, show v 17 c = v (13 + 4) c from rfl, y4 c hc]
      · have ck3 : ¬ nI k = nI 2 := fun q => k2 ((eq_ (by omega) (by omega)).mp q)
        refine ⟨t 101 c, v, t, f6 _ ?_, f7 _ (if_neg ck3), ht⟩
        rw [if_neg ck3, z3 c hc, show v 18 c = v (13 + 5) c from rfl, y5 c hc]
