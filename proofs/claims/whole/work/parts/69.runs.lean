/-- what the model's run may change -/
def fR (u v : MU) : Prop := (∀ k : Nat, k ≠ 88 → (k < 99 ∨ (99 < k ∧ k < 105) ∨ 108 < k) → v k = u k) ∧ ∀ j : Nat, (j < 6 ∨ (13 < j ∧ j ≠ 30 ∧ j ≠ 31 ∧ j ≠ 33 ∧ j ≠ 34)) → v 88 j = u 88 j
theorem fR.rf (u : MU) : fR u u := ⟨fun _ _ _ => rfl, fun _ _ => rfl⟩
theorem fR.tr {u v t : MU} (h : fR u v) (g : fR v t) : fR u t := ⟨fun k a b => (g.1 k a b).trans (h.1 k a b), fun j a => (g.2 j a).trans (h.2 j a)⟩
theorem rF.fR {u v : MU} (h : rF u v) : fR u v := ⟨fun k a b => h.1 k a (by omega) (by omega) (by omega) (by omega), fun j hj => h.2 j (by omega)⟩
theorem fR.scr {u v : MU} (h : fR u v) : scr u v := ⟨fun k hk => h.1 k (by omega) (by omega), h.2 5 (by omega)⟩
theorem SY.fR {u v : MU} {m : Nat} {a b : Nat → Nat} {B : Nat → Nat → Bool} (h : SY m a b B u) (g : fR u v) : SY m a b B v := by
  obtain ⟨h1, h2, h3⟩ := h
  refine ⟨h1.cong (g.2 5 (by omega)) (g.1 92 (by decide) (by omega)) (g.1 93 (by decide) (by omega)), fun e he => ?_, fun e he => ?_⟩
  · rw [g.1 100 (by decide) (by omega)]; exact h2 e he
  · rw [g.1 101 (by decide) (by omega)]; exact h3 e he
theorem run47_s {u z : MU} (hM : MK u) {m how : Nat} {a b ord V0 : Nat → Nat} {B : Nat → Nat → Bool} (hS : SY m a b B u) (hh : how ≤ 2) (hk : ∀ j : Nat, j < m → u 7 (a j) = 1) (ho : ∀ i : Nat, i < m → ord i < m ∧ pos how (stg B) a b m (ord i) = i) (hV0 : VOK V0) (hz : fR u z) (z99 : rwV z 99 V0) (z33 : z 88 33 = nI 0) (z34 : z 88 34 = nI 0) : ∃ v : MU, fR u v ∧ ((l_X7_isRun_47 (nI how) FU 0 z = some (0, v) ∧ rnS (ssOf u) a b ord V0 m = none) ∨ ∃ (V T : Nat → Nat) (t S : Nat), l_X7_isRun_47 (nI how) FU 0 z = some (1, v) ∧ rnS (ssOf u) a b ord V0 m = some (V, T, t, S) ∧ rSt V T t S m v 99 108 (v 88 33) (v 88 34)) := by
  have hm := hS.1.2.1
  obtain ⟨hT, hK, -, -⟩ := hM
  rw [show l_X7_isRun_47 (nI how) FU 0 z = l_X7_isRun_47 (nI how) FU (nI 0) z from rfl]
  refine for_s (L := fun F i (_ : Unit) u => l_X7_isRun_47 (nI how) F (nI i) u) (Q := fun r => ∃ v : MU, fR u v ∧ ((r = some (0, v) ∧ rnS (ssOf u) a b ord V0 m = none) ∨ ∃ (V T : Nat → Nat) (t S : Nat), r = some (1, v) ∧ rnS (ssOf u) a b ord V0 m = some (V, T, t, S) ∧ rSt V T t S m v 99 108 (v 88 33) (v 88 34))) (I := fun i _ v => fR u v ∧ ∃ (V T : Nat → Nat) (t S : Nat), rnS (ssOf u) a b ord V0 i = some (V, T, t, S) ∧ rSt V T t S i v 99 108 (v 88 33) (v 88 34)) (m := m) ?_ ?_ 0 () z FU (by omega) ⟨hz, V0, (fun _ => 0), 0, 0, rfl, z99, hV0, z33, by omega, fun j hj => by omega, z34, by omega⟩ (by unfold FU; omega)
  · rintro F i _ v hi ⟨hc, V, T, t, S, hS', r1, r2, r3, r4, r5, r6, r7⟩
    obtain ⟨o1, o2⟩ := ho i hi
    have hSv := hS.fR hc
    obtain ⟨b1, b2, b3, b4⟩ := hSv.1.2.2 (ord i) (by omega)
    have hTv : TX v := hT.cong (hc.1 89 (by decide) (by omega)) (hc.1 90 (by decide) (by omega)) (fun k _ _ => hc.1 k (by omega) (by omega))
    have hKv : KN v := hK.cong (hc.1 7 (by decide) (by omega)) (hc.1 89 (by decide) (by omega)) (hc.1 90 (by decide) (by omega))
    have ssv : ssOf v = ssOf u := (ss_cong (hc.1 89 (by decide) (by omega)) (hc.1 90 (by decide) (by omega))).1
    obtain ⟨x, x1, x2, x3, x4⟩ := doCall_s hTv hKv (by omega) b3 b4 b1 b2 (by rw [hc.1 7 (by decide) (by omega)]; exact hk _ o1) r1 r2
    rw [ssv] at x1 x2 x4
    have hnext := rnS.eq_2 (ssOf u) a b ord V0 i
    rw [hS'] at hnext
    dsimp only at hnext
    have xc : fR u x := hc.tr x3.fR
    have x33 : x 88 33 = nI t := by rw [x3.2 33 (by omega)]; exact r3
    have x34 : x 88 34 = nI S := by rw [x3.2 34 (by omega)]; exact r6
    have x108 : x 108 = v 108 := x3.1 108 (by decide) (by decide) (by decide) (by decide) (by decide)
    generalize rnR (ssOf u) 20 (a (ord i)) (b (ord i)) V 0 = R at x1 x2 x4 hnext
    rw [l_X7_isRun_47, b_X7_isRun_47, hSv.1.1, if_neg (fun z => absurd ((le_ (by omega) (by omega)).mp z) (by omega)), mBe (kth_s hSv hh hi o1 o2), mBe x1]
    by_cases e2 : R.1 = 2
    · left
      rw [if_pos (show nI R.1 = nI 2 by rw [e2])]
      rw [if_pos e2] at hnext
      refine ⟨x, xc, Or.inl ⟨rfl, ?_⟩⟩
      have := rnS_none hnext (m - (i + 1))
      rw [show i + 1 + (m - (i + 1)) = m by omega] at this
      exact this
    · right
      obtain ⟨y1, y2, y3, y4⟩ := x4 e2
      rw [if_neg (fun z => e2 ((eq_ (by omega) (by omega)).mp z)), x34, y3, nI_add, mSe]
      rw [if_neg e2] at hnext
      have w33 : mup x 88 34 (nI (S + R.2.2)) 88 33 = nI t := by rw [mup_sne (by decide)]; exact x33
      by_cases e1 : R.1 = 1
      · rw [if_pos (show nI R.1 = 1 by rw [e1]; rfl), w33, gdt (ix_ (by omega) (by omega)), mSe, nc_ (by omega)]
        rw [if_pos e1, if_pos e1] at hnext
        have w33' : mup (mup x 88 34 (nI (S + R.2.2))) 108 t (nI (ord i)) 88 33 = nI t := by rw [mup_ne (by decide)]; exact w33
        rw [w33', nI_1, mSe, b_X7_isRun_116, nI_1]
        refine ⟨(), _, rfl, ⟨fun k h1 h2 => by rw [mup_ne h1, mup_ne (by omega), mup_ne h1]; exact xc.1 k h1 h2, fun j hj => by rw [mup_sne (by omega), mup_ne (by decide), mup_sne (by omega)]; exact xc.2 j hj⟩, R.2.1, upN T t (ord i), t + 1, S + R.2.2, hnext, fun j hj => ?_, y2, ?_, by omega, fun j hj => ?_, ?_, by omega⟩
        · rw [mup_ne (by decide), mup_ne (by decide), mup_ne (by decide)]; exact y1 j hj
        · rw [mup_self]
        · rw [mup_ne (by decide)]
          unfold upN
          by_cases ej : j = t
          · rw [if_pos ej, ej, mup_self]
          · rw [if_neg ej, mup_sne ej, mup_ne (by decide), x108]; exact r5 j (by omega)
        · rw [mup_sne (by decide), mup_ne (by decide), mup_self]
      · rw [if_neg (show ¬ nI R.1 = 1 from fun z => e1 ((eq_ (b := 1) (by omega) (by omega)).mp z)), b_X7_isRun_116, nI_1]
        rw [if_neg e1, if_neg e1] at hnext
        refine ⟨(), _, rfl, ⟨fun k h1 h2 => by rw [mup_ne h1]; exact xc.1 k h1 h2, fun j hj => by rw [mup_sne (by omega)]; exact xc.2 j hj⟩, R.2.1, T, t, S + R.2.2, hnext, fun j hj => ?_, y2, ?_, by omega, fun j hj => ?_, ?_, by omega⟩
        · rw [mup_ne (by decide)]; exact y1 j hj
        · exact w33
        · rw [mup_ne (by decide), x108]; exact r5 j hj
        · rw [mup_self]
  · rintro F _ v ⟨hc, V, T, t, S, hS', hr⟩
    rw [l_X7_isRun_47, b_X7_isRun_47, (hS.fR hc).1.1, if_pos ((le_ (by omega) (by omega)).mpr (by omega))]
    exact ⟨v, hc, Or.inr ⟨V, T, t, S, rfl, hS', hr⟩⟩
theorem run11_s (how : Int32) (u : MU) : ∃ z : MU, l_X7_isRun_11 how FU 0 u = l_X7_isRun_47 how FU 0 z ∧ fR u z ∧ (∀ j : Nat, j < 18 → z 99 j = u 91 j) ∧ z 88 33 = nI 0 ∧ z 88 34 = nI 0 := by
  rw [show l_X7_isRun_11 how FU 0 u = l_X7_isRun_11 how FU (nI 0) u from rfl]
  refine for_s (L := fun F i (_ : Unit) u => l_X7_isRun_11 how F (nI i) u) (Q := fun r => ∃ z : MU, r = l_X7_isRun_47 how FU 0 z ∧ fR u z ∧ (∀ j : Nat, j < 18 → z 99 j = u 91 j) ∧ z 88 33 = nI 0 ∧ z 88 34 = nI 0) (I := fun i _ v => (∀ k : Nat, k ≠ 99 → v k = u k) ∧ ∀ j : Nat, j < i → v 99 j = u 91 j) (m := 18) ?_ ?_ 0 () u FU (by omega) ⟨fun _ _ => rfl, fun j hj => by omega⟩ (by unfold FU; omega)
  · rintro F i _ v hi ⟨i1, i2⟩
    right
    have ii := ix_ hi (show (18 : Nat) < 1000 by omega)
    rw [l_X7_isRun_11, b_X7_isRun_11, if_neg (fun z => absurd ((le_ (by omega) (by omega)).mp z) (by omega)), gdt ii, gdt ii, mSe, nc_ (by omega), nI_1, i1 91 (by decide)]
    refine ⟨(), _, rfl, fun k hk => by rw [mup_ne hk]; exact i1 k hk, fun j hj => ?_⟩
    by_cases e : j = i
    · rw [e, mup_self]
    · rw [mup_sne e]; exact i2 j (by omega)
  · rintro F _ v ⟨i1, i2⟩
    rw [l_X7_isRun_11, b_X7_isRun_11, if_pos ((le_ (by omega) (by omega)).mpr (by omega)), mSe, mSe]
    refine ⟨_, rfl, ⟨fun k h1 h2 => by rw [mup_ne h1, mup_ne h1]; exact i1 k (by omega), fun j hj => by rw [mup_sne (by omega), mup_sne (by omega), i1 88 (by decide)]⟩, fun j hj => by rw [mup_ne (by decide), mup_ne (by decide)]; exact i2 j hj, by rw [mup_sne (by decide), mup_self]; rfl, by rw [mup_self]; rfl⟩
def fG (u v : MU) : Prop := (∀ k : Nat, k ≠ 88 → (k < 94 ∨ (101 < k ∧ k < 105) ∨ 108 < k) → v k = u k) ∧ ∀ j : Nat, j < 6 → v 88 j = u 88 j
theorem fG.scr {u v : MU} (h : fG u v) : scr u v := ⟨fun k hk => h.1 k (by omega) (by omega), h.2 5 (by omega)⟩
/-- a run, on both sides: the class's perform, then the model's isRun from what the class may leave -/
theorem both_s {u : MU} (h : Inv u) {how : Nat} (hh : how ≤ 2) : ∃ v : MU, Inv v ∧ (∀ k : Nat, (k = 8 ∨ k = 9 ∨ k = 10 ∨ k = 11 ∨ 30 ≤ k) → v k = u k) ∧
    ((f_X6_perform (nI how) u = some (0, v) ∧ ∀ w : MU, (∀ k : Nat, k ≠ 8 → k ≠ 9 → w k = v k) → ∃ t : MU, fG w t ∧ f_X7_isRun (nI how) w = some (0, t)) ∨
    ∃ (V T : Nat → Nat) (n S : Nat), f_X6_perform (nI how) u = some (1, v) ∧ n ≤ 16 ∧ rSt V T n S 16 v 28 29 (v 27 2) (v 27 3) ∧ ∀ w : MU, (∀ k : Nat, k ≠ 8 → k ≠ 9 → w k = v k) → ∃ t : MU, fG w t ∧ f_X7_isRun (nI how) w = some (1, t) ∧ rSt V T n S 16 t 99 108 (t 88 33) (t 88 34)) := by
  obtain ⟨m, a, b, hl⟩ := lz_ex (o := 9) h.2.2.1.2.1
  have hm := hl.2.1
  obtain ⟨v, v1, v2, v3, v4, v5⟩ := layP_s h hl
  have hzv : mz v m a b := (mz_of h.2.2.1 hl).cong (by rw [v4 88 (by omega)]) (v4 92 (by omega)) (v4 93 (by omega))
  have hlv : lz v 9 m a b := hl.cong (by rw [v4 9 (by omega)]) (v4 10 (by omega)) (v4 11 (by omega))
  rcases v5 with ⟨g1, j, hj, g2⟩ | ⟨g1, g2, g3⟩
  · refine ⟨v, v1, fun k hk => v4 k (by omega), Or.inl ⟨?_, fun w hw => ?_⟩⟩
    · rw [f_X6_perform, mBe g1, if_pos rfl]
    · obtain ⟨t, t1, t2⟩ := found_s (u := w) (v1.1.cong (hw 89 (by decide) (by decide)) (hw 90 (by decide) (by decide)) (fun k _ _ => hw k (by omega) (by omega))) (v2.cong (hw 7 (by decide) (by decide)) (hw 89 (by decide) (by decide)) (hw 90 (by decide) (by decide))) (v3.cong (fun k _ _ => hw k (by omega) (by omega)) (hw 89 (by decide) (by decide)) (hw 90 (by decide) (by decide))) (hzv.cong (by rw [hw 88 (by decide) (by decide)]) (hw 92 (by decide) (by decide)) (hw 93 (by decide) (by decide)))
      rcases t2 with ⟨q1, q2⟩ | ⟨q1, q2, -⟩
      · refine ⟨t, ⟨fun k h1 h2 => t1.1 k h1 (by omega), fun j hj => t1.2 j (by omega)⟩, ?_⟩
        rw [f_X7_isRun, mBe q1, if_pos rfl]
      · have := q2 j hj
        rw [hw 7 (by decide) (by decide), g2] at this
        exact absurd this (by decide)
  · obtain ⟨x, x1, x2, x3⟩ := arr_s g3 hh
    generalize hB : bd (cG v) a b = B at g3 x3
    have hst := ah_sto how (stg B) a b
    obtain ⟨ord, ho⟩ : ∃ ord : Nat → Nat, ∀ i : Nat, i < m → ord i < m ∧ pos how (stg B) a b m (ord i) = i := by
      refine ⟨fun i => if hi : i < m then (hst.surj i hi).choose else 0, fun i hi => ?_⟩
      simp only [hi, dif_pos]
      exact (hst.surj i hi).choose_spec
    have xk : ∀ k : Nat, k ≠ 19 → x k = v k := fun k hk => x2 k hk
    have hTx : TX x := v1.1.cong (xk 89 (by decide)) (xk 90 (by decide)) (fun k _ _ => xk k (by omega))
    have hKx : KN x := v2.cong (xk 7 (by decide)) (xk 89 (by decide)) (xk 90 (by decide))
    have ssx : ssOf x = ssOf v := (ss_cong (xk 89 (by decide)) (xk 90 (by decide))).1
    -- the places
    obtain ⟨V0, hV0, h8⟩ : ∃ V0 : Nat → Nat, VOK V0 ∧ rwV v 8 V0 := by
      refine ⟨fun j => (v 8 j).toNatClampNeg, fun j hj => ?_, fun j hj => ?_⟩
      · obtain ⟨-, y, hy, ey⟩ := v1.2.1 j hj
        dsimp only
        rw [ey, nc_ (by omega)]; exact hy
      · obtain ⟨-, y, hy, ey⟩ := v1.2.1 j hj
        dsimp only
        rw [ey, nc_ (by omega)]
    obtain ⟨y, y1, y2⟩ := perf_s (ord := ord) hTx hKx (hlv.cong (by rw [xk 9 (by decide)]) (xk 10 (by decide)) (xk 11 (by decide))) (fun j hj => by rw [xk 7 (by decide)]; exact g2 j hj) (fun i hi => ⟨(ho i hi).1, by have := x3 (ord i) (ho i hi).1; rw [(ho i hi).2] at this; exact this⟩) hV0 (fun j hj => by rw [xk 8 (by decide)]; exact h8 j hj)
    rw [ssx] at y2
    have yv : ∀ k : Nat, k ≠ 19 → k ≠ 27 → k ≠ 28 → k ≠ 29 → y k = v k := fun k h1 h2 h3 h4 => by rw [y1 k h2 h3 h4, xk k h1]
    have hy : Inv y := v1.scr ⟨fun k hk => yv k (by omega) (by omega) (by omega) (by omega), by rw [yv 88 (by decide) (by decide) (by decide) (by decide)]⟩
    have yfr : ∀ k : Nat, (k = 8 ∨ k = 9 ∨ k = 10 ∨ k = 11 ∨ 30 ≤ k) → y k = u k := fun k hk => by rw [yv k (by omega) (by omega) (by omega) (by omega), v4 k (by omega)]
    -- the model
    have mdl : ∀ w : MU, (∀ k : Nat, k ≠ 8 → k ≠ 9 → w k = y k) → ∃ t : MU, fG w t ∧ ((f_X7_isRun (nI how) w = some (0, t) ∧ rnS (ssOf v) a b ord V0 m = none) ∨ ∃ (V T : Nat → Nat) (n S : Nat), f_X7_isRun (nI how) w = some (1, t) ∧ rnS (ssOf v) a b ord V0 m = some (V, T, n, S) ∧ rSt V T n S m t 99 108 (t 88 33) (t 88 34)) := by
      intro w hw
      have wv : ∀ k : Nat, k ≠ 8 → k ≠ 9 → k ≠ 19 → k ≠ 27 → k ≠ 28 → k ≠ 29 → w k = v k := fun k h1 h2 h3 h4 h5 h6 => by rw [hw k h1 h2, yv k h3 h4 h5 h6]
      obtain ⟨t, t1, t2⟩ := found_s (u := w) (v1.1.cong (wv 89 (by decide) (by decide) (by decide) (by decide) (by decide) (by decide)) (wv 90 (by decide) (by decide) (by decide) (by decide) (by decide) (by decide)) (fun k _ _ => wv k (by omega) (by omega) (by omega) (by omega) (by omega) (by omega))) (v2.cong (wv 7 (by decide) (by decide) (by decide) (by decide) (by decide) (by decide)) (wv 89 (by decide) (by decide) (by decide) (by decide) (by decide) (by decide)) (wv 90 (by decide) (by decide) (by decide) (by decide) (by decide) (by decide))) (v3.cong (fun k _ _ => wv k (by omega) (by omega) (by omega) (by omega) (by omega) (by omega)) (wv 89 (by decide) (by decide) (by decide) (by decide) (by decide) (by decide)) (wv 90 (by decide) (by decide) (by decide) (by decide) (by decide) (by decide))) (hzv.cong (by rw [wv 88 (by decide) (by decide) (by decide) (by decide) (by decide) (by decide)]) (wv 92 (by decide) (by decide) (by decide) (by decide) (by decide) (by decide)) (wv 93 (by decide) (by decide) (by decide) (by decide) (by decide) (by decide)))
      have w7 : w 7 = v 7 := wv 7 (by decide) (by decide) (by decide) (by decide) (by decide) (by decide)
      rcases t2 with ⟨q1, j, hj, q2⟩ | ⟨q1, q2, q3, q4⟩
      · have := g2 j hj
        rw [w7] at q2
        rw [q2] at this
        exact absurd this (by decide)
      · have eB : bd (cG w) a b = B := by rw [← hB]; exact bd_fE (fun k _ _ => wv k (by omega) (by omega) (by omega) (by omega) (by omega) (by omega)) a b
        rw [eB] at q4
        obtain ⟨z, z1, z2, z3, z4, z5⟩ := run11_s (nI how) t
        have t91 : ∀ j : Nat, j < 18 → t 91 j = nI (V0 j) := fun j hj => by
          rw [t1.1 91 (by decide) (by omega), wv 91 (by decide) (by decide) (by decide) (by decide) (by decide) (by decide), ← (v1.2.1 j hj).1]
          exact h8 j hj
        obtain ⟨s, s1, s2⟩ := run47_s (ord := ord) q3 q4 hh (fun j hj => by rw [t1.1 7 (by decide) (by omega)]; exact q2 j hj) ho hV0 z2 (fun j hj => by rw [z3 j hj]; exact t91 j hj) z4 z5
        have sst : ssOf t = ssOf v := (ss_cong (by rw [t1.1 89 (by decide) (by omega), wv 89 (by decide) (by decide) (by decide) (by decide) (by decide) (by decide)]) (by rw [t1.1 90 (by decide) (by omega), wv 90 (by decide) (by decide) (by decide) (by decide) (by decide) (by decide)])).1
        rw [sst] at s2
        have hr : f_X7_isRun (nI how) w = l_X7_isRun_47 (nI how) FU 0 z := by rw [f_X7_isRun, mBe q1, if_neg (by decide), z1]
        rw [hr]
        exact ⟨s, ⟨fun k h1 h2 => by rw [s1.1 k h1 (by omega), t1.1 k h1 (by omega)], fun j hj => by rw [s1.2 j (by omega), t1.2 j (by omega)]⟩, s2⟩
    have up : ∀ {V T : Nat → Nat} {n S : Nat} {v : MU} {k q : Nat} {x y : Int32}, rSt V T n S m v k q x y → rSt V T n S 16 v k q x y := fun ⟨a1, a2, a3, a4, a5, a6, a7⟩ => ⟨a1, a2, a3, by omega, a5, a6, by omega⟩
    rcases y2 with ⟨p1, p2⟩ | ⟨V, T, n, S, p1, p2, p3⟩
    · refine ⟨y, hy, yfr, Or.inl ⟨?_, fun w hw => ?_⟩⟩
      · rw [f_X6_perform, mBe g1, if_neg (by decide), mBe x1, mBe p1, gdt z_zero]
      · obtain ⟨t, t1, t2⟩ := mdl w hw
        rcases t2 with ⟨q1, q2⟩ | ⟨V, T, n, S, q1, q2, q3⟩
        · exact ⟨t, t1, q1⟩
        · rw [p2] at q2; cases q2
    · refine ⟨y, hy, yfr, Or.inr ⟨V, T, n, S, ?_, by have := p3.2.2.2.1; omega, up p3, fun w hw => ?_⟩⟩
      · rw [f_X6_perform, mBe g1, if_neg (by decide), mBe x1, mBe p1, gdt z_one]
      · obtain ⟨t, t1, t2⟩ := mdl w hw
        rcases t2 with ⟨q1, q2⟩ | ⟨V', T', n', S', q1, q2, q3⟩
        · rw [p2] at q2; cases q2
        · rw [p2] at q2
          cases q2
          exact ⟨t, t1, q1, up q3⟩
