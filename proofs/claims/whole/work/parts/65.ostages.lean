theorem lay_cong {q m : Nat} {a b : Nat → Nat} {B : Nat → Nat → Bool} {u v : MU} (h : LY q m a b B u) (e : ∀ k : Nat, q ≤ k → k ≤ q + 5 → v k = u k) : LY q m a b B v := by
  obtain ⟨y1, y2, y3, y4, y5⟩ := h
  exact ⟨y1.cong (by rw [e _ (by omega) (by omega)]) (e _ (by omega) (by omega)) (e _ (by omega) (by omega)), by rw [e _ (by omega) (by omega)]; exact y2, by rw [e _ (by omega) (by omega)]; exact y3, fun c hc => by rw [e _ (by omega) (by omega)]; exact y4 c hc, fun c hc => by rw [e _ (by omega) (by omega)]; exact y5 c hc⟩
theorem op_stages34 {k : Nat} (hk : k ≤ 6) (u : MU) (h : Inv u) : ∃ (r : Int32) (v t : MU), b_X6_stages_34 (nI k) u = some (r, v) ∧ b_X7_stages_33 (nI k) v = some (r, t) ∧ Inv t ∧ v 110 = u 110 := by
  obtain ⟨m, a, b, hl⟩ := lz_ex (o := 9) h.2.2.1.2.1
  have hm := hl.2.1
  obtain ⟨v, v1, v2, v3, v4, v5⟩ := layP_s h hl
  have hzv : mz v m a b := (mz_of h.2.2.1 hl).cong (by rw [v4 88 (by omega)]) (v4 92 (by omega)) (v4 93 (by omega))
  have v9 : v 9 2 = nI m := by rw [v4 9 (by omega)]; exact hl.1
  have hv110 : v 110 = u 110 := v4 110 (by omega)
  -- the image's program
  obtain ⟨m', a', b', hl'⟩ := lz_ex (o := 80) (show prOK (v 80 2) (v 81) (v 82) from (v1.2.2.2.1 0 (by omega)).2.2.2.2.1)
  have im := (v1.2.2.2.1 0 (by omega)).2.2.2
  have k50 : v 109 50 = nI m' := by rw [← hl'.1]; exact im.1.symm
  have kj : ∀ j : Nat, j < 16 → a' j < 6 ∧ b' j < 12 ∧ v 109 (18 + j) = nI (a' j) ∧ v 109 (34 + j) = nI (b' j) := fun j hj => by
    obtain ⟨k1, k2, k3, k4⟩ := hl'.2.2 j hj
    have q := im.2.2 j hj
    have q1 : v 81 j = v 109 (18 + j) := by have := q.1; rw [show 51 * 0 + 18 + j = 18 + j by omega] at this; exact this
    have q2 : v 82 j = v 109 (34 + j) := by have := q.2; rw [show 51 * 0 + 34 + j = 34 + j by omega] at this; exact this
    exact ⟨k1, k2, by rw [← q1]; exact k3, by rw [← q2]; exact k4⟩
  rcases v5 with ⟨g1, j, hj, g2⟩ | ⟨g1, g2, g3⟩
  · obtain ⟨t, t1, t2⟩ := found_s v1.1 v2 v3 hzv
    rcases t2 with ⟨q1, q2⟩ | ⟨q1, q2, -⟩
    · refine ⟨-5, v, t, ?_, ?_, v1.scr t1.scr, hv110⟩
      · rw [b_X6_stages_34, mBe g1, if_pos rfl]
      · rw [b_X7_stages_33, mBe q1, if_pos rfl]
    · have := q2 j hj
      rw [g2] at this
      exact absurd this (by decide)
  -- the model, from a state that the class leaves
  have mdl : ∀ w : MU, (∀ k : Nat, (k < 13 ∨ 26 < k) → w k = v k) → ∃ t : MU, fF w t ∧ f_X7_isFound w = some (1, t) ∧ MK t ∧ SY m a b (bd (cG v) a b) t ∧ Inv t ∧ t 7 = v 7 ∧ (bd (cG t) = bd (cG v)) ∧ t 109 = v 109 := by
    intro w hw
    have hs : scr v w := ⟨fun k hk => hw k (by omega), by rw [hw 88 (by omega)]⟩
    obtain ⟨t, t1, t2⟩ := found_s (u := w) (v1.1.cong (hw 89 (by omega)) (hw 90 (by omega)) (fun k _ _ => hw k (by omega))) (v2.cong (hw 7 (by omega)) (hw 89 (by omega)) (hw 90 (by omega))) (v3.cong (fun k _ _ => hw k (by omega)) (hw 89 (by omega)) (hw 90 (by omega))) (hzv.cong (by rw [hw 88 (by omega)]) (hw 92 (by omega)) (hw 93 (by omega)))
    rcases t2 with ⟨q1, j, hj, q2⟩ | ⟨q1, q2, q3, q4⟩
    · have := g2 j hj
      rw [hw 7 (by omega)] at q2
      rw [q2] at this
      exact absurd this (by decide)
    · have eB : bd (cG w) a b = bd (cG v) a b := bd_fE (fun k _ _ => hw k (by omega)) a b
      rw [eB] at q4
      refine ⟨t, t1, q1, q3, q4, (v1.scr hs).scr t1.scr, ?_, ?_, ?_⟩
      · rw [t1.1 7 (by decide) (by omega), hw 7 (by omega)]
      · funext a b
        exact bd_fE (fun k _ _ => by rw [t1.1 k (by omega) (by omega), hw k (by omega)]) a b
      · rw [t1.1 109 (by decide) (by omega), hw 109 (by omega)]
  obtain ⟨t, t1, t2, t3, t4, t5, t6, t7, t8⟩ := mdl v (fun _ _ => rfl)
  have hx := smx_m (B := bd (cG v) a b) m
  have cls : b_X6_stages_34 (nI k) u = (if nI k = 0 then some (v 13 4, v) else (if nI k = 1 then mB (f_X2_mostOfOneStage 13 v) (fun r5 u5 => some (r5, u5)) else (if nI k = nI 2 then mB (f_X2_firstFullestStage 13 v) (fun r7 u7 => some (r7, u7)) else (if nI k = nI 3 then mB (f_X6_nearestSingle (v 9 2) (v 13 4) v) (fun r9 u9 => some (r9, u9)) else (if nI k = nI 4 then some (v 13 5, v) else (if nI k = nI 5 then mB (f_X2_isNormal 13 v) (fun r12 u12 => (if r12 = 0 then some (0, u12) else some (1, u12))) else gd (mIx 0 2) (mB (f_X6_compareWithImage (img 0 + 2) v) (fun r15 u15 => some (r15, u15))))))))) := by
    rw [b_X6_stages_34, mBe g1, if_neg (by decide)]
  have mdv : ∀ w t : MU, f_X7_isFound w = some (1, t) → b_X7_stages_33 (nI k) w = (if nI k = 0 then mB (f_X7_stageMany t) (fun r4 u4 => some (r4, u4)) else (if nI k = 1 then (if (t 88 5) = 0 then some (0, t) else mB (f_X7_widest t) (fun r7 u7 => mB (f_X7_callsAt r7 u7) (fun r8 u8 => some (r8, u8)))) else (if nI k = nI 2 then mB (f_X7_widest t) (fun r10 u10 => some (r10, u10)) else (if nI k = nI 3 then (if (t 88 5) = 0 then some (0, t) else mB (f_X7_stageMany t) (fun r13 u13 => mB (f_X7_single (t 88 5) r13 u13) (fun r14 u14 => some (r14, u14)))) else (if nI k = nI 4 then mB (f_X7_freePairs t) (fun r16 u16 => some (r16, u16)) else (if nI k = nI 5 then mB (f_X7_isNormal t) (fun r18 u18 => some (r18, u18)) else mB (f_X7_compared t) (fun r19 u19 => some (r19, u19)))))))) := by
    intro w t q
    rw [b_X7_stages_33, mBe q, if_neg (by decide)]
  have t5' : t 88 5 = nI m := t4.1.1
  rcases (show k = 0 ∨ k = 1 ∨ k = 2 ∨ k = 3 ∨ k = 4 ∨ k = 5 ∨ k = 6 by omega) with rfl | rfl | rfl | rfl | rfl | rfl | rfl
  · refine ⟨v 13 4, v, t, ?_, ?_, t5, hv110⟩
    · rw [cls, if_pos (show nI 0 = 0 from rfl)]
    · rw [mdv v t t2, if_pos (show nI 0 = 0 from rfl), mBe (many_s t4), g3.2.1]
  · refine ⟨nI (mxs (szS (stg (bd (cG v) a b)) m) (smx (stg (bd (cG v) a b)) m)), v, t, ?_, ?_, t5, hv110⟩
    · rw [cls, if_neg (by decide), if_pos (show nI 1 = 1 from rfl), mBe (most_s g3)]
    · rw [mdv v t t2, if_neg (by decide), if_pos (show nI 1 = 1 from rfl), t5']
      by_cases m0 : m = 0
      · subst m0
        rw [if_pos (show nI 0 = 0 from rfl)]
        rfl
      · rw [if_neg (fun z => m0 ((e0_ (by omega)).mp z)), mBe (widest_s t4)]
        rcases wd_s (f := szS (stg (bd (cG v) a b)) m) (smx (stg (bd (cG v) a b)) m) with ⟨w1, w2⟩ | ⟨b0, w1, w2, w3, w4⟩
        · have := smx_1 (S := stg (bd (cG v) a b)) (m := m) (by omega)
          omega
        · rw [w1, show oF (some b0) = nI b0 from rfl, mBe (callsAt_s t4 (by omega)), w3]
  · refine ⟨oF (wd (szS (stg (bd (cG v) a b)) m) (smx (stg (bd (cG v) a b)) m)), v, t, ?_, ?_, t5, hv110⟩
    · rw [cls, if_neg (by decide), if_neg (by decide), if_pos rfl, mBe (first_s g3)]
    · rw [mdv v t t2, if_neg (by decide), if_neg (by decide), if_pos rfl, mBe (widest_s t4)]
  · by_cases m0 : m = 0
    · subst m0
      refine ⟨0, v, t, ?_, ?_, t5, hv110⟩
      · rw [cls, if_neg (by decide), if_neg (by decide), if_neg (by decide), if_pos rfl, v9, g3.2.1]
        rw [f_X6_nearestSingle, if_pos (show nI (smx (stg (bd (cG v) a b)) 0) < 1 from (lt_ (a := 0) (b := 1) (by omega) (by omega)).mpr (by omega)), mBs]
      · rw [mdv v t t2, if_neg (by decide), if_neg (by decide), if_neg (by decide), if_pos rfl, t5', if_pos (show nI 0 = 0 from rfl)]
    · obtain ⟨r, r1, r2⟩ := single_s hm (smx_1 (S := stg (bd (cG v) a b)) (m := m) (by omega)) hx v t
      refine ⟨r, v, t, ?_, ?_, t5, hv110⟩
      · rw [cls, if_neg (by decide), if_neg (by decide), if_neg (by decide), if_pos rfl, v9, g3.2.1, mBe r1]
      · rw [mdv v t t2, if_neg (by decide), if_neg (by decide), if_neg (by decide), if_pos rfl, t5', if_neg (fun z => m0 ((e0_ (by omega)).mp z)), mBe (many_s t4), mBe r2]
  · refine ⟨v 13 5, v, t, ?_, ?_, t5, hv110⟩
    · rw [cls, if_neg (by decide), if_neg (by decide), if_neg (by decide), if_neg (by decide), if_pos rfl]
    · rw [mdv v t t2, if_neg (by decide), if_neg (by decide), if_neg (by decide), if_neg (by decide), if_pos rfl, mBe (free4_s t3 t4.1 (fun j hj => by rw [t6]; exact g2 j hj)), t7, g3.2.2.1]
  · refine ⟨if nrm (pos 2 (stg (bd (cG v) a b)) a b m) m = true then 1 else 0, v, t, ?_, ?_, t5, hv110⟩
    · rw [cls, if_neg (by decide), if_neg (by decide), if_neg (by decide), if_neg (by decide), if_neg (by decide), if_pos rfl, mBe (cnorm_s g3)]
      by_cases c : nrm (pos 2 (stg (bd (cG v) a b)) a b m) m = true
      · rw [if_pos c, if_neg (by decide)]
      · rw [if_neg c, if_pos rfl]
    · rw [mdv v t t2, if_neg (by decide), if_neg (by decide), if_neg (by decide), if_neg (by decide), if_neg (by decide), if_pos rfl, mBe (mnorm_s t4)]
  · obtain ⟨w, w1, w2⟩ := cmp_s (m' := m') g3 v2 hl'
    obtain ⟨s, s1, s2, s3, s4, s5, s6, s7, s8⟩ := mdl w w1
    rw [← s7] at s4
    obtain ⟨x, x1, x2⟩ := compared_s (m' := m') s3 s4 hl'.2.1 (by rw [s8]; exact k50) (fun j hj => by rw [s8]; exact kj j hj)
    rw [s7, s6] at x2
    have cl6 : ∀ r : Int32, f_X6_compareWithImage 80 v = some (r, w) → b_X6_stages_34 (nI 6) u = some (r, w) := by
      intro r q
      rw [cls, if_neg (by decide), if_neg (by decide), if_neg (by decide), if_neg (by decide), if_neg (by decide), if_neg (by decide), gdt (show mIx 0 2 = true by decide), show img 0 + 2 = 80 from rfl, mBe q]
    have md6 : ∀ r : Int32, f_X7_compared s = some (r, x) → b_X7_stages_33 (nI 6) w = some (r, x) := by
      intro r q
      rw [mdv w s s2, if_neg (by decide), if_neg (by decide), if_neg (by decide), if_neg (by decide), if_neg (by decide), if_neg (by decide), mBe q]
    have hx' : Inv x := s5.scr x1.scr
    have hw110 : w 110 = u 110 := by rw [w1 110 (by omega), hv110]
    rcases w2 with ⟨c1, j, hj, c2⟩ | ⟨c1, c2, c3⟩ | ⟨c1, c2, c3⟩
    · rcases x2 with ⟨d1, d2⟩ | ⟨d1, d2, d3⟩ | ⟨d1, d2, d3⟩
      · exact ⟨-5, w, x, cl6 _ c1, md6 _ d1, hx', hw110⟩
      · have := d2 j hj; rw [c2] at this; exact absurd this (by decide)
      · have := d2 j hj; rw [c2] at this; exact absurd this (by decide)
    · rcases x2 with ⟨d1, j, hj, d2⟩ | ⟨d1, d2, d3⟩ | ⟨d1, d2, d3⟩
      · have := c2 j hj; rw [d2] at this; exact absurd this (by decide)
      · exact ⟨1, w, x, cl6 _ c1, md6 _ d1, hx', hw110⟩
      · exact absurd c3 d3
    · rcases x2 with ⟨d1, j, hj, d2⟩ | ⟨d1, d2, d3⟩ | ⟨d1, d2, d3⟩
      · have := c2 j hj; rw [d2] at this; exact absurd this (by decide)
      · exact absurd d3 c3
      · exact ⟨0, w, x, cl6 _ c1, md6 _ d1, hx', hw110⟩
theorem op_stages (x : Int32) : Same (f_X6_stages x) (f_X7_stages x) := by
  intro u h
  rcases rg x 7 (by omega) with hx | ⟨k, hk, rfl⟩
  · refine ⟨-2, u, u, ?_, ?_, h⟩
    · rw [f_X6_stages]
      rcases hx with hx | hx
      · rw [if_pos hx]
      · by_cases c : x < 0
        · rw [if_pos c]
        · rw [if_neg c, if_neg]
          intro q
          have h1 := Int32.le_iff_toInt_le.mp hx
          have h2 := Int32.le_iff_toInt_le.mp q
          rw [toInt_n (by omega)] at h1 h2
          omega
    · rw [f_X7_stages, mBe (inZ (n := 6) (by omega) (by decide) (by decide) u hx (by omega)), if_pos rfl]
  · have c6 : f_X6_stages (nI k) u = (if nI k = nI 6 then (if u 78 2 = 0 then some ((-3), u) else b_X6_stages_34 (nI k) u) else b_X6_stages_34 (nI k) u) := by
      rw [f_X6_stages, if_neg (nI_pos (by omega)), if_pos ((le_ (by omega) (by omega)).mpr (by omega)), gdt (show mIx 0 2 = true by decide), show img 0 = 78 from rfl]
    have c7 : ∀ v : MU, f_X7_stages (nI k) v = (if nI k = nI 6 then (if v 110 0 = 0 then some ((-3), v) else b_X7_stages_33 (nI k) v) else b_X7_stages_33 (nI k) v) := by
      intro v
      rw [f_X7_stages, mBe (inO (n := 6) (by omega) (by decide) (by decide) v hk), if_neg (by decide), gdt (show mIx 0 2 = true by decide)]
      rfl
    have i0 := (h.2.2.2.1 0 (by omega)).2.1
    have i0' : u 78 2 = u 110 0 := i0
    obtain ⟨r, v, t, r1, r2, r3, hv⟩ := op_stages34 (k := k) (by omega) u h
    by_cases k6 : nI k = nI 6
    · by_cases z : u 110 0 = 0
      · refine ⟨-3, u, u, ?_, ?_, h⟩
        · rw [c6, if_pos k6, i0', if_pos z]
        · rw [c7, if_pos k6, if_pos z]
      · refine ⟨r, v, t, ?_, ?_, r3⟩
        · rw [c6, if_pos k6, i0', if_neg z]; exact r1
        · rw [c7, if_pos k6, hv, if_neg z]; exact r2
    · refine ⟨r, v, t, ?_, ?_, r3⟩
      · rw [c6, if_neg k6]; exact r1
      · rw [c7, if_neg k6]; exact r2
