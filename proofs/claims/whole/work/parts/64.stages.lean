def fC (u t : MU) : Prop := (∀ k : Nat, k ≠ 88 → (k < 94 ∨ k = 99 ∨ 104 < k) → t k = u k) ∧ ∀ j : Nat, (j < 6 ∨ (13 < j ∧ j ≠ 26 ∧ j ≠ 20)) → t 88 j = u 88 j
theorem fC.scr {u v : MU} (h : fC u v) : scr u v := ⟨fun k hk => h.1 k (by omega) (by omega), h.2 5 (by omega)⟩
/-- the own program is held while the image's lies in its place -/
def HD (u s : MU) : Prop := (∀ k : Nat, k ≠ 88 → (k < 92 ∨ (93 < k ∧ k < 100) ∨ 104 < k) → s k = u k) ∧ (∀ j : Nat, (j < 5 ∨ (13 < j ∧ j ≠ 26)) → s 88 j = u 88 j) ∧ s 88 26 = u 88 5 ∧ (∀ j : Nat, j < 16 → s 103 j = u 92 j ∧ s 104 j = u 93 j) ∧ ∀ j : Nat, 16 ≤ j → s 92 j = u 92 j ∧ s 93 j = u 93 j
theorem HD.fin {u s : MU} (h : HD u s) : ∃ t : MU, f_X7_giveBack s = some (0, t) ∧ fC u t := by
  obtain ⟨h1, h2, h3, h4, h5⟩ := h
  obtain ⟨t, t1, t2, t3, t4, t5, t6⟩ := give_s s
  have e92 : t 92 = u 92 := by
    funext j
    by_cases c : j < 16
    · rw [(t4 j c).1, (h4 j c).1]
    · rw [(t5 j (by omega)).1, (h5 j (by omega)).1]
  have e93 : t 93 = u 93 := by
    funext j
    by_cases c : j < 16
    · rw [(t4 j c).2, (h4 j c).2]
    · rw [(t5 j (by omega)).2, (h5 j (by omega)).2]
  refine ⟨t, t1, fun k k1 k2 => ?_, fun j hj => ?_⟩
  · by_cases c : k = 92
    · rw [c]; exact e92
    · by_cases d : k = 93
      · rw [d]; exact e93
      · rw [t6 k k1 c d, h1 k k1 (by omega)]
  · by_cases c : j = 5
    · rw [c, t2, h3]
    · rw [t3 j c, h2 j (by omega)]
theorem HD.end0 {u s : MU} (h : HD u s) (x1 x2 : Int32) (hx : x2 = 0) : ∃ t : MU, fC u t ∧ b_X7_compared_97 x1 x2 s = (if x1 = 0 then some ((-5), t) else some (0, t)) := by
  obtain ⟨t, t1, t2⟩ := h.fin
  refine ⟨t, t2, ?_⟩
  subst hx
  rw [b_X7_compared_97, show FU = 4999 + 1 from rfl, l_X7_compared_99, b_X7_compared_99, b_X7_compared_142, mBe t1, if_pos rfl, if_pos rfl]
  by_cases c : s 88 5 ≤ 0
  · rw [if_pos c]
  · rw [if_neg c]
theorem compared_s {u : MU} {m m' : Nat} {a b a' b' : Nat → Nat} (hM : MK u) (hS : SY m a b (bd (cG u) a b) u) (hm' : m' ≤ 16) (k50 : u 109 50 = nI m') (kj : ∀ j : Nat, j < 16 → a' j < 6 ∧ b' j < 12 ∧ u 109 (18 + j) = nI (a' j) ∧ u 109 (34 + j) = nI (b' j)) : ∃ t : MU, fC u t ∧ ((f_X7_compared u = some (-5, t) ∧ ∃ j : Nat, j < m' ∧ u 7 (a' j) = 0) ∨ (f_X7_compared u = some (1, t) ∧ (∀ j : Nat, j < m' → u 7 (a' j) = 1) ∧ smN m a b (pos 2 (stg (bd (cG u) a b)) a b m) m' a' b' (pos 2 (stg (bd (cG u) a' b')) a' b' m')) ∨ (f_X7_compared u = some (0, t) ∧ (∀ j : Nat, j < m' → u 7 (a' j) = 1) ∧ ¬ smN m a b (pos 2 (stg (bd (cG u) a b)) a b m) m' a' b' (pos 2 (stg (bd (cG u) a' b')) a' b' m'))) := by
  have hm := hS.1.2.1
  have h5 := hS.1.1
  obtain ⟨u1, p1, p2, p3⟩ := layN_s hS
  obtain ⟨u2, q1, q2, q3, q4, q5⟩ := hold_s u1
  have e109 : u2 109 50 = nI m' := by rw [q5 109 (by decide) (by decide) (by decide), p2 109 (by decide)]; exact k50
  obtain ⟨v, v1, v2, v3, v4⟩ := in21_s (mup u2 88 5 (nI m'))
  have head : f_X7_compared u = mB (f_X7_isAllKnown v) (fun r2 u2 => (if r2 = 0 then b_X7_compared_87 r2 u2 else (if (u2 88 5) = (u2 88 26) then b_X7_compared_88 r2 1 u2 else b_X7_compared_87 r2 u2))) := by
    rw [f_X7_compared, mBe p1, mBe q1, gdt (ix_ (by omega) (by omega)), mSe, nc_ (by omega), e109, v1]
  have vk : ∀ k : Nat, k ≠ 88 → k ≠ 92 → k ≠ 93 → k ≠ 102 → k ≠ 103 → k ≠ 104 → v k = u k := fun k h1 h2 h3 h4 h5 h6 => by
    rw [v4 k h2 h3, mup_ne h1, q5 k h1 h5 h6, p2 k h4]
  have v88 : ∀ j : Nat, j ≠ 5 → j ≠ 26 → v 88 j = u 88 j := fun j h1 h2 => by
    rw [v4 88 (by decide) (by decide), mup_sne h1, q3 j h2, p2 88 (by decide)]
  have v5 : v 88 5 = nI m' := by rw [v4 88 (by decide) (by decide), mup_self]
  have v26 : v 88 26 = nI m := by rw [v4 88 (by decide) (by decide), mup_sne (by decide), q2, p2 88 (by decide)]; exact h5
  have r109 : mup u2 88 5 (nI m') 109 = u 109 := by rw [mup_ne (by decide), q5 109 (by decide) (by decide) (by decide), p2 109 (by decide)]
  have hzv : mz v m' a' b' := by
    refine ⟨v5, hm', fun j hj => ?_⟩
    obtain ⟨k1, k2, k3, k4⟩ := kj j hj
    refine ⟨k1, k2, ?_, ?_⟩
    · rw [(v2 j hj).1, r109]; exact k3
    · rw [(v2 j hj).2, r109]; exact k4
  have hMv : MK v := hM.cong (fun k hk => vk k (by omega) (by omega) (by omega) (by omega) (by omega) (by omega))
  have hHv : HD u v := by
    refine ⟨fun k h1 h2 => vk k h1 (by omega) (by omega) (by omega) (by omega) (by omega), fun j hj => v88 j (by omega) (by omega), by rw [v26, h5], fun j hj => ?_, fun j hj => ?_⟩
    · rw [v4 103 (by decide) (by decide), v4 104 (by decide) (by decide), mup_ne (by decide), mup_ne (by decide), (q4 j hj).1, (q4 j hj).2, p2 92 (by decide), p2 93 (by decide)]
      exact ⟨rfl, rfl⟩
    · rw [(v3 j hj).1, (v3 j hj).2, mup_ne (by decide), mup_ne (by decide), q5 92 (by decide) (by decide) (by decide), q5 93 (by decide) (by decide) (by decide), p2 92 (by decide), p2 93 (by decide)]
      exact ⟨rfl, rfl⟩
  have v102 : ∀ c : Nat, c < m → v 102 (pos 2 (stg (bd (cG u) a b)) a b m c) = nI (12 * a c + b c) := fun c hc => by
    rw [v4 102 (by decide) (by decide), mup_ne (by decide), q5 102 (by decide) (by decide) (by decide)]
    exact p3 c hc
  have v7 : v 7 = u 7 := vk 7 (by decide) (by decide) (by decide) (by decide) (by decide) (by decide)
  obtain ⟨z, s, s1, s2, s3⟩ := allKnown_s hzv hMv
  rw [v7] at s3
  have hHs : HD u s := by
    obtain ⟨h1, h2, h3, h4, h5⟩ := hHv
    refine ⟨fun k k1 k2 => by rw [s2.1 k k1]; exact h1 k k1 k2, fun j hj => by rw [s2.2 j (by omega)]; exact h2 j hj, by rw [s2.2 26 (by omega)]; exact h3, fun j hj => ?_, fun j hj => ?_⟩
    · rw [s2.1 103 (by decide), s2.1 104 (by decide)]; exact h4 j hj
    · rw [s2.1 92 (by decide), s2.1 93 (by decide)]; exact h5 j hj
  have s5 : s 88 5 = nI m' := by rw [s2.2 5 (by omega)]; exact v5
  have s26 : s 88 26 = nI m := by rw [s2.2 26 (by omega)]; exact v26
  rcases s3 with ⟨rfl, s3⟩ | ⟨rfl, s3⟩
  · by_cases c : m' = m
    · -- as many calls: the ranks of the image's program
      have hzs := hzv.pf7 s2
      have hMs := hMv.p7 s2
      have s7 : s 7 = u 7 := by rw [s2.1 7 (by decide), v7]
      obtain ⟨w, w1, w2, w3⟩ := findStages_s hMs hzs (fun j hj => by rw [s7]; exact s3 j hj)
      have eB : bd (cG s) a' b' = bd (cG u) a' b' := bd_fE (fun k _ _ => by rw [s2.1 k (by omega), vk k (by omega) (by omega) (by omega) (by omega) (by omega) (by omega)]) a' b'
      rw [eB] at w3
      have hHw : HD u w := by
        obtain ⟨h1, h2, h3, h4, h5⟩ := hHs
        refine ⟨fun k k1 k2 => by rw [w2 k (by omega) (by omega)]; exact h1 k k1 k2, fun j hj => by rw [w2 88 (by decide) (by decide)]; exact h2 j hj, by rw [w2 88 (by decide) (by decide)]; exact h3, fun j hj => ?_, fun j hj => ?_⟩
        · rw [w2 103 (by decide) (by decide), w2 104 (by decide) (by decide)]; exact h4 j hj
        · rw [w2 92 (by decide) (by decide), w2 93 (by decide) (by decide)]; exact h5 j hj
      have w102 : ∀ c : Nat, c < m → w 102 (pos 2 (stg (bd (cG u) a b)) a b m c) = nI (12 * a c + b c) := fun c hc => by
        rw [w2 102 (by decide) (by decide), s2.1 102 (by decide)]; exact v102 c hc
      have hP := ah_sto 2 (stg (bd (cG u) a b)) a b
      have hP' := ah_sto 2 (stg (bd (cG u) a' b')) a' b'
      obtain ⟨t, t1, t2⟩ := hHw.fin
      refine ⟨t, t2, ?_⟩
      right
      rw [head, mBe s1, if_neg (by decide), s5, s26, if_pos (by rw [c]), b_X7_compared_88, if_neg (by decide), mBe w1, b_X7_compared_97, show l_X7_compared_99 FU 1 1 0 w = l_X7_compared_99 FU 1 1 (nI 0) w from rfl]
      subst c
      obtain ⟨y1, y2, y3⟩ := w3
      generalize hQ : pos 2 (stg (bd (cG u) a b)) a b m' = P at w102
      generalize hQ' : pos 2 (stg (bd (cG u) a' b')) a' b' m' = P' at y3
      have sj : ∀ i : Nat, i < m' → ∃ c : Nat, c < m' ∧ P c = i := fun i hi => by rw [← hQ]; exact hP.surj i hi
      have bj' : ∀ c : Nat, c < m' → P' c < m' := fun c hc => by rw [← hQ']; exact hP'.bound hc
      have ij : ∀ c d : Nat, c < m' → d < m' → P c = P d → c = d := fun c d h1 h2 e => by rw [← hQ] at e; exact hP.inj h1 h2 e
      have fin1 : b_X7_compared_142 1 1 w = some (1, t) := by rw [b_X7_compared_142, mBe t1, if_neg (by decide), if_neg (by decide)]
      have fin0 : b_X7_compared_142 1 0 w = some (0, t) := by rw [b_X7_compared_142, mBe t1, if_neg (by decide), if_pos rfl]
      refine for_s (L := fun F i (z : Int32) u => l_X7_compared_99 F 1 z (nI i) u) (Q := fun r => (r = some (1, t) ∧ (∀ j : Nat, j < m' → u 7 (a' j) = 1) ∧ smN m' a b P m' a' b' P') ∨ (r = some (0, t) ∧ (∀ j : Nat, j < m' → u 7 (a' j) = 1) ∧ ¬ smN m' a b P m' a' b' P')) (I := fun i z x => x = w ∧ ((z = 1 ∧ ∀ c c' : Nat, c < m' → c' < i → P c = P' c' → 12 * a c + b c = 12 * a' c' + b' c') ∨ (z = 0 ∧ ¬ smN m' a b P m' a' b' P'))) (m := m') ?_ ?_ 0 1 w FU (by omega) ⟨rfl, Or.inl ⟨rfl, fun c c' _ h => by omega⟩⟩ (by unfold FU; omega)
      · rintro F i z x hi ⟨rfl, hI⟩
        rw [l_X7_compared_99, b_X7_compared_99, y1.1, if_neg (fun z => absurd ((le_ (by omega) (by omega)).mp z) (by omega))]
        rcases hI with ⟨rfl, hI⟩ | ⟨rfl, hI⟩
        · right
          obtain ⟨c, hc, ec⟩ := sj (P' i) (bj' i hi)
          obtain ⟨a1, a2, a3, a4⟩ := y1.2.2 i (by omega)
          obtain ⟨a5, a6, -⟩ := hS.1.2.2 c (by omega)
          have hb := bj' i hi
          rw [if_neg (by decide), gdt (ix_ (by omega) (by omega)), nc_ (by omega), y3 i hi, gdt (ix_ (by omega) (by omega)), mBe (effOf_s (by omega) a3 a4), nc_ (by omega), ← ec, w102 c hc]
          by_cases k : 12 * a c + b c = 12 * a' i + b' i
          · rw [if_pos (by rw [k]), b_X7_compared_135, nI_1]
            refine ⟨1, x, rfl, rfl, Or.inl ⟨rfl, fun d d' hd hd' he => ?_⟩⟩
            by_cases e : d' = i
            · have : d = c := ij d c hd hc (by rw [he, e, ec])
              rw [this, e]; exact k
            · exact hI d d' hd (by omega) he
          · rw [if_neg (fun z => k ((eq_ (by omega) (by omega)).mp z)), b_X7_compared_135, nI_1]
            exact ⟨0, x, rfl, rfl, Or.inr ⟨rfl, fun q => k (q.2 c i hc hi ec)⟩⟩
        · left; right
          rw [if_pos rfl, fin0]
          exact ⟨rfl, s3, hI⟩
      · rintro F z x ⟨rfl, hI⟩
        rw [l_X7_compared_99, b_X7_compared_99, y1.1, if_pos ((le_ (by omega) (by omega)).mpr (by omega))]
        rcases hI with ⟨rfl, hI⟩ | ⟨rfl, hI⟩
        · left
          rw [fin1]
          exact ⟨rfl, s3, rfl, fun c c' hc hc' he => hI c c' hc hc' he⟩
        · right
          rw [fin0]
          exact ⟨rfl, s3, hI⟩
    · obtain ⟨t, t1, t2⟩ := hHs.end0 1 0 rfl
      refine ⟨t, t1, Or.inr (Or.inr ⟨?_, s3, fun z => c z.1.symm⟩)⟩
      rw [head, mBe s1, if_neg (by decide), s5, s26, if_neg (fun z => c ((eq_ (by omega) (by omega)).mp z)), b_X7_compared_87, b_X7_compared_88, if_pos rfl, t2, if_neg (by decide)]
  · obtain ⟨t, t1, t2⟩ := hHs.end0 0 0 rfl
    refine ⟨t, t1, Or.inl ⟨?_, s3⟩⟩
    rw [head, mBe s1, if_pos rfl, b_X7_compared_87, b_X7_compared_88, if_pos rfl, t2, if_pos rfl]
