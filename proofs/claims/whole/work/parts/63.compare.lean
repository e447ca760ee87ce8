/-- two programs have one normal form: P, P' are the ranks -/
def smN (m : Nat) (a b : Nat → Nat) (P : Nat → Nat) (m' : Nat) (a' b' : Nat → Nat) (P' : Nat → Nat) : Prop := m = m' ∧ ∀ c c' : Nat, c < m → c' < m → P c = P' c' → 12 * a c + b c = 12 * a' c' + b' c'
theorem sameN_s {u : MU} {m m' : Nat} {a b a' b' : Nat → Nat} {B B' : Nat → Nat → Bool} (h : LY 13 m a b B u) (h' : LY 20 m' a' b' B' u) : ∃ v : MU, (∀ k : Nat, k ≠ 19 → k ≠ 26 → v k = u k) ∧ ((f_X2_sameNormalForm 13 20 u = some (1, v) ∧ smN m a b (pos 2 (stg B) a b m) m' a' b' (pos 2 (stg B') a' b' m')) ∨ (f_X2_sameNormalForm 13 20 u = some (0, v) ∧ ¬ smN m a b (pos 2 (stg B) a b m) m' a' b' (pos 2 (stg B') a' b' m'))) := by
  have hm := h.1.2.1
  have hm' := h'.1.2.1
  have e1 : u (13 + 1) 2 = nI m := h.1.1
  have e2 : u (20 + 1) 2 = nI m' := h'.1.1
  by_cases c : m = m'
  · subst c
    obtain ⟨v, v1, v2, v3⟩ := arr_s h (show 2 ≤ 2 by omega)
    have hv' : LY 20 m a' b' B' v := by
      obtain ⟨y1, y2, y3, y4, y5⟩ := h'
      exact ⟨y1.cong (by rw [v2 _ (by decide)]) (v2 _ (by decide)) (v2 _ (by decide)), by rw [v2 _ (by decide)]; exact y2, by rw [v2 _ (by decide)]; exact y3, fun c hc => by rw [v2 _ (by decide)]; exact y4 c hc, fun c hc => by rw [v2 _ (by decide)]; exact y5 c hc⟩
    obtain ⟨w, w1, w2, w3⟩ := arr_s hv' (show 2 ≤ 2 by omega)
    have hwk : ∀ k : Nat, k ≠ 19 → k ≠ 26 → w k = u k := fun k a b => by rw [w2 k b, v2 k a]
    have w19 : w 19 = v 19 := w2 19 (by decide)
    have hP := ah_sto 2 (stg B) a b
    have hP' := ah_sto 2 (stg B') a' b'
    refine ⟨w, hwk, ?_⟩
    rw [f_X2_sameNormalForm, e1, e2, if_pos rfl, mBe v1, mBe w1, show l_X2_sameNormalForm_31 13 20 FU 0 w = l_X2_sameNormalForm_31 13 20 FU (nI 0) w from rfl]
    generalize hQ : pos 2 (stg B) a b m = P
    generalize hQ' : pos 2 (stg B') a' b' m = P'
    have sj : ∀ i : Nat, i < m → ∃ c : Nat, c < m ∧ P c = i := fun i hi => by rw [← hQ]; exact hP.surj i hi
    have sj' : ∀ i : Nat, i < m → ∃ c : Nat, c < m ∧ P' c = i := fun i hi => by rw [← hQ']; exact hP'.surj i hi
    have ij : ∀ c d : Nat, c < m → d < m → P c = P d → c = d := fun c d h1 h2 e => by rw [← hQ] at e; exact hP.inj h1 h2 e
    have ij' : ∀ c d : Nat, c < m → d < m → P' c = P' d → c = d := fun c d h1 h2 e => by rw [← hQ'] at e; exact hP'.inj h1 h2 e
    rw [hQ] at v3
    rw [hQ'] at w3
    refine for_s (L := fun F i (_ : Unit) u => l_X2_sameNormalForm_31 13 20 F (nI i) u) (Q := fun r => (r = some (1, w) ∧ smN m a b P m a' b' P') ∨ (r = some (0, w) ∧ ¬ smN m a b P m a' b' P')) (I := fun i _ v => v = w ∧ ∀ c c' : Nat, c < m → c' < m → P c = P' c' → P c < i → 12 * a c + b c = 12 * a' c' + b' c') (m := m) ?_ ?_ 0 () w FU (by omega) ⟨rfl, fun c c' _ _ _ h => by omega⟩ (by unfold FU; omega)
    · rintro F i _ t hi ⟨rfl, hI⟩
      obtain ⟨c, hc, ec⟩ := sj i hi
      obtain ⟨d, hd, ed⟩ := sj' i hi
      have q1 : t (13 + 6) i = nI c := by rw [← ec, show (13 : Nat) + 6 = 19 from rfl, w19]; exact v3 c hc
      have q2 : t (20 + 6) i = nI d := by rw [← ed]; exact w3 d hd
      obtain ⟨a1, a2, a3, a4⟩ := h.1.2.2 c (by omega)
      obtain ⟨b1, b2, b3, b4⟩ := h'.1.2.2 d (by omega)
      have e15 : t (13 + 1 + 1) = u (13 + 1 + 1) := hwk _ (by decide) (by decide)
      have e16 : t (13 + 1 + 2) = u (13 + 1 + 2) := hwk _ (by decide) (by decide)
      have e22 : t (20 + 1 + 1) = u (20 + 1 + 1) := hwk _ (by decide) (by decide)
      have e23 : t (20 + 1 + 2) = u (20 + 1 + 2) := hwk _ (by decide) (by decide)
      have e14 : t (13 + 1) 2 = nI m := by rw [hwk _ (by decide) (by decide)]; exact e1
      rw [l_X2_sameNormalForm_31, b_X2_sameNormalForm_31, e14, if_neg (fun z => absurd ((le_ (by omega) (by omega)).mp z) (by omega)), gdt (ix_ (by omega) (by omega)), gdt (ix_ (by omega) (by omega)), nc_ (by omega), q1, q2, gdt (ix_ (by omega) (by omega)), gdt (ix_ (by omega) (by omega)), nc_ (by omega), nc_ (by omega), e15, e16, e22, e23, a3, a4, b3, b4, gdt (ix_ (by omega) (by omega)), gdt (ix_ (by omega) (by omega))]
      by_cases k : a c = a' d ∧ b c = b' d
      · right
        rw [if_pos (by rw [k.1]), if_pos (by rw [k.2]), nI_1]
        refine ⟨(), t, rfl, rfl, fun x x' hx hx' he hl => ?_⟩
        by_cases ex : P x = i
        · have ex1 : x = c := ij x c hx hc (by rw [ex, ec])
          have ex2 : x' = d := ij' x' d hx' hd (by rw [← he, ex, ed])
          rw [ex1, ex2, k.1, k.2]
        · exact hI x x' hx hx' he (by omega)
      · left; right
        have no : ¬ smN m a b P m a' b' P' := fun z => by
          have := z.2 c d hc hd (by rw [ec, ed])
          apply k
          constructor
          · omega
          · omega
        by_cases k1 : a c = a' d
        · have k2 : ¬ b c = b' d := fun z => k ⟨k1, z⟩
          rw [if_pos (by rw [k1]), if_neg (fun z => k2 ((eq_ (by omega) (by omega)).mp z))]
          exact ⟨rfl, no⟩
        · rw [if_neg (fun z => k1 ((eq_ (by omega) (by omega)).mp z))]
          exact ⟨rfl, no⟩
    · rintro F _ t ⟨rfl, hI⟩
      left
      have e14 : t (13 + 1) 2 = nI m := by rw [hwk _ (by decide) (by decide)]; exact e1
      rw [l_X2_sameNormalForm_31, b_X2_sameNormalForm_31, e14, if_pos ((le_ (by omega) (by omega)).mpr (by omega))]
      refine ⟨rfl, rfl, fun c c' hc hc' he => hI c c' hc hc' he ?_⟩
      rw [← hQ]
      exact hP.bound hc
  · refine ⟨u, fun _ _ _ => rfl, Or.inr ⟨?_, fun z => c z.1⟩⟩
    rw [f_X2_sameNormalForm, e1, e2, if_neg (fun z => c ((eq_ (by omega) (by omega)).mp z))]
theorem cmp_s {u : MU} {m m' : Nat} {a b a' b' : Nat → Nat} (h : LY 13 m a b (bd (cG u) a b) u) (hK : KN u) (hl : lz u 80 m' a' b') : ∃ v : MU, (∀ k : Nat, (k < 13 ∨ 26 < k) → v k = u k) ∧ ((f_X6_compareWithImage 80 u = some (-5, v) ∧ ∃ j : Nat, j < m' ∧ u 7 (a' j) = 0) ∨ (f_X6_compareWithImage 80 u = some (1, v) ∧ (∀ j : Nat, j < m' → u 7 (a' j) = 1) ∧ smN m a b (pos 2 (stg (bd (cG u) a b)) a b m) m' a' b' (pos 2 (stg (bd (cG u) a' b')) a' b' m')) ∨ (f_X6_compareWithImage 80 u = some (0, v) ∧ (∀ j : Nat, j < m' → u 7 (a' j) = 1) ∧ ¬ smN m a b (pos 2 (stg (bd (cG u) a b)) a b m) m' a' b' (pos 2 (stg (bd (cG u) a' b')) a' b' m'))) := by
  rcases knowsAll_s hl hK with ⟨g1, g2⟩ | ⟨g1, g2⟩
  · obtain ⟨w, w1, w2, w3⟩ := lay_s (q := 20) (by omega) (by omega) hl
    have hw : LY 13 m a b (bd (cG u) a b) w := by
      obtain ⟨y1, y2, y3, y4, y5⟩ := h
      exact ⟨y1.cong (by rw [w3 _ (by omega)]) (w3 _ (by omega)) (w3 _ (by omega)), by rw [w3 _ (by omega)]; exact y2, by rw [w3 _ (by omega)]; exact y3, fun c hc => by rw [w3 _ (by omega)]; exact y4 c hc, fun c hc => by rw [w3 _ (by omega)]; exact y5 c hc⟩
    obtain ⟨v, v1, v2⟩ := sameN_s hw w2
    refine ⟨v, fun k hk => by rw [v1 k (by omega) (by omega), w3 k (by omega)], ?_⟩
    right
    rcases v2 with ⟨q1, q2⟩ | ⟨q1, q2⟩
    · left
      refine ⟨?_, g2, q2⟩
      rw [f_X6_compareWithImage, mBe g1, if_neg (by decide), mBe w1, mBe q1, if_neg (by decide)]
    · right
      refine ⟨?_, g2, q2⟩
      rw [f_X6_compareWithImage, mBe g1, if_neg (by decide), mBe w1, mBe q1, if_pos rfl]
  · refine ⟨u, fun _ _ => rfl, Or.inl ⟨?_, g2⟩⟩
    rw [f_X6_compareWithImage, mBe g1, if_pos rfl]
theorem layN_s {u : MU} {m : Nat} {a b : Nat → Nat} {B : Nat → Nat → Bool} (h : SY m a b B u) : ∃ v : MU, f_X7_layNormal u = some (0, v) ∧ (∀ k : Nat, k ≠ 102 → v k = u k) ∧ ∀ c : Nat, c < m → v 102 (pos 2 (stg B) a b m c) = nI (12 * a c + b c) := by
  obtain ⟨h1, h2, h3⟩ := h
  have hm := h1.2.1
  have hP := ah_sto 2 (stg B) a b
  rw [f_X7_layNormal, show l_X7_layNormal_2 FU 0 u = l_X7_layNormal_2 FU (nI 0) u from rfl]
  refine for_s (L := fun F i (_ : Unit) u => l_X7_layNormal_2 F (nI i) u) (Q := fun r => ∃ v : MU, r = some (0, v) ∧ (∀ k : Nat, k ≠ 102 → v k = u k) ∧ ∀ c : Nat, c < m → v 102 (pos 2 (stg B) a b m c) = nI (12 * a c + b c)) (I := fun i _ v => (∀ k : Nat, k ≠ 102 → v k = u k) ∧ ∀ c : Nat, c < i → v 102 (pos 2 (stg B) a b m c) = nI (12 * a c + b c)) (m := m) ?_ ?_ 0 () u FU (by omega) ⟨fun _ _ => rfl, fun c hc => by omega⟩ (by unfold FU; omega)
  · rintro F i _ v hi ⟨i1, i2⟩
    right
    obtain ⟨a1, a2, a3, a4⟩ := h1.2.2 i (by omega)
    have hp : pos 2 (stg B) a b m i < m := hP.bound hi
    rw [l_X7_layNormal_2, b_X7_layNormal_2, i1 88 (by decide), h1.1, if_neg (fun z => absurd ((le_ (by omega) (by omega)).mp z) (by omega)), gdt (ix_ (by omega) (by omega)), mBe (effOf_s (by omega) (by rw [i1 92 (by decide)]; exact a3) (by rw [i1 93 (by decide)]; exact a4)), nc_ (by omega), i1 101 (by decide), h3 i hi, gdt (ix_ (by omega) (by omega)), mSe, nc_ (by omega), nI_1]
    refine ⟨(), _, rfl, fun k hk => by rw [mup_ne hk]; exact i1 k hk, fun c hc => ?_⟩
    by_cases e : c = i
    · rw [e, mup_self]
    · rw [mup_sne (show pos 2 (stg B) a b m c ≠ pos 2 (stg B) a b m i from fun z => e (hP.inj (by omega) hi z))]
      exact i2 c (by omega)
  · rintro F _ v ⟨i1, i2⟩
    rw [l_X7_layNormal_2, b_X7_layNormal_2, i1 88 (by decide), h1.1, if_pos ((le_ (by omega) (by omega)).mpr (by omega))]
    exact ⟨v, rfl, i1, i2⟩
theorem hold_s (u : MU) : ∃ v : MU, f_X7_hold u = some (0, v) ∧ v 88 26 = u 88 5 ∧ (∀ j : Nat, j ≠ 26 → v 88 j = u 88 j) ∧ (∀ j : Nat, j < 16 → v 103 j = u 92 j ∧ v 104 j = u 93 j) ∧ ∀ k : Nat, k ≠ 88 → k ≠ 103 → k ≠ 104 → v k = u k := by
  rw [f_X7_hold, mSe, show l_X7_hold_10 FU 0 (mup u 88 26 (u 88 5)) = l_X7_hold_10 FU (nI 0) (mup u 88 26 (u 88 5)) from rfl]
  refine for_s (L := fun F i (_ : Unit) u => l_X7_hold_10 F (nI i) u) (Q := fun r => ∃ v : MU, r = some (0, v) ∧ v 88 26 = u 88 5 ∧ (∀ j : Nat, j ≠ 26 → v 88 j = u 88 j) ∧ (∀ j : Nat, j < 16 → v 103 j = u 92 j ∧ v 104 j = u 93 j) ∧ ∀ k : Nat, k ≠ 88 → k ≠ 103 → k ≠ 104 → v k = u k) (I := fun i _ v => v 88 26 = u 88 5 ∧ (∀ j : Nat, j ≠ 26 → v 88 j = u 88 j) ∧ (∀ j : Nat, j < i → v 103 j = u 92 j ∧ v 104 j = u 93 j) ∧ ∀ k : Nat, k ≠ 88 → k ≠ 103 → k ≠ 104 → v k = u k) (m := 16) ?_ ?_ 0 () _ FU (by omega) ⟨mup_self, fun j hj => mup_sne hj, fun j hj => by omega, fun k hk _ _ => mup_ne hk⟩ (by unfold FU; omega)
  · rintro F i _ v hi ⟨i1, i2, i3, i4⟩
    right
    have ii := ix_ (show i < 16 by omega) (show (16 : Nat) < 1000 by omega)
    rw [l_X7_hold_10, b_X7_hold_10, if_neg (fun z => absurd ((le_ (by omega) (by omega)).mp z) (by omega)), gdt ii, gdt ii, mSe, gdt ii, gdt ii, mSe, nc_ (by omega), nI_1, mup_ne (show (93 : Nat) ≠ 103 by decide), i4 92 (by decide) (by decide) (by decide), i4 93 (by decide) (by decide) (by decide)]
    refine ⟨(), _, rfl, by rw [mup_ne (by decide), mup_ne (by decide)]; exact i1, fun j hj => by rw [mup_ne (by decide), mup_ne (by decide)]; exact i2 j hj, fun j hj => ?_, fun k h1 h2 h3 => by rw [mup_ne h3, mup_ne h2]; exact i4 k h1 h2 h3⟩
    by_cases e : j = i
    · rw [e, mup_self, mup_ne (by decide), mup_self]; exact ⟨rfl, rfl⟩
    · rw [mup_ne (by decide), mup_sne e, mup_sne e, mup_ne (by decide)]; exact i3 j (by omega)
  · rintro F _ v ⟨i1, i2, i3, i4⟩
    rw [l_X7_hold_10, b_X7_hold_10, if_pos ((le_ (by omega) (by omega)).mpr (by omega))]
    exact ⟨v, rfl, i1, i2, i3, i4⟩
theorem give_s (u : MU) : ∃ v : MU, f_X7_giveBack u = some (0, v) ∧ v 88 5 = u 88 26 ∧ (∀ j : Nat, j ≠ 5 → v 88 j = u 88 j) ∧ (∀ j : Nat, j < 16 → v 92 j = u 103 j ∧ v 93 j = u 104 j) ∧ (∀ j : Nat, 16 ≤ j → v 92 j = u 92 j ∧ v 93 j = u 93 j) ∧ ∀ k : Nat, k ≠ 88 → k ≠ 92 → k ≠ 93 → v k = u k := by
  rw [f_X7_giveBack, mSe, show l_X7_giveBack_10 FU 0 (mup u 88 5 (u 88 26)) = l_X7_giveBack_10 FU (nI 0) (mup u 88 5 (u 88 26)) from rfl]
  refine for_s (L := fun F i (_ : Unit) u => l_X7_giveBack_10 F (nI i) u) (Q := fun r => ∃ v : MU, r = some (0, v) ∧ v 88 5 = u 88 26 ∧ (∀ j : Nat, j ≠ 5 → v 88 j = u 88 j) ∧ (∀ j : Nat, j < 16 → v 92 j = u 103 j ∧ v 93 j = u 104 j) ∧ (∀ j : Nat, 16 ≤ j → v 92 j = u 92 j ∧ v 93 j = u 93 j) ∧ ∀ k : Nat, k ≠ 88 → k ≠ 92 → k ≠ 93 → v k = u k) (I := fun i _ v => v 88 5 = u 88 26 ∧ (∀ j : Nat, j ≠ 5 → v 88 j = u 88 j) ∧ (∀ j : Nat, j < i → v 92 j = u 103 j ∧ v 93 j = u 104 j) ∧ (∀ j : Nat, 16 ≤ j → v 92 j = u 92 j ∧ v 93 j = u 93 j) ∧ ∀ k : Nat, k ≠ 88 → k ≠ 92 → k ≠ 93 → v k = u k) (m := 16) ?_ ?_ 0 () _ FU (by omega) ⟨mup_self, fun j hj => mup_sne hj, fun j hj => by omega, fun j _ => by rw [mup_ne (by decide), mup_ne (by decide)]; exact ⟨rfl, rfl⟩, fun k hk _ _ => mup_ne hk⟩ (by unfold FU; omega)
  · rintro F i _ v hi ⟨i1, i2, i3, i5, i4⟩
    right
    have ii := ix_ (show i < 16 by omega) (show (16 : Nat) < 1000 by omega)
    rw [l_X7_giveBack_10, b_X7_giveBack_10, if_neg (fun z => absurd ((le_ (by omega) (by omega)).mp z) (by omega)), gdt ii, gdt ii, mSe, gdt ii, gdt ii, mSe, nc_ (by omega), nI_1, mup_ne (show (104 : Nat) ≠ 92 by decide), i4 103 (by decide) (by decide) (by decide), i4 104 (by decide) (by decide) (by decide)]
    refine ⟨(), _, rfl, by rw [mup_ne (by decide), mup_ne (by decide)]; exact i1, fun j hj => by rw [mup_ne (by decide), mup_ne (by decide)]; exact i2 j hj, fun j hj => ?_, fun j hj => ?_, fun k h1 h2 h3 => by rw [mup_ne h3, mup_ne h2]; exact i4 k h1 h2 h3⟩
    · by_cases e : j = i
      · rw [e, mup_self, mup_ne (by decide), mup_self]; exact ⟨rfl, rfl⟩
      · rw [mup_ne (by decide), mup_sne e, mup_sne e, mup_ne (by decide)]; exact i3 j (by omega)
    · rw [mup_ne (by decide), mup_sne (by omega), mup_sne (by omega), mup_ne (by decide)]; exact i5 j hj
  · rintro F _ v ⟨i1, i2, i3, i5, i4⟩
    rw [l_X7_giveBack_10, b_X7_giveBack_10, if_pos ((le_ (by omega) (by omega)).mpr (by omega))]
    exact ⟨v, rfl, i1, i2, i3, i5, i4⟩
/-- the image's program comes in -/
theorem in21_s (u : MU) : ∃ v : MU, l_X7_compared_21 FU 0 u = mB (f_X7_isAllKnown v) (fun r2 u2 => (if r2 = 0 then b_X7_compared_87 r2 u2 else (if (u2 88 5) = (u2 88 26) then b_X7_compared_88 r2 1 u2 else b_X7_compared_87 r2 u2))) ∧ (∀ j : Nat, j < 16 → v 92 j = u 109 (18 + j) ∧ v 93 j = u 109 (34 + j)) ∧ (∀ j : Nat, 16 ≤ j → v 92 j = u 92 j ∧ v 93 j = u 93 j) ∧ ∀ k : Nat, k ≠ 92 → k ≠ 93 → v k = u k := by
  rw [show l_X7_compared_21 FU 0 u = l_X7_compared_21 FU (nI 0) u from rfl]
  refine for_s (L := fun F i (_ : Unit) u => l_X7_compared_21 F (nI i) u) (Q := fun r => ∃ v : MU, r = mB (f_X7_isAllKnown v) (fun r2 u2 => (if r2 = 0 then b_X7_compared_87 r2 u2 else (if (u2 88 5) = (u2 88 26) then b_X7_compared_88 r2 1 u2 else b_X7_compared_87 r2 u2))) ∧ (∀ j : Nat, j < 16 → v 92 j = u 109 (18 + j) ∧ v 93 j = u 109 (34 + j)) ∧ (∀ j : Nat, 16 ≤ j → v 92 j = u 92 j ∧ v 93 j = u 93 j) ∧ ∀ k : Nat, k ≠ 92 → k ≠ 93 → v k = u k) (I := fun i _ v => (∀ j : Nat, j < i → v 92 j = u 109 (18 + j) ∧ v 93 j = u 109 (34 + j)) ∧ (∀ j : Nat, 16 ≤ j → v 92 j = u 92 j ∧ v 93 j = u 93 j) ∧ ∀ k : Nat, k ≠ 92 → k ≠ 93 → v k = u k) (m := 16) ?_ ?_ 0 () u FU (by omega) ⟨fun j hj => by omega, fun j _ => ⟨rfl, rfl⟩, fun k _ _ => rfl⟩ (by unfold FU; omega)
  · rintro F i _ v hi ⟨i3, i5, i4⟩
    right
    have ii := ix_ (show i < 16 by omega) (show (16 : Nat) < 1000 by omega)
    rw [l_X7_compared_21, b_X7_compared_21, if_neg (fun z => absurd ((le_ (by omega) (by omega)).mp z) (by omega)), nI_add, nI_add, gdt (ix_ (by omega) (by omega)), gdt ii, mSe, gdt (ix_ (by omega) (by omega)), gdt ii, mSe, nc_ (by omega), nc_ (by omega), nc_ (by omega), nI_1, mup_ne (show (109 : Nat) ≠ 92 by decide), i4 109 (by decide) (by decide)]
    refine ⟨(), _, rfl, fun j hj => ?_, fun j hj => ?_, fun k h2 h3 => by rw [mup_ne h3, mup_ne h2]; exact i4 k h2 h3⟩
    · by_cases e : j = i
      · rw [e, mup_self, mup_ne (by decide), mup_self]; exact ⟨rfl, rfl⟩
      · rw [mup_ne (by decide), mup_sne e, mup_sne e, mup_ne (by decide)]; exact i3 j (by omega)
    · rw [mup_ne (by decide), mup_sne (by omega), mup_sne (by omega), mup_ne (by decide)]; exact i5 j hj
  · rintro F _ v ⟨i3, i5, i4⟩
    rw [l_X7_compared_21, b_X7_compared_21, if_pos ((le_ (by omega) (by omega)).mpr (by omega))]
    exact ⟨v, rfl, i3, i5, i4⟩
