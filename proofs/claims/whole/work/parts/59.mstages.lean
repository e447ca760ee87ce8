/-- the model's program -/
def mz (u : MU) (m : Nat) (a b : Nat → Nat) : Prop := u 88 5 = nI m ∧ m ≤ 16 ∧ ∀ j : Nat, j < 16 → a j < 6 ∧ b j < 12 ∧ u 92 j = nI (a j) ∧ u 93 j = nI (b j)
theorem mz.cong {u v : MU} {m : Nat} {a b : Nat → Nat} (h : mz u m a b) (e0 : v 88 5 = u 88 5) (e1 : v 92 = u 92) (e2 : v 93 = u 93) : mz v m a b := by
  unfold mz
  rw [e0, e1, e2]
  exact h
theorem mz.pf7 {u v : MU} {m : Nat} {a b : Nat → Nat} (h : mz u m a b) (g : pf7 u v) : mz v m a b := h.cong (g.2 5 (by omega)) (g.1 92 (by decide)) (g.1 93 (by decide))
theorem mz_of {u : MU} (h : PR u) {m : Nat} {a b : Nat → Nat} (g : lz u 9 m a b) : mz u m a b := by
  obtain ⟨h1, h2, h3⟩ := h
  obtain ⟨g1, g2, g3⟩ := g
  refine ⟨by rw [← h1]; exact g1, g2, fun j hj => ?_⟩
  obtain ⟨a1, a2, a3, a4⟩ := g3 j hj
  exact ⟨a1, a2, by rw [← (h3 j hj).1]; exact a3, by rw [← (h3 j hj).2]; exact a4⟩
theorem allKnown_s {u : MU} {m : Nat} {a b : Nat → Nat} (h : mz u m a b) (hM : MK u) : ∃ (z : Int32) (v : MU), f_X7_isAllKnown u = some (z, v) ∧ pf7 u v ∧ ((z = 1 ∧ ∀ j : Nat, j < m → u 7 (a j) = 1) ∨ (z = 0 ∧ ∃ j : Nat, j < m ∧ u 7 (a j) = 0)) := by
  have hm := h.2.1
  rw [f_X7_isAllKnown, show l_X7_isAllKnown_4 FU 1 0 u = l_X7_isAllKnown_4 FU 1 (nI 0) u from rfl]
  refine for_s (L := fun F i (z : Int32) u => l_X7_isAllKnown_4 F z (nI i) u) (Q := fun r => ∃ (z : Int32) (v : MU), r = some (z, v) ∧ pf7 u v ∧ ((z = 1 ∧ ∀ j : Nat, j < m → u 7 (a j) = 1) ∨ (z = 0 ∧ ∃ j : Nat, j < m ∧ u 7 (a j) = 0))) (I := fun i z v => pf7 u v ∧ ((z = 1 ∧ ∀ j : Nat, j < i → u 7 (a j) = 1) ∨ (z = 0 ∧ ∃ j : Nat, j < m ∧ u 7 (a j) = 0))) (m := m) ?_ ?_ 0 1 u FU (by omega) ⟨pf7.rf u, Or.inl ⟨rfl, fun j hj => by omega⟩⟩ (by unfold FU; omega)
  · rintro F i z v hi ⟨i1, i2⟩
    right
    have hv := h.pf7 i1
    rw [l_X7_isAllKnown_4, b_X7_isAllKnown_4, hv.1, if_neg (fun q => absurd ((le_ (by omega) (by omega)).mp q) (by omega))]
    rcases i2 with ⟨rfl, i2⟩ | ⟨rfl, i2⟩
    · obtain ⟨a1, a2, a3, a4⟩ := hv.2.2 i (by omega)
      obtain ⟨w, w1, w2⟩ := (hM.p7 i1).known a1
      rw [if_neg (by decide), gdt (ix_ (by omega) (by omega)), nc_ (by omega), a3, mBe w1]
      have v7 : v 7 = u 7 := i1.1 7 (by decide)
      rcases mZ_or (hM.2.1.1 (a i) a1) with q | q
      · rw [if_pos (by rw [v7]; exact q), b_X7_isAllKnown_33, b_X7_isAllKnown_34, nI_1]
        exact ⟨0, w, rfl, i1.tr w2, Or.inr ⟨rfl, i, hi, q⟩⟩
      · rw [if_neg (by rw [v7, q]; decide), b_X7_isAllKnown_34, nI_1]
        refine ⟨1, w, rfl, i1.tr w2, Or.inl ⟨rfl, fun j hj => ?_⟩⟩
        by_cases e : j = i
        · rw [e]; exact q
        · exact i2 j (by omega)
    · rw [if_pos rfl, b_X7_isAllKnown_33, b_X7_isAllKnown_34, nI_1]
      exact ⟨0, v, rfl, i1, Or.inr ⟨rfl, i2⟩⟩
  · rintro F z v ⟨i1, i2⟩
    have hv := h.pf7 i1
    rw [l_X7_isAllKnown_4, b_X7_isAllKnown_4, hv.1, if_pos ((le_ (by omega) (by omega)).mpr (by omega))]
    have hz : mZ z = true := by
      rcases i2 with ⟨rfl, -⟩ | ⟨rfl, -⟩ <;> rfl
    rw [gdt hz]
    exact ⟨z, v, rfl, i1, i2⟩
def fS (u v : MU) : Prop := ∀ k : Nat, k ≠ 100 → k ≠ 101 → v k = u k
theorem fS.rf (u : MU) : fS u u := fun _ _ _ => rfl
theorem fS.tr {u v t : MU} (h : fS u v) (g : fS v t) : fS u t := fun k a b => (g k a b).trans (h k a b)
theorem fS.up {u v : MU} {k j : Nat} {x : Int32} (h : fS u v) (hk : k = 100 ∨ k = 101) : fS u (mup v k j x) := fun i a b => by rw [mup_ne (by omega)]; exact h i a b
theorem MK.fS {u v : MU} (h : MK u) (g : ∀ k : Nat, k ≠ 100 → k ≠ 101 → v k = u k) : MK v := h.cong (fun k hk => g k (by omega) (by omega))
theorem mz.fS {u v : MU} {m : Nat} {a b : Nat → Nat} (h : mz u m a b) (g : ∀ k : Nat, k ≠ 100 → k ≠ 101 → v k = u k) : mz v m a b := h.cong (by rw [g 88 (by decide) (by decide)]) (g 92 (by decide) (by decide)) (g 93 (by decide) (by decide))
/-- whether two calls of the model's program are bound -/
theorem mbound {u : MU} {m : Nat} {a b : Nat → Nat} (h : mz u m a b) (hM : MK u) (hk : ∀ j : Nat, j < m → u 7 (a j) = 1) {e k : Nat} (he : e < m) (hk' : k < m) : f_X7_causesOf (nI (12 * a e + b e)) (nI (12 * a k + b k)) u = some (cau (cG u) (12 * a e + b e) (12 * a k + b k), u) := by
  have hm := h.2.1
  obtain ⟨a1, a2, -⟩ := h.2.2 e (by omega)
  obtain ⟨b1, b2, -⟩ := h.2.2 k (by omega)
  rw [causesOf_s (by omega) (by omega), hM.cauE a1 a2 b1 b2 (hk e he) (hk k hk')]
theorem st19_s {u0 u : MU} {m k : Nat} {a b : Nat → Nat} (hM : MK u0) (hz : mz u0 m a b) (hK : ∀ j : Nat, j < m → u0 7 (a j) = 1) (hk : k < m) (k2 : Int32 → MU → mR) (h1 : fS u0 u) (h2 : ∀ e : Nat, e < k → u 100 e = nI (stg (bd (cG u0) a b) e)) (h3 : u 100 k = 0) : ∃ v : MU, l_X7_findStages_19 k2 FU (nI k) 0 u = k2 (nI (k + 1)) v ∧ fS u0 v ∧ ∀ e : Nat, e < k + 1 → v 100 e = nI (stg (bd (cG u0) a b) e) := by
  have hm := hz.2.1
  generalize hB : bd (cG u0) a b = B at h2 ⊢
  have hSle : ∀ e : Nat, stg B e ≤ e := fun e => stg_le B (e + 1) e (by omega)
  rw [show l_X7_findStages_19 k2 FU (nI k) 0 u = l_X7_findStages_19 k2 FU (nI k) (nI 0) u from rfl]
  refine for_s (L := fun F i (_ : Unit) u => l_X7_findStages_19 k2 F (nI k) (nI i) u) (Q := fun r => ∃ v : MU, r = k2 (nI (k + 1)) v ∧ fS u0 v ∧ ∀ e : Nat, e < k + 1 → v 100 e = nI (stg B e)) (I := fun i _ v => fS u0 v ∧ (∀ e : Nat, e < k → v 100 e = nI (stg B e)) ∧ v 100 k = nI (stI B (stg B) k i)) (m := k) ?_ ?_ 0 () u FU (by omega) ⟨h1, h2, h3⟩ (by unfold FU; omega)
  · rintro F i _ v hi ⟨i1, i2, i3⟩
    right
    have hMv := hM.fS i1
    have hzv := hz.fS i1
    have v7 : v 7 = u0 7 := i1 7 (by decide) (by decide)
    obtain ⟨a1, a2, a3, a4⟩ := hzv.2.2 i (by omega)
    obtain ⟨b1, b2, b3, b4⟩ := hzv.2.2 k (by omega)
    have hst : stI B (stg B) k i ≤ i := stI_le i (fun e _ => hSle e)
    have hsi := hSle i
    have ik := ix_ (show k < 16 by omega) (show (16 : Nat) < 1000 by omega)
    have ii := ix_ (show i < 16 by omega) (show (16 : Nat) < 1000 by omega)
    rw [l_X7_findStages_19, b_X7_findStages_19, if_neg (fun z => absurd ((le_ (by omega) (by omega)).mp z) (by omega)), mBe (effOf_s (by omega) a3 a4), mBe (effOf_s (by omega) b3 b4), mBe (mbound hzv hMv (fun j hj => by rw [v7]; exact hK j hj) (by omega) hk), cau_fE (u := u0) (fun j _ _ => i1 j (by omega) (by omega))]
    have eB : B i k = decide (¬ cau (cG u0) (12 * a i + b i) (12 * a k + b k) = 0) := by rw [← hB]; rfl
    have go : ∀ x : Nat, x = stI B (stg B) k (i + 1) → ∃ (_ : Unit) (u' : MU), l_X7_findStages_19 k2 F (nI k) (nI (i + 1)) (mup v 100 k (nI x)) = l_X7_findStages_19 k2 F (nI k) (nI (i + 1)) u' ∧ fS u0 u' ∧ (∀ e : Nat, e < k → u' 100 e = nI (stg B e)) ∧ u' 100 k = nI (stI B (stg B) k (i + 1)) := by
      intro x hx
      exact ⟨(), _, rfl, i1.up (Or.inl rfl), fun e he => by rw [mup_sne (by omega)]; exact i2 e he, by rw [mup_self, hx]⟩
    by_cases c : cau (cG u0) (12 * a i + b i) (12 * a k + b k) = 0
    · rw [if_pos c, b_X7_findStages_46, if_pos rfl, b_X7_findStages_82, gdt ik, b_X7_findStages_88, gdt ik, mSe, nc_ (by omega), nI_1, i3]
      refine go _ ?_
      rw [stI, if_neg (by rw [eB]; simp [c])]
    · rw [if_neg c, b_X7_findStages_46, if_neg (by decide), gdt ii, gdt ik, nc_ (by omega), nc_ (by omega), i3, i2 i hi]
      by_cases l : stg B i < stI B (stg B) k i
      · rw [if_pos ((lt_ (by omega) (by omega)).mpr l), b_X7_findStages_82, gdt ik, b_X7_findStages_88, gdt ik, mSe, nc_ (by omega), nI_1, i3]
        refine go _ ?_
        rw [stI, if_pos (by rw [eB]; simp [c])]
        omega
      · rw [if_neg (fun z => l ((lt_ (by omega) (by omega)).mp z)), gdt ii, b_X7_findStages_88, gdt ik, mSe, nc_ (by omega), nI_1, nI_1]
        refine go _ ?_
        rw [stI, if_pos (by rw [eB]; simp [c])]
        omega
  · rintro F _ v ⟨i1, i2, i3⟩
    rw [l_X7_findStages_19, b_X7_findStages_19, if_pos ((le_ (by omega) (by omega)).mpr (by omega)), nI_1]
    refine ⟨v, rfl, i1, fun e he => ?_⟩
    by_cases ee : e = k
    · rw [ee, stg_eq B k]; exact i3
    · exact i2 e (by omega)
theorem isAhead_s {u : MU} {m c d : Nat} {a b S : Nat → Nat} (h : mz u m a b) (hS : ∀ j : Nat, j < m → S j ≤ 16 ∧ u 100 j = nI (S j)) (hc : c < m) (hd : d < m) : f_X7_isAhead (nI d) (nI c) u = some (if ah 2 S a b d c = true then 1 else 0, u) := by
  obtain ⟨-, h2, h3⟩ := h
  obtain ⟨c1, c2, c3, c4⟩ := h3 c (by omega)
  obtain ⟨d1, d2, d3, d4⟩ := h3 d (by omega)
  obtain ⟨c5, c6⟩ := hS c hc
  obtain ⟨d5, d6⟩ := hS d hd
  have ic := ix_ (show c < 16 by omega) (show (16 : Nat) < 1000 by omega)
  have id := ix_ (show d < 16 by omega) (show (16 : Nat) < 1000 by omega)
  have nc := nc_ (show c < 1000000 by omega)
  have nd := nc_ (show d < 1000000 by omega)
  unfold f_X7_isAhead ah
  simp only [gdt ic, gdt id, nc, nd, c3, c4, d3, d4, c6, d6]
  rw [if_neg (show ¬ (2 : Nat) = 0 by decide)]
  by_cases s : S d = S c
  · rw [if_pos (by rw [s]), if_pos s, if_neg (show ¬ (2 : Nat) = 1 by decide)]
    by_cases e : a d = a c
    · rw [if_pos (by rw [e]), if_pos e]
      by_cases f : b d = b c
      · rw [if_pos (by rw [f]), if_pos f]
        by_cases k : d < c
        · rw [if_neg (fun z => absurd ((le_ (by omega) (by omega)).mp z) (by omega)), if_pos (by simpa using k)]
        · rw [if_pos ((le_ (by omega) (by omega)).mpr (by omega)), if_neg (by simpa using k)]
      · rw [if_neg (fun z => f ((eq_ (by omega) (by omega)).mp z)), if_neg f]
        by_cases k : b d < b c
        · rw [if_neg (fun z => absurd ((le_ (by omega) (by omega)).mp z) (by omega)), if_pos (by simpa using k)]
        · rw [if_pos ((le_ (by omega) (by omega)).mpr (by omega)), if_neg (by simpa using k)]
    · rw [if_neg (fun z => e ((eq_ (by omega) (by omega)).mp z)), if_neg e]
      by_cases k : a d < a c
      · rw [if_neg (fun z => absurd ((le_ (by omega) (by omega)).mp z) (by omega)), if_pos (by simpa using k)]
      · rw [if_pos ((le_ (by omega) (by omega)).mpr (by omega)), if_neg (by simpa using k)]
  · rw [if_neg (fun z => s ((eq_ (by omega) (by omega)).mp z)), if_neg s]
    by_cases k : S d < S c
    · rw [if_neg (fun z => absurd ((le_ (by omega) (by omega)).mp z) (by omega)), if_pos (by simpa using k)]
    · rw [if_pos ((le_ (by omega) (by omega)).mpr (by omega)), if_neg (by simpa using k)]
theorem st120_s {u0 u : MU} {m k : Nat} {a b : Nat → Nat} {B : Nat → Nat → Bool} (hz : mz u0 m a b) (hk : k < m) (k103 : Int32 → MU → mR) (h1 : fS u0 u) (h2 : ∀ e : Nat, e < m → u 100 e = nI (stg B e)) (h3 : u 101 k = 0) : ∃ v : MU, l_X7_findStages_120 k103 FU (nI k) 0 u = k103 (nI (k + 1)) v ∧ fS u0 v ∧ v 100 = u 100 ∧ (∀ e : Nat, e ≠ k → v 101 e = u 101 e) ∧ v 101 k = nI (pos 2 (stg B) a b m k) := by
  have hm := hz.2.1
  rw [show l_X7_findStages_120 k103 FU (nI k) 0 u = l_X7_findStages_120 k103 FU (nI k) (nI 0) u from rfl]
  refine for_s (L := fun F i (_ : Unit) u => l_X7_findStages_120 k103 F (nI k) (nI i) u) (Q := fun r => ∃ v : MU, r = k103 (nI (k + 1)) v ∧ fS u0 v ∧ v 100 = u 100 ∧ (∀ e : Nat, e ≠ k → v 101 e = u 101 e) ∧ v 101 k = nI (pos 2 (stg B) a b m k)) (I := fun i _ v => fS u0 v ∧ v 100 = u 100 ∧ (∀ e : Nat, e ≠ k → v 101 e = u 101 e) ∧ v 101 k = nI (cnt (fun d => ah 2 (stg B) a b d k) i)) (m := m) ?_ ?_ 0 () u FU (by omega) ⟨h1, rfl, fun _ _ => rfl, h3⟩ (by unfold FU; omega)
  · rintro F i _ v hi ⟨i1, i2, i3, i4⟩
    right
    have hzv := hz.fS i1
    have ik := ix_ (show k < 16 by omega) (show (16 : Nat) < 1000 by omega)
    rw [l_X7_findStages_120, b_X7_findStages_120, hzv.1, if_neg (fun z => absurd ((le_ (by omega) (by omega)).mp z) (by omega)), gdt ik, mBe (isAhead_s (S := stg B) hzv (fun j hj => ⟨stg16 hm hj, by rw [i2]; exact h2 j hj⟩) hk hi), nc_ (by omega), i4]
    by_cases c : ah 2 (stg B) a b i k = true
    · rw [if_pos c, if_neg (by decide), b_X7_findStages_149, gdt ik, mSe, nc_ (by omega), nI_1, nI_1]
      refine ⟨(), _, rfl, i1.up (Or.inr rfl), by rw [mup_ne (by decide)]; exact i2, fun e he => by rw [mup_sne he]; exact i3 e he, ?_⟩
      rw [mup_self, cnt, if_pos c]
    · rw [if_neg c, if_pos rfl, b_X7_findStages_149, gdt ik, mSe, nc_ (by omega), nI_1, Int32.add_zero]
      refine ⟨(), _, rfl, i1.up (Or.inr rfl), by rw [mup_ne (by decide)]; exact i2, fun e he => by rw [mup_sne he]; exact i3 e he, ?_⟩
      rw [mup_self, cnt, if_neg c, Nat.add_zero]
  · rintro F _ v ⟨i1, i2, i3, i4⟩
    have hzv := hz.fS i1
    rw [l_X7_findStages_120, b_X7_findStages_120, hzv.1, if_pos ((le_ (by omega) (by omega)).mpr (by omega)), nI_1]
    exact ⟨v, rfl, i1, i2, i3, i4⟩
theorem st103_s {u0 u : MU} {m : Nat} {a b : Nat → Nat} {B : Nat → Nat → Bool} (hz : mz u0 m a b) (h1 : fS u0 u) (h2 : ∀ e : Nat, e < m → u 100 e = nI (stg B e)) : ∃ v : MU, l_X7_findStages_103 FU 0 u = some (0, v) ∧ fS u0 v ∧ (∀ e : Nat, e < m → v 100 e = nI (stg B e)) ∧ ∀ e : Nat, e < m → v 101 e = nI (pos 2 (stg B) a b m e) := by
  have hm := hz.2.1
  rw [show l_X7_findStages_103 FU 0 u = l_X7_findStages_103 FU (nI 0) u from rfl]
  refine for_s (L := fun F i (_ : Unit) u => l_X7_findStages_103 F (nI i) u) (Q := fun r => ∃ v : MU, r = some (0, v) ∧ fS u0 v ∧ (∀ e : Nat, e < m → v 100 e = nI (stg B e)) ∧ ∀ e : Nat, e < m → v 101 e = nI (pos 2 (stg B) a b m e)) (I := fun i _ v => fS u0 v ∧ (∀ e : Nat, e < m → v 100 e = nI (stg B e)) ∧ ∀ e : Nat, e < i → v 101 e = nI (pos 2 (stg B) a b m e)) (m := m) ?_ ?_ 0 () u FU (by omega) ⟨h1, h2, fun e he => by omega⟩ (by unfold FU; omega)
  · rintro F i _ v hi ⟨i1, i2, i3⟩
    right
    have hzv := hz.fS i1
    rw [l_X7_findStages_103, b_X7_findStages_103, hzv.1, if_neg (fun z => absurd ((le_ (by omega) (by omega)).mp z) (by omega)), gdt (ix_ (by omega) (by omega)), mSe, nc_ (by omega)]
    obtain ⟨t, t1, t2, t3, t4, t5⟩ := st120_s (B := B) hz hi (fun x1 u => l_X7_findStages_103 F x1 u) (i1.up (j := i) (x := 0) (Or.inr rfl)) (fun e he => by rw [mup_ne (by decide)]; exact i2 e he) mup_self
    refine ⟨(), t, t1, t2, fun e he => ?_, fun e he => ?_⟩
    · rw [t3, mup_ne (by decide)]; exact i2 e he
    · by_cases ee : e = i
      · rw [ee]; exact t5
      · rw [t4 e ee, mup_sne ee]; exact i3 e (by omega)
  · rintro F _ v ⟨i1, i2, i3⟩
    have hzv := hz.fS i1
    rw [l_X7_findStages_103, b_X7_findStages_103, hzv.1, if_pos ((le_ (by omega) (by omega)).mpr (by omega))]
    exact ⟨v, rfl, i1, i2, i3⟩
/-- the model's stages and ranks -/
def SY (m : Nat) (a b : Nat → Nat) (B : Nat → Nat → Bool) (v : MU) : Prop := mz v m a b ∧ (∀ e : Nat, e < m → v 100 e = nI (stg B e)) ∧ ∀ e : Nat, e < m → v 101 e = nI (pos 2 (stg B) a b m e)
theorem findStages_s {u : MU} {m : Nat} {a b : Nat → Nat} (hM : MK u) (hz : mz u m a b) (hK : ∀ j : Nat, j < m → u 7 (a j) = 1) : ∃ v : MU, f_X7_findStages u = some (0, v) ∧ fS u v ∧ SY m a b (bd (cG u) a b) v := by
  have hm := hz.2.1
  rw [f_X7_findStages, show l_X7_findStages_2 FU 0 u = l_X7_findStages_2 FU (nI 0) u from rfl]
  refine for_s (L := fun F i (_ : Unit) u => l_X7_findStages_2 F (nI i) u) (Q := fun r => ∃ v : MU, r = some (0, v) ∧ fS u v ∧ SY m a b (bd (cG u) a b) v) (I := fun i _ v => fS u v ∧ ∀ e : Nat, e < i → v 100 e = nI (stg (bd (cG u) a b) e)) (m := m) ?_ ?_ 0 () u FU (by omega) ⟨fS.rf u, fun e he => by omega⟩ (by unfold FU; omega)
  · rintro F i _ v hi ⟨i1, i2⟩
    right
    have hzv := hz.fS i1
    rw [l_X7_findStages_2, b_X7_findStages_2, hzv.1, if_neg (fun z => absurd ((le_ (by omega) (by omega)).mp z) (by omega)), gdt (ix_ (by omega) (by omega)), mSe, nc_ (by omega)]
    obtain ⟨t, t1, t2, t3⟩ := st19_s hM hz hK hi (fun x1 u => l_X7_findStages_2 F x1 u) (i1.up (j := i) (x := 0) (Or.inl rfl)) (fun e he => by rw [mup_sne (by omega)]; exact i2 e he) mup_self
    exact ⟨(), t, t1, t2, t3⟩
  · rintro F _ v ⟨i1, i2⟩
    have hzv := hz.fS i1
    rw [l_X7_findStages_2, b_X7_findStages_2, hzv.1, if_pos ((le_ (by omega) (by omega)).mpr (by omega))]
    obtain ⟨t, t1, t2, t3, t4⟩ := st103_s hz i1 i2
    exact ⟨t, t1, t2, hz.fS t2, t3, t4⟩
