def szS (S : Nat → Nat) (m s : Nat) : Nat := cnt (fun c => decide (S c = s)) m
def mxs (f : Nat → Nat) : Nat → Nat
  | 0 => 0
  | k + 1 => max (mxs f k) (f k)
theorem mxs_le {f : Nat → Nat} {B : Nat} (h : ∀ j : Nat, f j ≤ B) : ∀ n : Nat, mxs f n ≤ B := by
  intro n
  induction n with
  | zero => exact Nat.zero_le _
  | succ n ih => rw [mxs]; have := h n; omega
def wd (f : Nat → Nat) : Nat → Option Nat
  | 0 => none
  | i + 1 => match wd f i with
    | none => some i
    | some b => if f b < f i then some i else some b
theorem wd_s {f : Nat → Nat} : ∀ n : Nat, (n = 0 ∧ wd f n = none) ∨ ∃ b : Nat, wd f n = some b ∧ b < n ∧ f b = mxs f n ∧ ∀ j : Nat, j < b → f j < f b := by
  intro n
  induction n with
  | zero => exact Or.inl ⟨rfl, rfl⟩
  | succ n ih =>
    right
    rcases ih with ⟨h1, h2⟩ | ⟨b, h1, h2, h3, h4⟩
    · refine ⟨n, by rw [wd, h2], by omega, ?_, fun j hj => by omega⟩
      subst h1
      rw [mxs, mxs]; omega
    · by_cases c : f b < f n
      · refine ⟨n, by rw [wd, h1]; exact if_pos c, by omega, by rw [mxs]; omega, fun j hj => ?_⟩
        by_cases l : j < b
        · have := h4 j l; omega
        · have hm : f j ≤ mxs f n := by
            have : ∀ n j : Nat, j < n → f j ≤ mxs f n := by
              intro n
              induction n with
              | zero => intro j h; omega
              | succ n ih =>
                intro j h
                rw [mxs]
                by_cases e : j = n
                · subst e; omega
                · have := ih j (by omega); omega
            exact this n j hj
          omega
      · exact ⟨b, by rw [wd, h1]; exact if_neg c, by omega, by rw [mxs]; omega, h4⟩
theorem szS_le (S : Nat → Nat) (m s : Nat) : szS S m s ≤ m := cnt_le _ m
theorem size_s {u : MU} {q m : Nat} {a b : Nat → Nat} {B : Nat → Nat → Bool} (h : LY q m a b B u) {s : Nat} (hs : s ≤ 1000) : f_X2_sizeOfStage q (nI s) u = some (nI (szS (stg B) m s), u) := by
  have hm := h.1.2.1
  rw [f_X2_sizeOfStage]
  refine for_s (L := fun F i (n : Nat) u => l_X2_sizeOfStage_4 q (nI s) F (nI n) (nI i) u) (Q := fun r => r = some (nI (szS (stg B) m s), u)) (I := fun i n v => v = u ∧ n = cnt (fun c => decide (stg B c = s)) i) (m := m) ?_ ?_ 0 0 u FU (by omega) ⟨rfl, rfl⟩ (by unfold FU; omega)
  · rintro F i n v hi ⟨rfl, rfl⟩
    right
    have := stg16 (B := B) hm hi
    rw [l_X2_sizeOfStage_4, b_X2_sizeOfStage_4, h.1.1, if_neg (fun z => absurd ((le_ (by omega) (by omega)).mp z) (by omega)), gdt (ix_ (by omega) (by omega)), nc_ (by omega), h.2.2.2.1 i hi]
    by_cases c : stg B i = s
    · rw [if_pos (by rw [c]), b_X2_sizeOfStage_28, nI_1, nI_1]
      exact ⟨_, v, rfl, rfl, by rw [cnt, if_pos (by simpa using c)]⟩
    · rw [if_neg (fun z => c ((eq_ (by omega) (by omega)).mp z)), b_X2_sizeOfStage_28, nI_1]
      exact ⟨_, v, rfl, rfl, by rw [cnt, if_neg (by simpa using c), Nat.add_zero]⟩
  · rintro F n v ⟨rfl, rfl⟩
    rw [l_X2_sizeOfStage_4, b_X2_sizeOfStage_4, h.1.1, if_pos ((le_ (by omega) (by omega)).mpr (by omega))]
    rfl
theorem smx_m {B : Nat → Nat → Bool} (m : Nat) : smx (stg B) m ≤ m := smx_le m (fun e _ => stg_le B (e + 1) e (by omega))
theorem smx_1 {S : Nat → Nat} {m : Nat} (h : 0 < m) : 0 < smx S m := by
  obtain ⟨k, rfl⟩ : ∃ k, m = k + 1 := ⟨m - 1, by omega⟩
  rw [smx]; omega
theorem most_s {u : MU} {q m : Nat} {a b : Nat → Nat} {B : Nat → Nat → Bool} (h : LY q m a b B u) : f_X2_mostOfOneStage q u = some (nI (mxs (szS (stg B) m) (smx (stg B) m)), u) := by
  have hm := h.1.2.1
  have hx := smx_m (B := B) m
  rw [f_X2_mostOfOneStage]
  refine for_s (L := fun F i (n : Nat) u => l_X2_mostOfOneStage_4 q F (nI n) (nI i) u) (Q := fun r => r = some (nI (mxs (szS (stg B) m) (smx (stg B) m)), u)) (I := fun i n v => v = u ∧ n = mxs (szS (stg B) m) i) (m := smx (stg B) m) ?_ ?_ 0 0 u FU (by omega) ⟨rfl, rfl⟩ (by unfold FU; omega)
  · rintro F i n v hi ⟨rfl, rfl⟩
    right
    have h1 := szS_le (stg B) m i
    have h2 := mxs_le (f := szS (stg B) m) (szS_le (stg B) m) i
    rw [l_X2_mostOfOneStage_4, b_X2_mostOfOneStage_4, h.2.1, if_neg (fun z => absurd ((le_ (by omega) (by omega)).mp z) (by omega)), mBe (size_s h (by omega)), mBe (max_s (by omega) (by omega) v), nI_1]
    exact ⟨_, v, rfl, rfl, by rw [mxs]⟩
  · rintro F n v ⟨rfl, rfl⟩
    rw [l_X2_mostOfOneStage_4, b_X2_mostOfOneStage_4, h.2.1, if_pos ((le_ (by omega) (by omega)).mpr (by omega))]
theorem first_s {u : MU} {q m : Nat} {a b : Nat → Nat} {B : Nat → Nat → Bool} (h : LY q m a b B u) : f_X2_firstFullestStage q u = some (oF (wd (szS (stg B) m) (smx (stg B) m)), u) := by
  have hm := h.1.2.1
  have hx := smx_m (B := B) m
  rw [f_X2_firstFullestStage, mBe (most_s h)]
  generalize hN : smx (stg B) m = N at hx
  generalize hM : mxs (szS (stg B) m) N = M
  have hM16 : M ≤ m := by rw [← hM]; exact mxs_le (szS_le (stg B) m) N
  have hw := wd_s (f := szS (stg B) m) N
  rw [hM] at hw
  refine for_s (L := fun F i (_ : Unit) u => l_X2_firstFullestStage_7 q F (nI M) (nI i) u) (Q := fun r => r = some (oF (wd (szS (stg B) m) N), u)) (I := fun i _ v => v = u ∧ ∀ j : Nat, j < i → ¬ szS (stg B) m j = M) (m := N) ?_ ?_ 0 () u FU (by omega) ⟨rfl, fun j hj => by omega⟩ (by unfold FU; omega)
  · rintro F i _ v hi ⟨rfl, hI⟩
    have h1 := szS_le (stg B) m i
    rw [l_X2_firstFullestStage_7, b_X2_firstFullestStage_7, h.2.1, hN, if_neg (fun z => absurd ((le_ (by omega) (by omega)).mp z) (by omega)), mBe (size_s h (by omega))]
    by_cases c : szS (stg B) m i = M
    · left
      rw [if_pos (by rw [c])]
      rcases hw with ⟨w1, w2⟩ | ⟨b', w1, w2, w3, w4⟩
      · omega
      · rw [w1]
        have : i = b' := by
          rcases Nat.lt_trichotomy i b' with l | l | l
          · have := w4 i l; omega
          · exact l
          · exact absurd w3 (hI b' l)
        rw [this]
        rfl
    · right
      rw [if_neg (fun z => c ((eq_ (by omega) (by omega)).mp z)), nI_1]
      refine ⟨(), v, rfl, rfl, fun j hj => ?_⟩
      by_cases e : j = i
      · rw [e]; exact c
      · exact hI j (by omega)
  · rintro F _ v ⟨rfl, hI⟩
    rw [l_X2_firstFullestStage_7, b_X2_firstFullestStage_7, h.2.1, hN, if_pos ((le_ (by omega) (by omega)).mpr (by omega))]
    rcases hw with ⟨w1, w2⟩ | ⟨b', w1, w2, w3, w4⟩
    · rw [w2]; rfl
    · exact absurd w3 (hI b' w2)
theorem many_s {u : MU} {m : Nat} {a b : Nat → Nat} {B : Nat → Nat → Bool} (h : SY m a b B u) : f_X7_stageMany u = some (nI (smx (stg B) m), u) := by
  obtain ⟨h1, h2, h3⟩ := h
  have hm := h1.2.1
  rw [f_X7_stageMany]
  refine for_s (L := fun F i (n : Nat) u => l_X7_stageMany_4 F (nI n) (nI i) u) (Q := fun r => r = some (nI (smx (stg B) m), u)) (I := fun i n v => v = u ∧ n = smx (stg B) i) (m := m) ?_ ?_ 0 0 u FU (by omega) ⟨rfl, rfl⟩ (by unfold FU; omega)
  · rintro F i n v hi ⟨rfl, rfl⟩
    right
    have g1 := stg16 (B := B) hm hi
    have g2 := smx_m (B := B) i
    rw [l_X7_stageMany_4, b_X7_stageMany_4, h1.1, if_neg (fun z => absurd ((le_ (by omega) (by omega)).mp z) (by omega)), gdt (ix_ (by omega) (by omega)), nc_ (by omega), h2 i hi]
    by_cases c : stg B i < smx (stg B) i
    · rw [if_pos ((lt_ (by omega) (by omega)).mpr c), b_X7_stageMany_34, nI_1]
      exact ⟨_, v, rfl, rfl, by rw [smx]; omega⟩
    · rw [if_neg (fun z => c ((lt_ (by omega) (by omega)).mp z)), gdt (ix_ (by omega) (by omega)), b_X7_stageMany_34, nI_1, nI_1]
      exact ⟨_, v, rfl, rfl, by rw [smx]; omega⟩
  · rintro F n v ⟨rfl, rfl⟩
    rw [l_X7_stageMany_4, b_X7_stageMany_4, h1.1, if_pos ((le_ (by omega) (by omega)).mpr (by omega))]
theorem callsAt_s {u : MU} {m : Nat} {a b : Nat → Nat} {B : Nat → Nat → Bool} (h : SY m a b B u) {s : Nat} (hs : s ≤ 1000) : f_X7_callsAt (nI s) u = some (nI (szS (stg B) m s), u) := by
  obtain ⟨h1, h2, h3⟩ := h
  have hm := h1.2.1
  rw [f_X7_callsAt]
  refine for_s (L := fun F i (n : Nat) u => l_X7_callsAt_4 (nI s) F (nI n) (nI i) u) (Q := fun r => r = some (nI (szS (stg B) m s), u)) (I := fun i n v => v = u ∧ n = cnt (fun c => decide (stg B c = s)) i) (m := m) ?_ ?_ 0 0 u FU (by omega) ⟨rfl, rfl⟩ (by unfold FU; omega)
  · rintro F i n v hi ⟨rfl, rfl⟩
    right
    have := stg16 (B := B) hm hi
    rw [l_X7_callsAt_4, b_X7_callsAt_4, h1.1, if_neg (fun z => absurd ((le_ (by omega) (by omega)).mp z) (by omega)), gdt (ix_ (by omega) (by omega)), nc_ (by omega), h2 i hi]
    by_cases c : stg B i = s
    · rw [if_pos (by rw [c]), b_X7_callsAt_28, nI_1, nI_1]
      exact ⟨_, v, rfl, rfl, by rw [cnt, if_pos (by simpa using c)]⟩
    · rw [if_neg (fun z => c ((eq_ (by omega) (by omega)).mp z)), b_X7_callsAt_28, nI_1, Int32.add_zero]
      exact ⟨_, v, rfl, rfl, by rw [cnt, if_neg (by simpa using c), Nat.add_zero]⟩
  · rintro F n v ⟨rfl, rfl⟩
    rw [l_X7_callsAt_4, b_X7_callsAt_4, h1.1, if_pos ((le_ (by omega) (by omega)).mpr (by omega))]
    rfl
theorem widest_s {u : MU} {m : Nat} {a b : Nat → Nat} {B : Nat → Nat → Bool} (h : SY m a b B u) : f_X7_widest u = some (oF (wd (szS (stg B) m) (smx (stg B) m)), u) := by
  have hm := h.1.2.1
  have hx := smx_m (B := B) m
  have hmn := many_s h
  rw [f_X7_widest, show l_X7_widest_5 FU (-6) 0 u = l_X7_widest_5 FU (oF (wd (szS (stg B) m) 0)) (nI 0) u from rfl]
  generalize hN : smx (stg B) m = N at hx hmn
  refine for_s (L := fun F i (z : Int32) u => l_X7_widest_5 F z (nI i) u) (Q := fun r => r = some (oF (wd (szS (stg B) m) N), u)) (I := fun i z v => v = u ∧ z = oF (wd (szS (stg B) m) i)) (m := N) ?_ ?_ 0 _ u FU (by omega) ⟨rfl, rfl⟩ (by unfold FU; omega)
  · rintro F i z v hi ⟨rfl, rfl⟩
    right
    have h1 := szS_le (stg B) m i
    rw [l_X7_widest_5, b_X7_widest_5, mBe hmn, if_neg (fun z => absurd ((le_ (by omega) (by omega)).mp z) (by omega))]
    rcases wd_s (f := szS (stg B) m) i with ⟨w1, w2⟩ | ⟨b', w1, w2, w3, w4⟩
    · rw [w2, if_pos (show oF none < 0 by decide), b_X7_widest_30, b_X7_widest_35, nI_1]
      refine ⟨_, v, rfl, rfl, ?_⟩
      rw [wd, w2]; rfl
    · rw [w1, show oF (some b') = nI b' from rfl, if_neg (nI_pos (by omega)), mBe (callsAt_s h (by omega)), mBe (callsAt_s h (by omega))]
      have h2 := szS_le (stg B) m b'
      by_cases c : szS (stg B) m b' < szS (stg B) m i
      · rw [if_neg (fun z => absurd ((le_ (by omega) (by omega)).mp z) (by omega)), b_X7_widest_30, b_X7_widest_35, nI_1]
        refine ⟨_, v, rfl, rfl, ?_⟩
        rw [wd, w1]
        dsimp only
        rw [if_pos c]; rfl
      · rw [if_pos ((le_ (by omega) (by omega)).mpr (by omega)), b_X7_widest_35, nI_1]
        refine ⟨_, v, rfl, rfl, ?_⟩
        rw [wd, w1]
        dsimp only
        rw [if_neg c]; rfl
  · rintro F z v ⟨rfl, rfl⟩
    rw [l_X7_widest_5, b_X7_widest_5, mBe hmn, if_pos ((le_ (by omega) (by omega)).mpr (by omega))]
theorem free14_s {u : MU} {m c s : Nat} {a b : Nat → Nat} (hM : MK u) (hz : mz u m a b) (hK : ∀ j : Nat, j < m → u 7 (a j) = 1) (hc : c < m) (hs : s ≤ 1000) (k4 : Int32 → Int32 → MU → mR) : l_X7_freePairs_14 k4 FU (nI s) (nI c) 0 u = k4 (nI (s + cnt (fun e => !(bd (cG u) a b e c)) c)) (nI (c + 1)) u := by
  have hm := hz.2.1
  rw [show l_X7_freePairs_14 k4 FU (nI s) (nI c) 0 u = l_X7_freePairs_14 k4 FU (nI s) (nI c) (nI 0) u from rfl]
  refine for_s (L := fun F i (n : Nat) u => l_X7_freePairs_14 k4 F (nI n) (nI c) (nI i) u) (Q := fun r => r = k4 (nI (s + cnt (fun e => !(bd (cG u) a b e c)) c)) (nI (c + 1)) u) (I := fun i n v => v = u ∧ n = s + cnt (fun e => !(bd (cG u) a b e c)) i) (m := c) ?_ ?_ 0 s u FU (by omega) ⟨rfl, rfl⟩ (by unfold FU; omega)
  · rintro F i n v hi ⟨rfl, rfl⟩
    right
    obtain ⟨a1, a2, a3, a4⟩ := hz.2.2 i (by omega)
    obtain ⟨b1, b2, b3, b4⟩ := hz.2.2 c (by omega)
    rw [l_X7_freePairs_14, b_X7_freePairs_14, if_neg (fun z => absurd ((le_ (by omega) (by omega)).mp z) (by omega)), mBe (effOf_s (by omega) b3 b4), mBe (effOf_s (by omega) a3 a4), mBe (mbound hz hM hK hc (by omega)), cau_sym]
    by_cases k : cau (cG v) (12 * a i + b i) (12 * a c + b c) = 0
    · rw [if_pos k, b_X7_freePairs_42, nI_1, nI_1]
      refine ⟨_, v, rfl, rfl, ?_⟩
      rw [cnt, if_pos (by unfold bd; simp [k])]; rfl
    · rw [if_neg k, b_X7_freePairs_42, nI_1, Int32.add_zero]
      refine ⟨_, v, rfl, rfl, ?_⟩
      rw [cnt, if_neg (by unfold bd; simp [k])]; rfl
  · rintro F n v ⟨rfl, rfl⟩
    rw [l_X7_freePairs_14, b_X7_freePairs_14, if_pos ((le_ (by omega) (by omega)).mpr (by omega)), nI_1]
theorem free4_s {u : MU} {m : Nat} {a b : Nat → Nat} (hM : MK u) (hz : mz u m a b) (hK : ∀ j : Nat, j < m → u 7 (a j) = 1) : f_X7_freePairs u = some (nI (fpT (bd (cG u) a b) m), u) := by
  have hm := hz.2.1
  rw [f_X7_freePairs]
  refine for_s (L := fun F i (n : Nat) u => l_X7_freePairs_4 F (nI n) (nI i) u) (Q := fun r => r = some (nI (fpT (bd (cG u) a b) m), u)) (I := fun i n v => v = u ∧ n = fpT (bd (cG u) a b) i) (m := m) ?_ ?_ 0 0 u FU (by omega) ⟨rfl, rfl⟩ (by unfold FU; omega)
  · rintro F i n v hi ⟨rfl, rfl⟩
    right
    have h9 : fpT (bd (cG v) a b) i ≤ 300 := by
      have := fpT_le (bd (cG v) a b) i
      have : i * i ≤ 16 * 16 := Nat.mul_le_mul (by omega) (by omega)
      omega
    rw [l_X7_freePairs_4, b_X7_freePairs_4, hz.1, if_neg (fun z => absurd ((le_ (by omega) (by omega)).mp z) (by omega)), free14_s hM hz hK hi (by omega)]
    exact ⟨_, v, rfl, rfl, by rw [fpT]⟩
  · rintro F n v ⟨rfl, rfl⟩
    rw [l_X7_freePairs_4, b_X7_freePairs_4, hz.1, if_pos ((le_ (by omega) (by omega)).mpr (by omega))]
def nrm (R : Nat → Nat) (m : Nat) : Bool := (List.range m).all (fun c => decide (R c = c))
theorem nrm_iff {R : Nat → Nat} {m : Nat} : nrm R m = true ↔ ∀ c : Nat, c < m → R c = c := by
  unfold nrm
  rw [List.all_eq_true]
  simp only [List.mem_range, decide_eq_true_eq]
theorem cnorm_s {u : MU} {q m : Nat} {a b : Nat → Nat} {B : Nat → Nat → Bool} (h : LY q m a b B u) : f_X2_isNormal q u = some (if nrm (pos 2 (stg B) a b m) m = true then 1 else 0, u) := by
  have hm := h.1.2.1
  rw [f_X2_isNormal, show l_X2_isNormal_2 q FU 0 u = l_X2_isNormal_2 q FU (nI 0) u from rfl]
  refine for_s (L := fun F i (_ : Unit) u => l_X2_isNormal_2 q F (nI i) u) (Q := fun r => r = some (if nrm (pos 2 (stg B) a b m) m = true then 1 else 0, u)) (I := fun i _ v => v = u ∧ ∀ c : Nat, c < i → pos 2 (stg B) a b m c = c) (m := m) ?_ ?_ 0 () u FU (by omega) ⟨rfl, fun j hj => by omega⟩ (by unfold FU; omega)
  · rintro F i _ v hi ⟨rfl, hI⟩
    have hp : pos 2 (stg B) a b m i < m := (ah_sto 2 (stg B) a b).bound hi
    rw [l_X2_isNormal_2, b_X2_isNormal_2, h.1.1, if_neg (fun z => absurd ((le_ (by omega) (by omega)).mp z) (by omega)), gdt (ix_ (by omega) (by omega)), nc_ (by omega), h.2.2.2.2 i hi]
    by_cases c : pos 2 (stg B) a b m i = i
    · right
      rw [if_pos (by rw [c]), nI_1]
      refine ⟨(), v, rfl, rfl, fun j hj => ?_⟩
      by_cases e : j = i
      · rw [e]; exact c
      · exact hI j (by omega)
    · left
      rw [if_neg (fun z => c ((eq_ (by omega) (by omega)).mp z)), if_neg (fun z => c (nrm_iff.mp z i hi))]
  · rintro F _ v ⟨rfl, hI⟩
    rw [l_X2_isNormal_2, b_X2_isNormal_2, h.1.1, if_pos ((le_ (by omega) (by omega)).mpr (by omega)), if_pos (nrm_iff.mpr hI)]
theorem mnorm_s {u : MU} {m : Nat} {a b : Nat → Nat} {B : Nat → Nat → Bool} (h : SY m a b B u) : f_X7_isNormal u = some (if nrm (pos 2 (stg B) a b m) m = true then 1 else 0, u) := by
  obtain ⟨h1, h2, h3⟩ := h
  have hm := h1.2.1
  rw [f_X7_isNormal, show l_X7_isNormal_4 FU 1 0 u = l_X7_isNormal_4 FU 1 (nI 0) u from rfl]
  refine for_s (L := fun F i (z : Int32) u => l_X7_isNormal_4 F z (nI i) u) (Q := fun r => r = some (if nrm (pos 2 (stg B) a b m) m = true then 1 else 0, u)) (I := fun i z v => v = u ∧ z = if nrm (pos 2 (stg B) a b m) i = true then 1 else 0) (m := m) ?_ ?_ 0 1 u FU (by omega) ⟨rfl, by rw [if_pos (nrm_iff.mpr (fun c hc => by omega))]⟩ (by unfold FU; omega)
  · rintro F i z v hi ⟨rfl, rfl⟩
    right
    have hp : pos 2 (stg B) a b m i < m := (ah_sto 2 (stg B) a b).bound hi
    rw [l_X7_isNormal_4, b_X7_isNormal_4, h1.1, if_neg (fun z => absurd ((le_ (by omega) (by omega)).mp z) (by omega)), gdt (ix_ (by omega) (by omega)), nc_ (by omega), h3 i hi]
    by_cases c : pos 2 (stg B) a b m i = i
    · rw [if_pos (by rw [c]), b_X7_isNormal_27, nI_1]
      refine ⟨_, v, rfl, rfl, ?_⟩
      by_cases k : nrm (pos 2 (stg B) a b m) i = true
      · rw [if_pos k, if_pos (nrm_iff.mpr (fun j hj => by
          by_cases e : j = i
          · rw [e]; exact c
          · exact nrm_iff.mp k j (by omega)))]
      · rw [if_neg k, if_neg (fun z => k (nrm_iff.mpr (fun j hj => nrm_iff.mp z j (by omega))))]
    · rw [if_neg (fun z => c ((eq_ (by omega) (by omega)).mp z)), b_X7_isNormal_27, nI_1]
      refine ⟨_, v, rfl, rfl, ?_⟩
      rw [if_neg (fun z => c (nrm_iff.mp z i (by omega)))]
  · rintro F z v ⟨rfl, rfl⟩
    rw [l_X7_isNormal_4, b_X7_isNormal_4, h1.1, if_pos ((le_ (by omega) (by omega)).mpr (by omega))]
