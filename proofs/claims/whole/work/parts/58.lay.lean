/-- a program as it lies in the cells o, o + 1, o + 2 -/
def lz (u : MU) (o m : Nat) (a b : Nat → Nat) : Prop := u o 2 = nI m ∧ m ≤ 16 ∧ ∀ j : Nat, j < 16 → a j < 6 ∧ b j < 12 ∧ u (o + 1) j = nI (a j) ∧ u (o + 2) j = nI (b j)
theorem lz.cong {u v : MU} {o m : Nat} {a b : Nat → Nat} (h : lz u o m a b) (e0 : v o 2 = u o 2) (e1 : v (o + 1) = u (o + 1)) (e2 : v (o + 2) = u (o + 2)) : lz v o m a b := by
  unfold lz
  rw [e0, e1, e2]
  exact h
theorem lz_of {u : MU} {o : Nat} (h : prOK (u o 2) (u (o + 1)) (u (o + 2))) : ∃ m : Nat, lz u o m (fun j => (u (o + 1) j).toNatClampNeg) (fun j => (u (o + 2) j).toNatClampNeg) := by
  obtain ⟨⟨m, hm, e⟩, h2⟩ := h
  refine ⟨m, e, hm, fun j hj => ?_⟩
  obtain ⟨⟨x, hx, ex⟩, y, hy, ey⟩ := h2 j hj
  dsimp only
  rw [ex, ey, nc_ (by omega), nc_ (by omega)]
  exact ⟨hx, hy, rfl, rfl⟩
def bd (M : Nat → Nat → Int32) (a b : Nat → Nat) (e k : Nat) : Bool := decide (¬ cau M (12 * a e + b e) (12 * a k + b k) = 0)
theorem bd_fE {u v : MU} (h : ∀ k : Nat, 3 ≤ k → k ≤ 6 → v k = u k) (a b : Nat → Nat) : bd (cG v) a b = bd (cG u) a b := by
  funext e k
  unfold bd
  rw [cau_fE h]
theorem free_s {u : MU} {o m c d : Nat} {a b : Nat → Nat} (h : lz u o m a b) (hc : c < 16) (hd : d < 16) : f_X0_free o (nI c) (nI d) u = some (if bd (cG u) a b c d = true then 0 else 1, u) := by
  obtain ⟨-, -, h3⟩ := h
  obtain ⟨c1, c2, c3, c4⟩ := h3 c hc
  obtain ⟨d1, d2, d3, d4⟩ := h3 d hd
  rw [f_X0_free, gdt (ix_ hc (by omega)), gdt (ix_ hc (by omega)), gdt (ix_ hd (by omega)), gdt (ix_ hd (by omega)), nc_ (by omega), nc_ (by omega), c3, c4, d3, d4, mBe (between_s c1 c2 d1 d2)]
  unfold bd
  by_cases q : cau (cG u) (12 * a c + b c) (12 * a d + b d) = 0
  · rw [if_pos q, if_neg (by simp [q])]
  · rw [if_neg q, if_pos (by simp [q])]
theorem knowsAll_s {u : MU} {o m : Nat} {a b : Nat → Nat} (h : lz u o m a b) (hK : KN u) : (f_X0_knowsAll o u = some (1, u) ∧ ∀ j : Nat, j < m → u 7 (a j) = 1) ∨ (f_X0_knowsAll o u = some (0, u) ∧ ∃ j : Nat, j < m ∧ u 7 (a j) = 0) := by
  obtain ⟨h1, h2, h3⟩ := h
  rw [f_X0_knowsAll, ← nI_0]
  refine for_s (L := fun F i (_ : Unit) u => l_X0_knowsAll_2 o F (nI i) u) (Q := fun r => (r = some (nI 1, u) ∧ ∀ j : Nat, j < m → u 7 (a j) = 1) ∨ (r = some (nI 0, u) ∧ ∃ j : Nat, j < m ∧ u 7 (a j) = nI 0)) (I := fun i _ v => v = u ∧ ∀ j : Nat, j < i → u 7 (a j) = 1) (m := m) ?_ ?_ 0 () u FU (by omega) ⟨rfl, fun j hj => by omega⟩ (by unfold FU; omega)
  · rintro F i _ v hi ⟨rfl, hI⟩
    obtain ⟨c1, c2, c3, c4⟩ := h3 i (by omega)
    rw [l_X0_knowsAll_2, b_X0_knowsAll_2, h1, if_neg (fun q => absurd ((le_ (by omega) (by omega)).mp q) (by omega)), gdt (ix_ (by omega) (by omega)), nc_ (by omega), c3, gdt (ix_ c1 (by omega)), nc_ (by omega)]
    rcases mZ_or (hK.1 (a i) c1) with q | q
    · left; right
      rw [if_pos q]
      exact ⟨rfl, i, hi, q⟩
    · right
      rw [if_neg (by rw [q]; decide), nI_1]
      refine ⟨(), v, rfl, rfl, fun j hj => ?_⟩
      by_cases e : j = i
      · rw [e]; exact q
      · exact hI j (by omega)
  · rintro F _ v ⟨rfl, hI⟩
    left
    rw [l_X0_knowsAll_2, b_X0_knowsAll_2, h1, if_pos ((le_ (by omega) (by omega)).mpr (by omega))]
    exact ⟨rfl, hI⟩
theorem goes_s {u : MU} {q m how c d : Nat} {a b S : Nat → Nat} (h : lz u (q + 1) m a b) (hS : ∀ j : Nat, j < m → S j ≤ 16 ∧ u (q + 4) j = nI (S j)) (hh : how ≤ 2) (hc : c < m) (hd : d < m) : f_X2_goesAhead q (nI d) (nI c) (nI how) u = some (if ah how S a b d c = true then 1 else 0, u) := by
  obtain ⟨-, h2, h3⟩ := h
  obtain ⟨c1, c2, c3, c4⟩ := h3 c (by omega)
  obtain ⟨d1, d2, d3, d4⟩ := h3 d (by omega)
  obtain ⟨c5, c6⟩ := hS c hc
  obtain ⟨d5, d6⟩ := hS d hd
  have ic := ix_ (show c < 16 by omega) (show (16 : Nat) < 1000 by omega)
  have id := ix_ (show d < 16 by omega) (show (16 : Nat) < 1000 by omega)
  have nc := nc_ (show c < 1000000 by omega)
  have nd := nc_ (show d < 1000000 by omega)
  unfold f_X2_goesAhead ah
  simp only [gdt ic, gdt id, nc, nd, c3, c4, d3, d4, c6, d6]
  rcases (show how = 0 ∨ how = 1 ∨ how = 2 by omega) with rfl | rfl | rfl
  · rw [if_pos (show nI 0 = 0 from rfl), if_pos rfl]
    by_cases k : d < c
    · rw [if_neg (fun z => absurd ((le_ (by omega) (by omega)).mp z) (by omega)), if_pos (by simpa using k)]
    · rw [if_pos ((le_ (by omega) (by omega)).mpr (by omega)), if_neg (by simpa using k)]
  · rw [if_neg (show ¬ nI 1 = 0 by decide), if_neg (show ¬ (1 : Nat) = 0 by decide)]
    by_cases s : S d = S c
    · rw [if_pos (by rw [s]), if_pos (show nI 1 = 1 from rfl), if_pos s, if_pos rfl]
      by_cases k : c < d
      · rw [if_neg (fun z => absurd ((le_ (by omega) (by omega)).mp z) (by omega)), if_pos (by simpa using k)]
      · rw [if_pos ((le_ (by omega) (by omega)).mpr (by omega)), if_neg (by simpa using k)]
    · rw [if_neg (fun z => s ((eq_ (by omega) (by omega)).mp z)), if_neg s]
      by_cases k : S d < S c
      · rw [if_neg (fun z => absurd ((le_ (by omega) (by omega)).mp z) (by omega)), if_pos (by simpa using k)]
      · rw [if_pos ((le_ (by omega) (by omega)).mpr (by omega)), if_neg (by simpa using k)]
  · rw [if_neg (show ¬ nI 2 = 0 by decide), if_neg (show ¬ (2 : Nat) = 0 by decide)]
    by_cases s : S d = S c
    · rw [if_pos (by rw [s]), if_neg (show ¬ nI 2 = 1 by decide), if_pos s, if_neg (show ¬ (2 : Nat) = 1 by decide)]
      by_cases e : a d = a c
      · rw [if_pos (by rw [e]), if_pos e]
        by_cases f : b d = b c
        · rw [if_pos (by rw [f]), if_pos f]
          by_cases k : d < c
          · rw [if_neg (fun z => absurd ((le_ (by omega) (by omega)).mp z) (by omega)), if_pos (by simpa using k)]
          · rw [if_pos ((le_ (by omega) (by omega)).mpr (by omega)), if_neg (by simpa using k)]
        · rw [if_neg (fun z => f ((eq_ (by omega) (by omega)).mp z)), if_neg f]
          by_cases k : b d < b c
          · rw [if_neg (fun z => absurd ((le_ (by omega) (by omega)).mp z) (by omega)), if_pos (by simpa using k)]
          · rw [if_pos ((le_ (by omega) (by omega)).mpr (by omega)), if_neg (by simpa using k)]
      · rw [if_neg (fun z => e ((eq_ (by omega) (by omega)).mp z)), if_neg e]
        by_cases k : a d < a c
        · rw [if_neg (fun z => absurd ((le_ (by omega) (by omega)).mp z) (by omega)), if_pos (by simpa using k)]
        · rw [if_pos ((le_ (by omega) (by omega)).mpr (by omega)), if_neg (by simpa using k)]
    · rw [if_neg (fun z => s ((eq_ (by omega) (by omega)).mp z)), if_neg s]
      by_cases k : S d < S c
      · rw [if_neg (fun z => absurd ((le_ (by omega) (by omega)).mp z) (by omega)), if_pos (by simpa using k)]
      · rw [if_pos ((le_ (by omega) (by omega)).mpr (by omega)), if_neg (by simpa using k)]
theorem pos_s {u : MU} {q m how c : Nat} {a b S : Nat → Nat} (h : lz u (q + 1) m a b) (hS : ∀ j : Nat, j < m → S j ≤ 16 ∧ u (q + 4) j = nI (S j)) (hh : how ≤ 2) (hc : c < m) : f_X2_position q (nI c) (nI how) u = some (nI (pos how S a b m c), u) := by
  have hm := h.2.1
  rw [f_X2_position]
  refine for_s (L := fun F i (n : Nat) u => l_X2_position_5 q (nI c) (nI how) F (nI n) (nI i) u) (Q := fun r => r = some (nI (pos how S a b m c), u)) (I := fun i n v => v = u ∧ n = cnt (fun d => ah how S a b d c) i) (m := m) ?_ ?_ 0 0 u FU (by omega) ⟨rfl, rfl⟩ (by unfold FU; omega)
  · rintro F i n v hi ⟨rfl, rfl⟩
    right
    rw [l_X2_position_5, b_X2_position_5, h.1, if_neg (fun z => absurd ((le_ (by omega) (by omega)).mp z) (by omega))]
    by_cases e : i = c
    · rw [if_pos (by rw [e]), b_X2_position_37, nI_1]
      refine ⟨_, v, rfl, rfl, ?_⟩
      rw [cnt, e, (ah_sto how S a b).1 c, if_neg (by decide), Nat.add_zero]
    · rw [if_neg (fun z => e ((eq_ (by omega) (by omega)).mp z)), mBe (goes_s h hS hh hc hi)]
      by_cases k : ah how S a b i c = true
      · rw [if_pos k, if_neg (by decide), b_X2_position_37, nI_1, nI_1]
        refine ⟨_, v, rfl, rfl, ?_⟩
        rw [cnt, if_pos k]
      · rw [if_neg k, if_pos rfl, b_X2_position_37, nI_1]
        refine ⟨_, v, rfl, rfl, ?_⟩
        rw [cnt, if_neg k, Nat.add_zero]
  · rintro F n v ⟨rfl, rfl⟩
    rw [l_X2_position_5, b_X2_position_5, h.1, if_pos ((le_ (by omega) (by omega)).mpr (by omega))]
    rfl
theorem max_s {x y : Nat} (hx : x < 1000000) (hy : y < 1000000) (u : MU) : f_J9_max_7cf53 (nI x) (nI y) u = some (nI (max x y), u) := by
  rw [f_J9_max_7cf53]
  by_cases c : x < y
  · rw [if_pos ((lt_ hx hy).mpr c), Nat.max_eq_right (by omega)]
  · rw [if_neg (fun z => c ((lt_ hx hy).mp z)), Nat.max_eq_left (by omega)]
def LF (q : Nat) (u v : MU) : Prop := ∀ k : Nat, (k < q ∨ q + 6 < k) → v k = u k
theorem LF.up {q : Nat} {u v : MU} {k j : Nat} {x : Int32} (h : LF q u v) (hk : q ≤ k ∧ k ≤ q + 6) : LF q u (mup v k j x) := fun i hi => by rw [mup_ne (by omega)]; exact h i hi
/-- the layout, up to call c -/
def LI (q m : Nat) (a b : Nat → Nat) (u0 : MU) (c : Nat) (v : MU) : Prop := lz v (q + 1) m a b ∧ LF q u0 v ∧ v q 4 = nI (smx (stg (bd (cG u0) a b)) c) ∧ v q 5 = nI (fpT (bd (cG u0) a b) c) ∧ ∀ e : Nat, e < c → v (q + 4) e = nI (stg (bd (cG u0) a b) e)
theorem lay41_s {u0 u : MU} {q m c : Nat} {a b : Nat → Nat} (hq : 7 ≤ q) (hc : c < m) (k20 : Int32 → MU → mR) (h : LI q m a b u0 c u) (hz : u (q + 4) c = 0) : ∃ v : MU, l_X2_lay_41 k20 q FU (nI c) 0 u = k20 (nI (c + 1)) v ∧ LI q m a b u0 (c + 1) v := by
  have hm := h.1.2.1
  generalize hB : bd (cG u0) a b = B at h
  have hSle : ∀ e : Nat, stg B e ≤ e := fun e => stg_le B (e + 1) e (by omega)
  unfold LI at h ⊢
  rw [hB] at h ⊢
  rw [← nI_0]
  refine for_s (L := fun F i (_ : Unit) u => l_X2_lay_41 k20 q F (nI c) (nI i) u) (Q := fun r => ∃ v : MU, r = k20 (nI (c + 1)) v ∧ lz v (q + 1) m a b ∧ LF q u0 v ∧ v q 4 = nI (smx (stg B) (c + 1)) ∧ v q 5 = nI (fpT B (c + 1)) ∧ ∀ e : Nat, e < c + 1 → v (q + 4) e = nI (stg B e)) (I := fun i _ v => lz v (q + 1) m a b ∧ LF q u0 v ∧ v q 4 = nI (smx (stg B) c) ∧ v q 5 = nI (fpT B c + cnt (fun e => !(B e c)) i) ∧ (∀ e : Nat, e < c → v (q + 4) e = nI (stg B e)) ∧ v (q + 4) c = nI (stI B (stg B) c i)) (m := c) ?_ ?_ 0 () u FU (by omega) ⟨h.1, h.2.1, h.2.2.1, by rw [h.2.2.2.1]; rfl, h.2.2.2.2, by rw [hz]; rfl⟩ (by unfold FU; omega)
  · rintro F i _ v hi ⟨i1, i2, i3, i4, i5, i6⟩
    right
    have eB : bd (cG v) a b = B := by rw [← hB]; exact bd_fE (fun k _ _ => i2 k (by omega)) a b
    rw [l_X2_lay_41, b_X2_lay_41, if_neg (fun z => absurd ((le_ (by omega) (by omega)).mp z) (by omega)), mBe (free_s i1 (by omega) (by omega)), eB]
    have hst : stI B (stg B) c i ≤ i := stI_le i (fun e _ => hSle e)
    have hsi := hSle i
    by_cases k : B i c = true
    · rw [if_pos k, if_pos rfl, gdt (ix_ (by omega) (by omega)), gdt (ix_ (by omega) (by omega)), nc_ (by omega), nc_ (by omega), i6, i5 i hi, nI_1, mBe (max_s (by omega) (by omega) v), gdt (ix_ (by omega) (by omega)), mSe, b_X2_lay_98, nI_1]
      refine ⟨(), _, rfl, i1.cong (by rw [mup_ne (by omega)]) (mup_ne (by omega)) (mup_ne (by omega)), i2.up (by omega), by rw [mup_ne (by omega)]; exact i3, by rw [mup_ne (by omega), cnt, k]; exact i4, fun e he => by rw [mup_sne (by omega)]; exact i5 e he, ?_⟩
      rw [mup_self, stI, if_pos k]
    · have k' : B i c = false := by simpa using k
      have h9 : fpT B c ≤ 300 := by
        have := fpT_le B c
        have : c * c ≤ 16 * 16 := Nat.mul_le_mul (by omega) (by omega)
        omega
      have h8 := cnt_le (fun e => !(B e c)) i
      rw [if_neg k, if_neg (by decide), mSe, b_X2_lay_98, i4, nI_1, nI_1]
      refine ⟨(), _, rfl, i1.cong (by rw [mup_ne (by omega)]) (mup_ne (by omega)) (mup_ne (by omega)), i2.up (by omega), by rw [mup_sne (by decide)]; exact i3, by rw [mup_self, cnt, k', if_pos (by decide), Nat.add_assoc], fun e he => by rw [mup_ne (by omega)]; exact i5 e he, ?_⟩
      rw [mup_ne (by omega), stI, if_neg k]
      exact i6
  · rintro F _ v ⟨i1, i2, i3, i4, i5, i6⟩
    have hst : stI B (stg B) c c ≤ c := stI_le c (fun e _ => hSle e)
    have hsm := smx_le (S := stg B) c (fun e _ => hSle e)
    rw [l_X2_lay_41, b_X2_lay_41, if_pos ((le_ (by omega) (by omega)).mpr (by omega)), gdt (ix_ (by omega) (by omega)), nc_ (by omega), i6, i3, nI_1, mBe (max_s (by omega) (by omega) v), mSe, nI_1]
    refine ⟨_, rfl, i1.cong (by rw [mup_ne (by omega)]) (mup_ne (by omega)) (mup_ne (by omega)), i2.up (by omega), ?_, ?_, fun e he => ?_⟩
    · rw [mup_self, smx, stg_eq B c]
    · rw [mup_sne (by decide), fpT]; exact i4
    · rw [mup_ne (by omega)]
      by_cases ee : e = c
      · rw [ee, stg_eq B c]; exact i6
      · exact i5 e (by omega)
/-- a program is laid in stages -/
def LY (q m : Nat) (a b : Nat → Nat) (B : Nat → Nat → Bool) (v : MU) : Prop := lz v (q + 1) m a b ∧ v q 4 = nI (smx (stg B) m) ∧ v q 5 = nI (fpT B m) ∧ (∀ c : Nat, c < m → v (q + 4) c = nI (stg B c)) ∧ ∀ c : Nat, c < m → v (q + 5) c = nI (pos 2 (stg B) a b m c)
theorem stg16 {B : Nat → Nat → Bool} {m : Nat} (hm : m ≤ 16) {j : Nat} (hj : j < m) : stg B j ≤ 16 := by
  have := stg_le B (j + 1) j (by omega)
  omega
theorem lay131_s {u0 u : MU} {q m : Nat} {a b : Nat → Nat} (h : LI q m a b u0 m u) : ∃ v : MU, l_X2_lay_131 q FU 0 u = some (0, v) ∧ LY q m a b (bd (cG u0) a b) v ∧ LF q u0 v := by
  have hm := h.1.2.1
  unfold LI at h
  unfold LY
  generalize bd (cG u0) a b = B at h
  rw [← nI_0]
  refine for_s (L := fun F i (_ : Unit) u => l_X2_lay_131 q F (nI i) u) (Q := fun r => ∃ v : MU, r = some (nI 0, v) ∧ (lz v (q + 1) m a b ∧ v q 4 = nI (smx (stg B) m) ∧ v q 5 = nI (fpT B m) ∧ (∀ c : Nat, c < m → v (q + 4) c = nI (stg B c)) ∧ ∀ c : Nat, c < m → v (q + 5) c = nI (pos 2 (stg B) a b m c)) ∧ LF q u0 v) (I := fun i _ v => lz v (q + 1) m a b ∧ LF q u0 v ∧ v q 4 = nI (smx (stg B) m) ∧ v q 5 = nI (fpT B m) ∧ (∀ c : Nat, c < m → v (q + 4) c = nI (stg B c)) ∧ ∀ c : Nat, c < i → v (q + 5) c = nI (pos 2 (stg B) a b m c)) (m := m) ?_ ?_ 0 () u FU (by omega) ⟨h.1, h.2.1, h.2.2.1, h.2.2.2.1, h.2.2.2.2, fun c hc => by omega⟩ (by unfold FU; omega)
  · rintro F i _ v hi ⟨i1, i2, i3, i4, i5, i6⟩
    right
    rw [l_X2_lay_131, b_X2_lay_131, i1.1, if_neg (fun z => absurd ((le_ (by omega) (by omega)).mp z) (by omega)), mBe (pos_s (S := stg B) i1 (fun j hj => ⟨stg16 hm hj, i5 j hj⟩) (by omega) hi), gdt (ix_ (by omega) (by omega)), mSe, nc_ (by omega), nI_1]
    refine ⟨(), _, rfl, i1.cong (by rw [mup_ne (by omega)]) (mup_ne (by omega)) (mup_ne (by omega)), i2.up (by omega), by rw [mup_ne (by omega)]; exact i3, by rw [mup_ne (by omega)]; exact i4, fun e he => by rw [mup_ne (by omega)]; exact i5 e he, fun c hc => ?_⟩
    by_cases e : c = i
    · rw [e, mup_self]
    · rw [mup_sne e]; exact i6 c (by omega)
  · rintro F _ v ⟨i1, i2, i3, i4, i5, i6⟩
    rw [l_X2_lay_131, b_X2_lay_131, i1.1, if_pos ((le_ (by omega) (by omega)).mpr (by omega))]
    exact ⟨v, rfl, ⟨i1, i3, i4, i5, i6⟩, i2⟩
theorem lay_s {u : MU} {q p m : Nat} {a b : Nat → Nat} (hq : 7 ≤ q) (hp : q + 3 < p ∨ p + 2 < q + 1) (h : lz u p m a b) : ∃ v : MU, f_X2_lay q p u = some (0, v) ∧ LY q m a b (bd (cG u) a b) v ∧ LF q u v := by
  obtain ⟨h1, h2, h3⟩ := h
  obtain ⟨w, w1, w2, w3, w4⟩ := copy_s (q + 1) p u (by omega)
  rw [f_X2_lay, mBe w1, mSe, mSe]
  have hw : LF q u (mup (mup w q 4 0) q 5 0) := LF.up (LF.up (fun k hk => w4 k (by omega)) (by omega)) (by omega)
  have hz : lz (mup (mup w q 4 0) q 5 0) (q + 1) m a b := by
    refine ⟨by rw [mup_ne (by omega), mup_ne (by omega), w2]; exact h1, h2, fun j hj => ?_⟩
    rw [mup_ne (by omega), mup_ne (by omega), mup_ne (by omega), mup_ne (by omega), (w3 j hj).1, (w3 j hj).2]
    exact h3 j hj
  rw [← nI_0]
  rw [nI_0]
  rw [show l_X2_lay_20 q FU 0 (mup (mup w q 4 0) q 5 0) = l_X2_lay_20 q FU (nI 0) (mup (mup w q 4 0) q 5 0) from rfl]
  refine for_s (L := fun F i (_ : Unit) u => l_X2_lay_20 q F (nI i) u) (Q := fun r => ∃ v : MU, r = some (0, v) ∧ LY q m a b (bd (cG u) a b) v ∧ LF q u v) (I := fun i _ v => LI q m a b u i v) (m := m) ?_ ?_ 0 () _ FU (by omega) ⟨hz, hw, by rw [mup_sne (by decide), mup_self]; rfl, by rw [mup_self]; rfl, fun e he => by omega⟩ (by unfold FU; omega)
  · rintro F i _ v hi hI
    right
    rw [l_X2_lay_20, b_X2_lay_20, hI.1.1, if_neg (fun z => absurd ((le_ (by omega) (by omega)).mp z) (by omega)), gdt (ix_ (by omega) (by omega)), mSe, nc_ (by omega)]
    have hI' : LI q m a b u i (mup v (q + 4) i 0) := by
      obtain ⟨i1, i2, i3, i4, i5⟩ := hI
      exact ⟨i1.cong (by rw [mup_ne (by omega)]) (mup_ne (by omega)) (mup_ne (by omega)), i2.up (by omega), by rw [mup_ne (by omega)]; exact i3, by rw [mup_ne (by omega)]; exact i4, fun e he => by rw [mup_sne (by omega)]; exact i5 e he⟩
    obtain ⟨t, t1, t2⟩ := lay41_s hq hi (fun x3 u => l_X2_lay_20 q F x3 u) hI' mup_self
    exact ⟨(), t, t1, t2⟩
  · rintro F _ v hI
    rw [l_X2_lay_20, b_X2_lay_20, hI.1.1, if_pos ((le_ (by omega) (by omega)).mpr (by omega))]
    exact lay131_s hI
theorem arr_s {v : MU} {q m how : Nat} {a b : Nat → Nat} {B : Nat → Nat → Bool} (h : LY q m a b B v) (hh : how ≤ 2) : ∃ w : MU, f_X2_arrange q (nI how) v = some (0, w) ∧ (∀ k : Nat, k ≠ q + 6 → w k = v k) ∧ ∀ c : Nat, c < m → w (q + 6) (pos how (stg B) a b m c) = nI c := by
  have hm := h.1.2.1
  have hst := ah_sto how (stg B) a b
  rw [f_X2_arrange, show l_X2_arrange_2 q (nI how) FU 0 v = l_X2_arrange_2 q (nI how) FU (nI 0) v from rfl]
  refine for_s (L := fun F i (_ : Unit) u => l_X2_arrange_2 q (nI how) F (nI i) u) (Q := fun r => ∃ w : MU, r = some (0, w) ∧ (∀ k : Nat, k ≠ q + 6 → w k = v k) ∧ ∀ c : Nat, c < m → w (q + 6) (pos how (stg B) a b m c) = nI c) (I := fun i _ w => (∀ k : Nat, k ≠ q + 6 → w k = v k) ∧ ∀ c : Nat, c < i → w (q + 6) (pos how (stg B) a b m c) = nI c) (m := m) ?_ ?_ 0 () v FU (by omega) ⟨fun _ _ => rfl, fun c hc => by omega⟩ (by unfold FU; omega)
  · rintro F i _ w hi ⟨i1, i2⟩
    right
    have hl : lz w (q + 1) m a b := h.1.cong (by rw [i1 (q + 1) (by omega)]) (i1 _ (by omega)) (i1 _ (by omega))
    have hp : pos how (stg B) a b m i < m := hst.bound hi
    rw [l_X2_arrange_2, b_X2_arrange_2, hl.1, if_neg (fun z => absurd ((le_ (by omega) (by omega)).mp z) (by omega)), mBe (pos_s (S := stg B) hl (fun j hj => ⟨stg16 hm hj, by rw [i1 (q + 4) (by omega)]; exact h.2.2.2.1 j hj⟩) hh hi), gdt (ix_ (by omega) (by omega)), mSe, nc_ (by omega), nI_1]
    refine ⟨(), _, rfl, fun k hk => by rw [mup_ne hk]; exact i1 k hk, fun c hc => ?_⟩
    by_cases e : c = i
    · rw [e, mup_self]
    · rw [mup_sne (show pos how (stg B) a b m c ≠ pos how (stg B) a b m i from fun z => e (hst.inj (by omega) hi z))]
      exact i2 c (by omega)
  · rintro F _ w ⟨i1, i2⟩
    rw [l_X2_arrange_2, b_X2_arrange_2, i1 (q + 1) (by omega), h.1.1, if_pos ((le_ (by omega) (by omega)).mpr (by omega))]
    exact ⟨w, rfl, i1, i2⟩
