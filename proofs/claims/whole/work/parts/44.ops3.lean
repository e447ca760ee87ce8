theorem cz0 : (0 : Int32).toNatClampNeg = 0 := rfl
theorem cpy_in {f g : Nat → Int32} {n j : Nat} (h : j < n) : va_cpy f g 0 0 n j = f j := by
  rw [pk_cpy_in (by omega) (by omega)]
  congr 1
  omega
theorem copy_s (q p : Nat) (u : MU) (hpq : q + 2 < p ∨ p + 2 < q) : ∃ v : MU, f_X4_copyFrom q p u = some (0, v) ∧ v q 2 = u p 2 ∧ (∀ j : Nat, j < 16 → v (q + 1) j = u (p + 1) j ∧ v (q + 2) j = u (p + 2) j) ∧ ∀ k : Nat, (k < q ∨ q + 2 < k) → v k = u k := by
  rw [f_X4_copyFrom, mSe, mSe, mSe]
  refine ⟨_, rfl, ?_, fun j hj => ⟨?_, ?_⟩, fun k hk => ?_⟩
  · rw [mup_self, mrow_get, if_neg (by omega), mrow_get, if_neg (by omega)]
  · rw [mup_ne (by omega), mrow_get, if_neg (by omega), mrow_get, if_pos rfl, cz0, nc_ (by omega), cpy_in hj]
  · rw [mup_ne (by omega), mrow_get, if_pos rfl, cz0, nc_ (by omega), cpy_in hj, mrow_get, if_neg (by omega)]
  · rw [mup_ne (by omega), mrow_get, if_neg (by omega), mrow_get, if_neg (by omega)]
/-- a row is written out -/
theorem pasW_l {q n b : Nat} (hq : q = 91 ∨ q = 92 ∨ q = 93) (hn : n ≤ mLen q) (hl : mLen q < 1000) (hb : b + n ≤ 102) : ∀ (d i F : Nat) (u : MU), n - i ≤ d → d < F → i ≤ n → u 88 38 = 1 → u 88 37 = nI (b + i) → ∃ v : MU, l_X7_passRow_2 q (nI n) F (nI i) u = some (0, v) ∧ v 88 37 = nI (b + n) ∧ (∀ j : Nat, v 109 j = if b + i ≤ j ∧ j < b + n then u q (j - b) else u 109 j) ∧ (∀ k : Nat, k ≠ 88 → k ≠ 109 → v k = u k) ∧ ∀ j : Nat, j ≠ 37 → v 88 j = u 88 j := by
  intro d
  have exit : ∀ (i F : Nat) (u : MU), 0 < F → n ≤ i → i ≤ n → u 88 37 = nI (b + i) → ∃ v : MU, l_X7_passRow_2 q (nI n) F (nI i) u = some (0, v) ∧ v 88 37 = nI (b + n) ∧ (∀ j : Nat, v 109 j = if b + i ≤ j ∧ j < b + n then u q (j - b) else u 109 j) ∧ (∀ k : Nat, k ≠ 88 → k ≠ 109 → v k = u k) ∧ ∀ j : Nat, j ≠ 37 → v 88 j = u 88 j := by
    intro i F u h1 h2 h3 h4
    obtain ⟨F, rfl⟩ : ∃ g, F = g + 1 := ⟨F - 1, by omega⟩
    have e : i = n := by omega
    subst e
    rw [l_X7_passRow_2, b_X7_passRow_2, if_pos ((le_ (by omega) (by omega)).mpr h2)]
    exact ⟨u, rfl, h4, fun j => by rw [if_neg (by omega)], fun k _ _ => rfl, fun j _ => rfl⟩
  induction d with
  | zero => intro i F u h1 h2 h3 h4 h5; exact exit i F u (by omega) (by omega) h3 h5
  | succ d ih =>
    intro i F u h1 h2 h3 h4 h5
    by_cases hi : i < n
    · obtain ⟨F, rfl⟩ : ∃ g, F = g + 1 := ⟨F - 1, by omega⟩
      have e1 : mup u q i (u q i) = u := mup_id rfl
      rw [l_X7_passRow_2, b_X7_passRow_2, if_neg (fun z => absurd ((le_ (by omega) (by omega)).mp z) (by omega)), h4, if_neg (by decide), gdt (ix_ (by omega) hl), b_X7_passRow_31, gdt (ix_ (by omega) hl), mSe, nc_ (by omega), e1, gdt (ix_ (by omega) hl), h5, gdt (ix_ (by omega) (by omega)), mSe, nc_ (by omega), mup_ne (by decide), h5, nI_1, mSe, nI_1]
      obtain ⟨v, g1, g2, g3, g4, g5⟩ := ih (i + 1) F (mup (mup u 109 (b + i) (u q i)) 88 37 (nI (b + i + 1))) (by omega) (by omega) (by omega) (by rw [mup_sne (by decide), mup_ne (by decide)]; exact h4) mup_self
      refine ⟨v, g1, g2, fun j => ?_, fun k k1 k2 => ?_, fun j hj => ?_⟩
      · rw [g3, mup_ne (show q ≠ 88 by omega), mup_ne (show q ≠ 109 by omega), mup_ne (show (109 : Nat) ≠ 88 by decide)]
        by_cases e : j = b + i
        · subst e
          rw [if_neg (by omega), if_pos (by omega), mup_self, show b + i - b = i by omega]
        · rw [mup_sne e]
          by_cases c : b + (i + 1) ≤ j ∧ j < b + n
          · rw [if_pos c, if_pos (by omega)]
          · rw [if_neg c, if_neg (by omega)]
      · rw [g4 k k1 k2, mup_ne k1, mup_ne k2]
      · rw [g5 j hj, mup_sne hj, mup_ne (by decide)]
    · exact exit i F u (by omega) (by omega) h3 h5
/-- a row is read in -/
theorem pasR_l {q n b : Nat} (hq : q = 91 ∨ q = 92 ∨ q = 93) (hn : n ≤ mLen q) (hl : mLen q < 1000) (hb : b + n ≤ 102) : ∀ (d i F : Nat) (u : MU), n - i ≤ d → d < F → i ≤ n → u 88 38 = 0 → u 88 37 = nI (b + i) → ∃ v : MU, l_X7_passRow_2 q (nI n) F (nI i) u = some (0, v) ∧ v 88 37 = nI (b + n) ∧ (∀ j : Nat, v q j = if i ≤ j ∧ j < n then u 109 (b + j) else u q j) ∧ (∀ k : Nat, k ≠ 88 → k ≠ q → v k = u k) ∧ ∀ j : Nat, j ≠ 37 → v 88 j = u 88 j := by
  intro d
  have exit : ∀ (i F : Nat) (u : MU), 0 < F → n ≤ i → i ≤ n → u 88 37 = nI (b + i) → ∃ v : MU, l_X7_passRow_2 q (nI n) F (nI i) u = some (0, v) ∧ v 88 37 = nI (b + n) ∧ (∀ j : Nat, v q j = if i ≤ j ∧ j < n then u 109 (b + j) else u q j) ∧ (∀ k : Nat, k ≠ 88 → k ≠ q → v k = u k) ∧ ∀ j : Nat, j ≠ 37 → v 88 j = u 88 j := by
    intro i F u h1 h2 h3 h4
    obtain ⟨F, rfl⟩ : ∃ g, F = g + 1 := ⟨F - 1, by omega⟩
    have e : i = n := by omega
    subst e
    rw [l_X7_passRow_2, b_X7_passRow_2, if_pos ((le_ (by omega) (by omega)).mpr h2)]
    exact ⟨u, rfl, h4, fun j => by rw [if_neg (by omega)], fun k _ _ => rfl, fun j _ => rfl⟩
  induction d with
  | zero => intro i F u h1 h2 h3 h4 h5; exact exit i F u (by omega) (by omega) h3 h5
  | succ d ih =>
    intro i F u h1 h2 h3 h4 h5
    by_cases hi : i < n
    · obtain ⟨F, rfl⟩ : ∃ g, F = g + 1 := ⟨F - 1, by omega⟩
      have e1 : mup (mup u q i (u 109 (b + i))) 109 (b + i) (u 109 (b + i)) = mup u q i (u 109 (b + i)) := mup_id (by rw [mup_ne (by omega)])
      rw [l_X7_passRow_2, b_X7_passRow_2, if_neg (fun z => absurd ((le_ (by omega) (by omega)).mp z) (by omega)), h4, if_pos rfl, h5, gdt (ix_ (by omega) (by omega)), nc_ (by omega), b_X7_passRow_31, gdt (ix_ (by omega) hl), mSe, nc_ (by omega), gdt (ix_ (by omega) hl), mup_ne (show (88 : Nat) ≠ q by omega), h5, gdt (ix_ (by omega) (by omega)), mSe, nc_ (by omega), mup_self, e1, mup_ne (show (88 : Nat) ≠ q by omega), h5, nI_1, mSe, nI_1]
      obtain ⟨v, g1, g2, g3, g4, g5⟩ := ih (i + 1) F (mup (mup u q i (u 109 (b + i))) 88 37 (nI (b + i + 1))) (by omega) (by omega) (by omega) (by rw [mup_sne (by decide), mup_ne (by omega)]; exact h4) mup_self
      refine ⟨v, g1, g2, fun j => ?_, fun k k1 k2 => ?_, fun j hj => ?_⟩
      · rw [g3, mup_ne (show q ≠ 88 by omega), mup_ne (show (109 : Nat) ≠ 88 by decide), mup_ne (show (109 : Nat) ≠ q by omega)]
        by_cases e : j = i
        · subst e
          rw [if_neg (by omega), if_pos (by omega), mup_self]
        · rw [mup_sne e]
          by_cases c : i + 1 ≤ j ∧ j < n
          · rw [if_pos c, if_pos (by omega)]
          · rw [if_neg c, if_neg (by omega)]
      · rw [g4 k k1 k2, mup_ne k1, mup_ne k2]
      · rw [g5 j hj, mup_sne hj, mup_ne (by omega)]
    · exact exit i F u (by omega) (by omega) h3 h5
theorem len91 : mLen 91 = 18 := by decide +kernel
theorem len92 : mLen 92 = 16 := by decide +kernel
theorem len93 : mLen 93 = 16 := by decide +kernel
theorem len8 : mLen 8 = 18 := by decide +kernel
theorem pasW_s {u : MU} {k : Nat} (hk : k < 2) (h38 : u 88 38 = 1) (h37 : u 88 37 = nI (51 * k)) : ∃ v : MU, f_X7_passAll u = some (0, v) ∧ (∀ j : Nat, v 109 j = if 51 * k ≤ j ∧ j < 51 * k + 18 then u 91 (j - 51 * k) else if 51 * k + 18 ≤ j ∧ j < 51 * k + 34 then u 92 (j - (51 * k + 18)) else if 51 * k + 34 ≤ j ∧ j < 51 * k + 50 then u 93 (j - (51 * k + 34)) else if j = 51 * k + 50 then u 88 5 else u 109 j) ∧ (∀ a : Nat, a ≠ 88 → a ≠ 109 → v a = u a) ∧ v 88 5 = u 88 5 := by
  obtain ⟨v1, a1, a2, a3, a4, a5⟩ := pasW_l (q := 91) (n := 18) (b := 51 * k) (by omega) (by rw [len91]; omega) (by rw [len91]; omega) (by omega) 18 0 FU u (by omega) (by unfold FU; omega) (by omega) h38 h37
  obtain ⟨v2, b1, b2, b3, b4, b5⟩ := pasW_l (q := 92) (n := 16) (b := 51 * k + 18) (by omega) (by rw [len92]; omega) (by rw [len92]; omega) (by omega) 16 0 FU v1 (by omega) (by unfold FU; omega) (by omega) (by rw [a5 38 (by decide)]; exact h38) a2
  obtain ⟨v3, c1, c2, c3, c4, c5⟩ := pasW_l (q := 93) (n := 16) (b := 51 * k + 18 + 16) (by omega) (by rw [len93]; omega) (by rw [len93]; omega) (by omega) 16 0 FU v2 (by omega) (by unfold FU; omega) (by omega) (by rw [b5 38 (by decide), a5 38 (by decide)]; exact h38) b2
  have w38 : v3 88 38 = 1 := by rw [c5 38 (by decide), b5 38 (by decide), a5 38 (by decide)]; exact h38
  have w5 : v3 88 5 = u 88 5 := by rw [c5 5 (by decide), b5 5 (by decide), a5 5 (by decide)]
  rw [f_X7_passAll, f_X7_passRow, show (0 : Int32) = nI 0 from rfl, mBe a1, f_X7_passRow, show (0 : Int32) = nI 0 from rfl, mBe b1, f_X7_passRow, show (0 : Int32) = nI 0 from rfl, mBe c1, w38, if_neg (by decide), b_X7_passAll_54, mSe, mup_id rfl, c2, gdt (ix_ (by omega) (by omega)), mSe, nc_ (by omega)]
  refine ⟨_, rfl, fun j => ?_, fun a h1 h2 => ?_, ?_⟩
  · rw [mup_get, if_pos rfl, w5]
    by_cases e : j = 51 * k + 18 + 16 + 16
    · rw [if_pos e, if_neg (by omega), if_neg (by omega), if_neg (by omega), if_pos (by omega)]
    · rw [if_neg e, c3]
      by_cases d3 : 51 * k + 34 ≤ j ∧ j < 51 * k + 50
      · rw [if_pos (by omega), if_neg (by omega), if_neg (by omega), if_pos d3, b4 93 (by decide) (by decide), a4 93 (by decide) (by decide)]
      · rw [if_neg (by omega), b3]
        by_cases d2 : 51 * k + 18 ≤ j ∧ j < 51 * k + 34
        · rw [if_pos (by omega), if_neg (by omega), if_pos d2, a4 92 (by decide) (by decide)]
        · rw [if_neg (by omega), a3]
          by_cases d1 : 51 * k ≤ j ∧ j < 51 * k + 18
          · rw [if_pos (by omega), if_pos d1]
          · rw [if_neg (by omega), if_neg d1, if_neg d2, if_neg d3, if_neg (by omega)]
  · rw [mup_ne h2, c4 a h1 h2, b4 a h1 h2, a4 a h1 h2]
  · rw [mup_ne (by decide), w5]
theorem pasR_s {u : MU} {k : Nat} (hk : k < 2) (h38 : u 88 38 = 0) (h37 : u 88 37 = nI (51 * k)) : ∃ v : MU, f_X7_passAll u = some (0, v) ∧ (∀ j : Nat, j < 18 → v 91 j = u 109 (51 * k + j)) ∧ (∀ j : Nat, j < 16 → v 92 j = u 109 (51 * k + 18 + j) ∧ v 93 j = u 109 (51 * k + 34 + j)) ∧ v 88 5 = u 109 (51 * k + 50) ∧ ∀ a : Nat, a ≠ 88 → a ≠ 91 → a ≠ 92 → a ≠ 93 → v a = u a := by
  obtain ⟨v1, a1, a2, a3, a4, a5⟩ := pasR_l (q := 91) (n := 18) (b := 51 * k) (by omega) (by rw [len91]; omega) (by rw [len91]; omega) (by omega) 18 0 FU u (by omega) (by unfold FU; omega) (by omega) h38 h37
  obtain ⟨v2, b1, b2, b3, b4, b5⟩ := pasR_l (q := 92) (n := 16) (b := 51 * k + 18) (by omega) (by rw [len92]; omega) (by rw [len92]; omega) (by omega) 16 0 FU v1 (by omega) (by unfold FU; omega) (by omega) (by rw [a5 38 (by decide)]; exact h38) a2
  obtain ⟨v3, c1, c2, c3, c4, c5⟩ := pasR_l (q := 93) (n := 16) (b := 51 * k + 18 + 16) (by omega) (by rw [len93]; omega) (by rw [len93]; omega) (by omega) 16 0 FU v2 (by omega) (by unfold FU; omega) (by omega) (by rw [b5 38 (by decide), a5 38 (by decide)]; exact h38) b2
  have w38 : v3 88 38 = 0 := by rw [c5 38 (by decide), b5 38 (by decide), a5 38 (by decide)]; exact h38
  have w109 : v3 109 = u 109 := by rw [c4 109 (by decide) (by decide), b4 109 (by decide) (by decide), a4 109 (by decide) (by decide)]
  have e1 : ∀ (j : Nat) (x : Int32), x = u 109 (51 * k + 18 + 16 + 16) → mup (mup v3 88 5 x) 109 (51 * k + 18 + 16 + 16) x = mup v3 88 5 x := fun j x hx => mup_id (by rw [mup_ne (by decide), w109, hx])
  rw [f_X7_passAll, f_X7_passRow, show (0 : Int32) = nI 0 from rfl, mBe a1, f_X7_passRow, show (0 : Int32) = nI 0 from rfl, mBe b1, f_X7_passRow, show (0 : Int32) = nI 0 from rfl, mBe c1, w38, if_pos (show (0 : Int32) = nI 0 from rfl), c2, gdt (ix_ (by omega) (by omega)), nc_ (by omega), b_X7_passAll_54, mSe, mup_sne (by decide), c2, gdt (ix_ (by omega) (by omega)), mSe, nc_ (by omega), mup_self, w109, e1 0 _ rfl]
  refine ⟨_, rfl, fun j hj => ?_, fun j hj => ⟨?_, ?_⟩, ?_, fun a h1 h2 h3 h4 => ?_⟩
  · rw [mup_ne (by decide), c4 91 (by decide) (by decide), b4 91 (by decide) (by decide), a3, if_pos (by omega)]
  · rw [mup_ne (by decide), c4 92 (by decide) (by decide), b3, if_pos (by omega), a4 109 (by decide) (by decide)]
  · rw [mup_ne (by decide), c3, if_pos (by omega), b4 109 (by decide) (by decide), a4 109 (by decide) (by decide)]
  · rw [mup_self]
  · rw [mup_ne h1, c4 a h1 h4, b4 a h1 h3, a4 a h1 h2]
theorem im_out {x : Int32} (h : x < 0 ∨ nI 2 ≤ x) (u : MU) : f_X7_in x.toInt64 0 1 u = some (0, u) := inZ (n := 1) (by omega) (by decide) (by decide) u h (by omega)
theorem im_in {k : Nat} (h : k < 2) (u : MU) : f_X7_in (nI k).toInt64 0 1 u = some (1, u) := inO (n := 1) (by omega) (by decide) (by decide) u h
theorem op_image (x : Int32) : Same (f_X6_image x) (f_X7_image x) := by
  intro u h
  rcases rg x 2 (by omega) with hx | ⟨k, hk, rfl⟩
  · refine ⟨-2, u, u, ?_, ?_, h⟩
    · rw [f_X6_image, mBe (wi_out hx u), if_pos rfl]
    · rw [f_X7_image, mBe (im_out hx u), if_pos rfl]
  · obtain ⟨p1, p2, p3⟩ := h.2.2.1
    obtain ⟨v1, a1, a2, a3, a4⟩ := copy_s (78 + 5 * k + 2) 9 (mrow u (78 + 5 * k + 1) (va_cpy (u 8) (u (78 + 5 * k + 1)) 0 0 18)) (by omega)
    have ek : f_X1_keep (78 + 5 * k) 8 9 u = some (0, mup v1 (78 + 5 * k) 2 1) := by
      rw [f_X1_keep, gdt (by rw [len8]; decide), mSe, cz0, nc_ (by omega), mBe a1, mSe]
    generalize hv : mup v1 (78 + 5 * k) 2 1 = v at ek
    have vk : ∀ a : Nat, (a < 78 + 5 * k ∨ 78 + 5 * k + 4 < a) → v a = u a := fun a ha => by rw [← hv, mup_ne (by omega), a4 a (by omega), mrow_get, if_neg (by omega)]
    have v0 : v (78 + 5 * k) 2 = 1 := by rw [← hv, mup_self]
    have v1' : ∀ j : Nat, j < 18 → v (79 + 5 * k) j = u 8 j := fun j hj => by
      rw [← hv, mup_ne (by omega), a4 (79 + 5 * k) (by omega), mrow_get, if_pos (by omega), cpy_in hj]
    have v2 : v (80 + 5 * k) 2 = u 9 2 := by
      rw [← hv, mup_ne (by omega), show 80 + 5 * k = 78 + 5 * k + 2 by omega, a2, mrow_get, if_neg (by omega)]
    have v3 : ∀ j : Nat, j < 16 → v (81 + 5 * k) j = u 10 j ∧ v (82 + 5 * k) j = u 11 j := fun j hj => by
      have := a3 j hj
      rw [mrow_get, if_neg (by omega), mrow_get, if_neg (by omega)] at this
      rw [← hv, mup_ne (by omega), mup_ne (by omega), show 81 + 5 * k = 78 + 5 * k + 2 + 1 by omega, show 82 + 5 * k = 78 + 5 * k + 2 + 2 by omega]
      exact this
    obtain ⟨w, b1, b2, b3, b4⟩ := pasW_s (u := mup (mup v 88 37 (nI (51 * k))) 88 38 1) hk mup_self (by rw [mup_sne (by decide), mup_self])
    have e88 : ∀ a : Nat, a ≠ 88 → mup (mup v 88 37 (nI (51 * k))) 88 38 1 a = v a := fun a ha => by rw [mup_ne ha, mup_ne ha]
    have e885 : mup (mup v 88 37 (nI (51 * k))) 88 38 1 88 5 = u 88 5 := by rw [mup_sne (by decide), mup_sne (by decide), vk 88 (by omega)]
    refine ⟨1, v, mup w 110 k 1, ?_, ?_, ?_⟩
    · rw [f_X6_image, mBe (wi_in hk (by omega) u), if_neg (by decide), gdt (ix_ hk (by omega)), img_n (by omega), mBe ek]
    · rw [f_X7_image, mBe (im_in hk v), if_neg (by decide), mul_, mSe, mSe, mBe b1, gdt (ix_ hk (by omega)), mSe, nc_ (by omega)]
    · have tk : ∀ a : Nat, a ≠ 88 → a ≠ 109 → a ≠ 110 → mup w 110 k 1 a = v a := fun a h1 h2 h3 => by rw [mup_ne h3, b3 a h1 h2, e88 a h1]
      have t109 : ∀ j : Nat, mup w 110 k 1 109 j = w 109 j := fun j => by rw [mup_ne (by decide)]
      refine h.mk3 (h.2.1.cong ?_ ?_) (h.2.2.1.cong ?_ ?_ ?_ ?_ ?_ ?_) ?_ ?_
      · rw [tk 8 (by decide) (by decide) (by decide), vk 8 (by omega)]
      · rw [tk 91 (by decide) (by decide) (by decide), vk 91 (by omega)]
      · rw [tk 9 (by decide) (by decide) (by decide), vk 9 (by omega)]
      · rw [mup_ne (by decide), b4, e885]
      · rw [tk 10 (by decide) (by decide) (by decide), vk 10 (by omega)]
      · rw [tk 11 (by decide) (by decide) (by decide), vk 11 (by omega)]
      · rw [tk 92 (by decide) (by decide) (by decide), vk 92 (by omega)]
      · rw [tk 93 (by decide) (by decide) (by decide), vk 93 (by omega)]
      · intro i hi
        by_cases hik : i = k
        · subst hik
          have r91 : ∀ j : Nat, mup (mup v 88 37 (nI (51 * i))) 88 38 1 91 j = u 91 j := fun j => by rw [e88 91 (by decide), vk 91 (by omega)]
          have r92 : ∀ j : Nat, mup (mup v 88 37 (nI (51 * i))) 88 38 1 92 j = u 92 j := fun j => by rw [e88 92 (by decide), vk 92 (by omega)]
          have r93 : ∀ j : Nat, mup (mup v 88 37 (nI (51 * i))) 88 38 1 93 j = u 93 j := fun j => by rw [e88 93 (by decide), vk 93 (by omega)]
          refine ⟨by rw [mup_self]; rfl, ?_, fun j hj => ⟨?_, ?_⟩, ?_, ?_, fun j hj => ⟨?_, ?_⟩⟩
          · rw [tk _ (by omega) (by omega) (by omega), v0, mup_self]
          · rw [tk _ (by omega) (by omega) (by omega), v1' j hj, t109, b2, if_pos (by omega), r91, (h.2.1 j hj).1, show 51 * i + j - 51 * i = j by omega]
          · rw [tk _ (by omega) (by omega) (by omega), v1' j hj]; exact (h.2.1 j hj).2
          · rw [tk _ (by omega) (by omega) (by omega), v2, t109, b2, if_neg (by omega), if_neg (by omega), if_neg (by omega), if_pos rfl, e885, p1]
          · rw [tk _ (by omega) (by omega) (by omega), tk (81 + 5 * i) (by omega) (by omega) (by omega), tk (82 + 5 * i) (by omega) (by omega) (by omega), v2]
            exact ⟨p2.1, fun j hj => by rw [(v3 j hj).1, (v3 j hj).2]; exact p2.2 j hj⟩
          · rw [tk _ (by omega) (by omega) (by omega), (v3 j hj).1, t109, b2, if_neg (by omega), if_pos (by omega), r92, (p3 j hj).1, show 51 * i + 18 + j - (51 * i + 18) = j by omega]
          · rw [tk _ (by omega) (by omega) (by omega), (v3 j hj).2, t109, b2, if_neg (by omega), if_neg (by omega), if_pos (by omega), r93, (p3 j hj).2, show 51 * i + 34 + j - (51 * i + 34) = j by omega]
        · obtain ⟨m1, m2, m3, m4, m5, m6⟩ := h.2.2.2.1 i hi
          have q110 : mup w 110 k 1 110 i = u 110 i := by rw [mup_sne hik, b3 110 (by decide) (by decide), e88 110 (by decide), vk 110 (by omega)]
          have q109 : ∀ j : Nat, (j < 51 * k ∨ 51 * k + 50 < j) → mup w 110 k 1 109 j = u 109 j := fun j hj => by
            rw [t109, b2, if_neg (by omega), if_neg (by omega), if_neg (by omega), if_neg (by omega), e88 109 (by decide), vk 109 (by omega)]
          have qk : ∀ a : Nat, 78 + 5 * i ≤ a → a ≤ 82 + 5 * i → mup w 110 k 1 a = u a := fun a x1 x2 => by rw [tk a (by omega) (by omega) (by omega), vk a (by omega)]
          rw [qk (78 + 5 * i) (by omega) (by omega), qk (79 + 5 * i) (by omega) (by omega), qk (80 + 5 * i) (by omega) (by omega), qk (81 + 5 * i) (by omega) (by omega), qk (82 + 5 * i) (by omega) (by omega), q110]
          refine ⟨m1, m2, fun j hj => ?_, ?_, m5, fun j hj => ?_⟩
          · rw [q109 _ (by omega)]; exact m3 j hj
          · rw [q109 _ (by omega)]; exact m4
          · rw [q109 _ (by omega), q109 _ (by omega)]; exact m6 j hj
      · intro a ha
        rw [tk a (by omega) (by omega) (by omega), vk a (by omega)]
theorem op_restore (x : Int32) : Same (f_X6_restore x) (f_X7_restore x) := by
  intro u h
  rcases rg x 2 (by omega) with hx | ⟨k, hk, rfl⟩
  · refine ⟨-2, u, u, ?_, ?_, h⟩
    · rw [f_X6_restore, mBe (wi_out hx u), if_pos rfl]
    · rw [f_X7_restore, mBe (im_out hx u), if_pos rfl]
  · obtain ⟨m1, m2, m3, m4, m5, m6⟩ := h.2.2.2.1 k hk
    by_cases h0 : u 110 k = 0
    · refine ⟨-3, u, u, ?_, ?_, h⟩
      · rw [f_X6_restore, mBe (wi_in hk (by omega) u), if_neg (by decide), gdt (ix_ hk (by omega)), img_n (by omega), m2, h0, if_pos rfl]
      · rw [f_X7_restore, mBe (im_in hk u), if_neg (by decide), gdt (ix_ hk (by omega)), nc_ (by omega), h0, if_pos rfl]
    · obtain ⟨v, a1, a2, a3, a4⟩ := copy_s 9 (78 + 5 * k + 2) (mrow u 8 (va_cpy (u (78 + 5 * k + 1)) (u 8) 0 0 18)) (by omega)
      have vk : ∀ a : Nat, (a < 8 ∨ 11 < a) → v a = u a := fun a ha => by rw [a4 a (by omega), mrow_get, if_neg (by omega)]
      have v8 : ∀ j : Nat, j < 18 → v 8 j = u (79 + 5 * k) j := fun j hj => by rw [a4 8 (by omega), mrow_get, if_pos rfl, cpy_in hj, show 79 + 5 * k = 78 + 5 * k + 1 by omega]
      have v9 : v 9 2 = u (80 + 5 * k) 2 := by rw [a2, mrow_get, if_neg (by omega), show 80 + 5 * k = 78 + 5 * k + 2 by omega]
      have v10 : ∀ j : Nat, j < 16 → v 10 j = u (81 + 5 * k) j ∧ v 11 j = u (82 + 5 * k) j := fun j hj => by
        have := a3 j hj
        rw [mrow_get, if_neg (by omega), mrow_get, if_neg (by omega)] at this
        rw [show 81 + 5 * k = 78 + 5 * k + 2 + 1 by omega, show 82 + 5 * k = 78 + 5 * k + 2 + 2 by omega]
        exact this
      obtain ⟨w, b1, b2, b3, b4, b5⟩ := pasR_s (u := mup (mup v 88 37 (nI (51 * k))) 88 38 0) hk mup_self (by rw [mup_sne (by decide), mup_self])
      have e109 : mup (mup v 88 37 (nI (51 * k))) 88 38 0 109 = u 109 := by rw [mup_ne (by decide), mup_ne (by decide), vk 109 (by omega)]
      rw [e109] at b2 b3 b4
      have wk : ∀ a : Nat, a ≠ 88 → a ≠ 91 → a ≠ 92 → a ≠ 93 → w a = v a := fun a h1 h2 h3 h4 => by rw [b5 a h1 h2 h3 h4, mup_ne h1, mup_ne h1]
      refine ⟨1, v, w, ?_, ?_, ?_⟩
      · rw [f_X6_restore, mBe (wi_in hk (by omega) u), if_neg (by decide), gdt (ix_ hk (by omega)), img_n (by omega), m2, if_neg h0, gdt (ix_ hk (by omega)), mSe, gdt (ix_ hk (by omega)), cz0, nc_ (by omega), mBe a1]
      · rw [f_X7_restore, mBe (im_in hk v), if_neg (by decide), gdt (ix_ hk (by omega)), nc_ (by omega), vk 110 (by omega), if_neg h0, mul_, mSe, mSe, mBe b1]
      · refine h.mk3 (fun j hj => ⟨?_, ?_⟩) ⟨?_, ?_, fun j hj => ⟨?_, ?_⟩⟩ (h.2.2.2.1.cong ?_ ?_ ?_) ?_
        · rw [wk 8 (by decide) (by decide) (by decide) (by decide), v8 j hj, b2 j hj, (m3 j hj).1]
        · rw [wk 8 (by decide) (by decide) (by decide) (by decide), v8 j hj]; exact (m3 j hj).2
        · rw [wk 9 (by decide) (by decide) (by decide) (by decide), v9, b4, m4]
        · rw [wk 9 (by decide) (by decide) (by decide) (by decide), wk 10 (by decide) (by decide) (by decide) (by decide), wk 11 (by decide) (by decide) (by decide) (by decide), v9]
          exact ⟨m5.1, fun j hj => by rw [(v10 j hj).1, (v10 j hj).2]; exact m5.2 j hj⟩
        · rw [wk 10 (by decide) (by decide) (by decide) (by decide), (v10 j hj).1, (b3 j hj).1, (m6 j hj).1]
        · rw [wk 11 (by decide) (by decide) (by decide) (by decide), (v10 j hj).2, (b3 j hj).2, (m6 j hj).2]
        · intro a x1 x2
          rw [wk a (by omega) (by omega) (by omega) (by omega), vk a (by omega)]
        · rw [wk 109 (by decide) (by decide) (by decide) (by decide), vk 109 (by omega)]
        · rw [wk 110 (by decide) (by decide) (by decide) (by decide), vk 110 (by omega)]
        · intro a ha
          rw [wk a (by omega) (by omega) (by omega) (by omega), vk a (by omega)]
