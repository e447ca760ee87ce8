theorem mup_get (u : MU) (k j : Nat) (v : Int32) (a b : Nat) : mup u k j v a b = if a = k then (if b = j then v else u a b) else u a b := by
  unfold mup mrow upd
  by_cases h : a = k
  · subst h; simp
  · simp [h]
theorem mup_ne {u : MU} {k j : Nat} {v : Int32} {a : Nat} (h : a ≠ k) : mup u k j v a = u a := by
  funext b
  rw [mup_get, if_neg h]
theorem mup_self {u : MU} {k j : Nat} {v : Int32} : mup u k j v k j = v := by
  rw [mup_get, if_pos rfl, if_pos rfl]
theorem mup_sne {u : MU} {k j i : Nat} {v : Int32} (h : i ≠ j) : mup u k j v k i = u k i := by
  rw [mup_get, if_pos rfl, if_neg h]
theorem mrow_get (u : MU) (k : Nat) (f : Nat → Int32) (a : Nat) : mrow u k f a = if a = k then f else u a := rfl
theorem nc_ {k : Nat} (h : k < 1000000) : (nI k).toNatClampNeg = k := nI_clamp (by omega)
theorem ix_ {k n : Nat} (h : k < n) (hn : n < 1000) : mIx (nI k) n = true := by
  unfold mIx
  rw [nI_clamp (by omega)]
  simp [h, nI_pos (show k < 2 ^ 31 by omega)]
theorem le_ {a b : Nat} (ha : a < 1000000) (hb : b < 1000000) : (nI a ≤ nI b) ↔ a ≤ b := nI_leI (by omega) (by omega)
theorem lt_ {a b : Nat} (ha : a < 1000000) (hb : b < 1000000) : (nI a < nI b) ↔ a < b := nI_ltI (by omega) (by omega)
theorem eq_ {a b : Nat} (ha : a < 1000000) (hb : b < 1000000) : (nI a = nI b) ↔ a = b := nI_eq (by omega) (by omega)
theorem e0_ {a : Nat} (ha : a < 1000000) : (nI a = 0) ↔ a = 0 := by
  rw [← nI_0]; exact nI_eq (by omega) (by omega)
theorem l0_ {a : Nat} (ha : a < 1000000) : (nI a < 0) ↔ False := ⟨fun h => nI_pos (by omega) h, fun h => h.elim⟩
theorem z0_ {a : Nat} (ha : a < 1000000) : (0 ≤ nI a) ↔ True := ⟨fun _ => trivial, fun _ => nI_pos' (by omega)⟩
theorem z1_ {a : Nat} (ha : a < 1000000) : (nI a ≤ 0) ↔ a = 0 := by
  rw [← nI_0, nI_leI (by omega) (by omega)]; omega
theorem z2_ {a : Nat} (ha : a < 1000000) : (0 < nI a) ↔ 0 < a := by
  rw [← nI_0, nI_ltI (by omega) (by omega)]
theorem irm_ {a b : Nat} (ha : a < 1000000) (h0 : 0 < b) (hb : b < 1000000) : irm (nI a) (nI b) = nI (a % b) := pk_rem (by omega) h0 (by omega)
theorem one_ : (1 : Int32) = nI 1 := rfl
theorem sub_ {a b : Nat} (h : b ≤ a) : nI a - nI b = nI (a - b) := pk_sub h
theorem mul_ (a b : Nat) : nI a * nI b = nI (a * b) := pk_mul a b
theorem m1_ {a : Nat} (h : 0 < a) : nI a + (-1) = nI (a - 1) := by
  obtain ⟨b, rfl⟩ : ∃ b, a = b + 1 := ⟨a - 1, by omega⟩
  rw [pk_m1]; rfl
theorem sub1_ {a : Nat} (h : 0 < a) : nI a - 1 = nI (a - 1) := by
  obtain ⟨b, rfl⟩ : ∃ b, a = b + 1 := ⟨a - 1, by omega⟩
  rw [nI_pred]; rfl
theorem n_of {x : Int32} (h : 0 ≤ x) : ∃ k : Nat, k < 2 ^ 31 ∧ x = nI k := nI_of (Int32.not_lt.mpr h)
theorem mIx_iff {x : Int32} {n : Nat} (hn : n < 1000000) : mIx x n = true ↔ ∃ k : Nat, k < n ∧ x = nI k := by
  constructor
  · intro h
    exact vp_in_of (mIx_in h) (by omega)
  · rintro ⟨k, hk, rfl⟩
    unfold mIx
    rw [nI_clamp (by omega)]
    simp [hk, nI_pos (show k < 2 ^ 31 by omega)]
/-- what a number is, against a bound: below 0, in, or beyond -/
theorem ranged (x : Int32) {n : Nat} (hn : n < 1000000) : x < 0 ∨ nI n ≤ x ∨ ∃ k : Nat, k < n ∧ x = nI k := pk_ix x (by omega)
theorem gdt {c : Bool} {k : mR} (h : c = true) : gd c k = k := by unfold gd; rw [if_pos h]
theorem mBs {x : Int32} {v : MU} {k : Int32 → MU → mR} : mB (some (x, v)) k = k x v := rfl
theorem mBe {a : mR} {x : Int32} {v : MU} {k : Int32 → MU → mR} (h : a = some (x, v)) : mB a k = k x v := by rw [h]; rfl
theorem z_one : mZ 1 = true := rfl
theorem z_zero : mZ 0 = true := rfl
theorem lg_lt {x y : Int64} : (lg_cmp x y < 0) ↔ x < y := by
  unfold lg_cmp
  by_cases h1 : x > y
  · rw [if_pos h1]
    have h2 : ¬ x < y := Int64.lt_asymm h1
    simp [h2]
  · rw [if_neg h1]
    by_cases h2 : x = y
    · subst h2
      simp
    · rw [if_neg h2]
      have h3 : x < y := by
        rcases Int64.lt_or_lt_of_ne h2 with h | h
        · exact h
        · exact absurd h h1
      simp [h3]
theorem lg_gt {x y : Int64} : (0 < lg_cmp x y) ↔ y < x := by
  unfold lg_cmp
  by_cases h1 : x > y
  · rw [if_pos h1]
    have h2 : y < x := h1
    simp [h2]
  · rw [if_neg h1]
    have h2 : ¬ y < x := h1
    by_cases h3 : x = y
    · subst h3
      simp
    · rw [if_neg h3]
      simp [h2]
theorem in_s (x : Int32) (la lb : Int64) (a b : Int) (ha : la.toInt = a) (hb : lb.toInt = b) (u : MU) : f_X7_in x.toInt64 la lb u = some (if a ≤ x.toInt ∧ x.toInt ≤ b then 1 else 0, u) := by
  unfold f_X7_in
  have h1 : (lg_cmp x.toInt64 la < 0) ↔ x.toInt < a := by
    rw [lg_lt, Int64.lt_iff_toInt_lt, Int32.toInt_toInt64, ha]
  have h2 : (0 < lg_cmp x.toInt64 lb) ↔ b < x.toInt := by
    rw [lg_gt, Int64.lt_iff_toInt_lt, Int32.toInt_toInt64, hb]
  by_cases c1 : x.toInt < a
  · rw [if_pos (h1.mpr c1), if_neg (by omega)]
  · rw [if_neg (fun h => c1 (h1.mp h))]
    by_cases c2 : b < x.toInt
    · rw [if_pos (h2.mpr c2), if_neg (by omega)]
    · rw [if_neg (fun h => c2 (h2.mp h)), if_pos (by omega)]
theorem toInt_n {k : Nat} (h : k < 1000000) : (nI k).toInt = (k : Int) := nI_toInt (by omega)
theorem out_toInt {x : Int32} {n : Nat} (hn : n < 1000000) (h : x < 0 ∨ nI n ≤ x) : x.toInt < 0 ∨ (n : Int) ≤ x.toInt := by
  rcases h with h | h
  · left
    have := Int32.lt_iff_toInt_lt.mp h
    simpa using this
  · right
    have := Int32.le_iff_toInt_le.mp h
    rw [nI_toInt (by omega)] at this
    exact this
theorem wi_in {k n : Nat} (h : k < n) (hn : n < 1000000) (u : MU) : f_X6_within (nI k) (nI n) u = some (1, u) := by
  unfold f_X6_within
  rw [if_neg (nI_pos (by omega)), if_neg (fun q => absurd ((nI_leI (by omega) (by omega)).mp q) (by omega))]
theorem wi_out {x : Int32} {n : Nat} (h : x < 0 ∨ nI n ≤ x) (u : MU) : f_X6_within x (nI n) u = some (0, u) := by
  unfold f_X6_within
  rcases h with h | h
  · rw [if_pos h]
  · by_cases h2 : x < 0
    · rw [if_pos h2]
    · rw [if_neg h2, if_pos h]
theorem inZ {x : Int32} {la lb : Int64} {n : Nat} (hn : n < 1000000) (ha : la.toInt = 0) (hb : lb.toInt = (n : Int)) (u : MU) (h : x < 0 ∨ nI (n + 1) ≤ x) (hn2 : n + 1 < 1000000) : f_X7_in x.toInt64 la lb u = some (0, u) := by
  rw [in_s x la lb 0 n ha hb u, if_neg]
  have := out_toInt hn2 h
  omega
theorem inO {k : Nat} {la lb : Int64} {n : Nat} (hn : n < 1000000) (ha : la.toInt = 0) (hb : lb.toInt = (n : Int)) (u : MU) (h : k < n + 1) : f_X7_in (nI k).toInt64 la lb u = some (1, u) := by
  rw [in_s (nI k) la lb 0 n ha hb u, if_pos]
  rw [toInt_n (by omega)]
  omega
