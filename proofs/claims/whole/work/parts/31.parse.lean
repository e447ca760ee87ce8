theorem mSe {v : MU} {k : MU → mR} : mS v k = k v := rfl
/-! signs and how they are read: the middle between the two readers -/
def hr (w : Nat → Int32) (n a : Nat) : Int32 := if a < n then w a else 0
def isFig (c : Int32) : Bool := !(decide (c < nI 48)) && !(decide (nI 57 < c))
def isLet (c : Int32) : Bool := !(decide (c < nI 97)) && !(decide (nI 102 < c))
def dgt (c : Int32) : Nat := c.toNatClampNeg - 48
def ltr (c : Int32) : Nat := c.toNatClampNeg - 97
def plc (s x : Nat) : Nat := if s < 18 then s else 6 + (s - 18 + x) % 12
def pG (w : Nat → Int32) (n : Nat) : Nat → Nat → Nat
  | 0, _ => 0
  | f + 1, a => if hr w n a = nI 62 then pG w n f (a + 1) + 1 else 0
def pGt (w : Nat → Int32) (n a : Nat) : Nat := pG w n (n - a) a
theorem hr_lt {w : Nat → Int32} {n a : Nat} {c : Int32} (h : hr w n a = c) (h0 : ¬ c = 0) : a < n := by
  unfold hr at h
  by_cases q : a < n
  · exact q
  · rw [if_neg q] at h; exact absurd h.symm h0
theorem pGt_eq (w : Nat → Int32) (n a : Nat) : pGt w n a = if hr w n a = nI 62 then pGt w n (a + 1) + 1 else 0 := by
  unfold pGt
  by_cases h : hr w n a = nI 62
  · have hl := hr_lt h (by decide)
    rw [if_pos h, show n - a = (n - (a + 1)) + 1 by omega, pG, if_pos h]
  · rw [if_neg h]
    cases n - a with
    | zero => rfl
    | succ f => rw [pG, if_neg h]
theorem pGt_le (w : Nat → Int32) (n : Nat) : ∀ d a : Nat, n - a ≤ d → a ≤ n → a + pGt w n a ≤ n := by
  intro d
  induction d with
  | zero =>
    intro a h1 h2
    rw [pGt_eq, if_neg]
    · omega
    · intro q
      have := hr_lt q (by decide)
      omega
  | succ d ih =>
    intro a h1 h2
    rw [pGt_eq]
    by_cases q : hr w n a = nI 62
    · rw [if_pos q]
      have := hr_lt q (by decide)
      have := ih (a + 1) (by omega) (by omega)
      omega
    · rw [if_neg q]; omega
def pI (w : Nat → Int32) (n a : Nat) : Nat × Option Nat :=
  if hr w n (a + pGt w n a) = nI 112 then (a + pGt w n a + 1, some (18 + pGt w n a % 12))
  else if isFig (hr w n (a + pGt w n a)) = true then (a + pGt w n a + 1, some (6 + (pGt w n a + dgt (hr w n (a + pGt w n a))) % 12))
  else (a + pGt w n a, none)
def pL (w : Nat → Int32) (n a : Nat) : Nat × Option (Nat × Nat) :=
  if hr w n a = nI 64 then (match pI w n (a + 1) with
    | (b, some s) => (b, some (2, s))
    | (b, none) => (b, none))
  else if isFig (hr w n a) = true then (a + 1, some (0, dgt (hr w n a)))
  else if isLet (hr w n a) = true then (a + 1, some (2, ltr (hr w n a)))
  else if hr w n a = nI 112 then (a + 1, some (1, 0))
  else (a, none)
def pT (w : Nat → Int32) (n : Nat) : Nat → Nat → Nat → Nat × Option (List (Nat × Nat))
  | 0, _, a => (a, none)
  | f + 1, due, a => if due = 0 then (a, some []) else if hr w n a = nI 126 then pT w n f (due + 1) (a + 1) else (match pL w n a with
    | (b, some l) => (match pT w n f (due - 1) b with
      | (b', some ls) => (b', some (l :: ls))
      | (b', none) => (b', none))
    | (b, none) => (b, none))
abbrev pSt : Type := Nat × Nat × Nat × List (Nat × Nat)
def pTS (w : Nat → Int32) (n k sp b : Nat) : Nat × Option pSt := match pT w n 31 1 b with
  | (b', some ls) => (b', some (k, sp, 0, ls))
  | (b', none) => (b', none)
def pS (w : Nat → Int32) (n a : Nat) : Nat × Option pSt :=
  if hr w n a = nI 61 ∨ hr w n a = nI 43 then
    (if isLet (hr w n (a + 1)) = true then pTS w n (if hr w n a = nI 61 then 0 else 1) (ltr (hr w n (a + 1))) (a + 2) else (a + 1, none))
  else if hr w n a = nI 35 ∨ hr w n a = nI 94 then (match pI w n (a + 1) with
    | (b, some s) => pTS w n (if hr w n a = nI 35 then 0 else 1) s b
    | (b, none) => (b, none))
  else if hr w n a = nI 63 then
    (if isLet (hr w n (a + 1)) = true then (a + 2, some (2, ltr (hr w n (a + 1)), 0, [])) else (a + 1, none))
  else if hr w n a = nI 99 then
    (if ¬ hr w n (a + 1) < nI 48 ∧ hr w n (a + 1) < nI 54 then (match pI w n (a + 2) with
      | (b, some s) => (b, some (3, s, dgt (hr w n (a + 1)), []))
      | (b, none) => (b, none))
    else (a + 1, none))
  else (a, none)
def pA (w : Nat → Int32) (n : Nat) : Nat → Nat → List pSt × Option Nat
  | 0, _ => ([], none)
  | f + 1, a => if a < n then (match pS w n a with
    | (b, some s) => (s :: (pA w n f b).1, (pA w n f b).2)
    | (b, none) => ([], some b)) else ([], none)
theorem fig_of {c : Int32} (h : isFig c = true) : ∃ d : Nat, d ≤ 9 ∧ c = nI (48 + d) := by
  unfold isFig at h
  simp only [Bool.and_eq_true, Bool.not_eq_true', decide_eq_false_iff_not] at h
  have h1 : (48 : Int) ≤ c.toInt := by
    have := Int32.not_lt.mp h.1
    have := Int32.le_iff_toInt_le.mp this
    rwa [toInt_n (by omega)] at this
  have h2 : c.toInt ≤ 57 := by
    have := Int32.not_lt.mp h.2
    have := Int32.le_iff_toInt_le.mp this
    rwa [toInt_n (by omega)] at this
  obtain ⟨k, hk, rfl⟩ := nI_of (x := c) (fun q => by have := Int32.lt_iff_toInt_lt.mp q; simp at this; omega)
  rw [nI_toInt hk] at h1 h2
  exact ⟨k - 48, by omega, by rw [show 48 + (k - 48) = k by omega]⟩
theorem let_of {c : Int32} (h : isLet c = true) : ∃ d : Nat, d ≤ 5 ∧ c = nI (97 + d) := by
  unfold isLet at h
  simp only [Bool.and_eq_true, Bool.not_eq_true', decide_eq_false_iff_not] at h
  have h1 : (97 : Int) ≤ c.toInt := by
    have := Int32.not_lt.mp h.1
    have := Int32.le_iff_toInt_le.mp this
    rwa [toInt_n (by omega)] at this
  have h2 : c.toInt ≤ 102 := by
    have := Int32.not_lt.mp h.2
    have := Int32.le_iff_toInt_le.mp this
    rwa [toInt_n (by omega)] at this
  obtain ⟨k, hk, rfl⟩ := nI_of (x := c) (fun q => by have := Int32.lt_iff_toInt_lt.mp q; simp at this; omega)
  rw [nI_toInt hk] at h1 h2
  exact ⟨k - 97, by omega, by rw [show 97 + (k - 97) = k by omega]⟩
theorem fig7 (c : Int32) (u : MU) : f_X7_isFigure c u = some (if isFig c = true then 1 else 0, u) := by
  unfold f_X7_isFigure isFig
  by_cases h1 : c < nI 48
  · simp [h1]
  · by_cases h2 : nI 57 < c
    · simp [h1, h2]
    · simp [h1, h2]
theorem fig5 (c : Int32) (u : MU) : f_X5_isFigure c u = some (if isFig c = true then 1 else 0, u) := by
  unfold f_X5_isFigure isFig
  by_cases h1 : c < nI 48
  · simp [h1]
  · by_cases h2 : nI 57 < c
    · simp [h1, h2]
    · simp [h1, h2]
theorem let7 (c : Int32) (u : MU) : f_X7_isLetter c u = some (if isLet c = true then 1 else 0, u) := by
  unfold f_X7_isLetter isLet
  by_cases h1 : c < nI 97
  · simp [h1]
  · by_cases h2 : nI 102 < c
    · simp [h1, h2]
    · simp [h1, h2]
theorem let5 (c : Int32) (u : MU) : f_X5_isLetter c u = some (if isLet c = true then 1 else 0, u) := by
  unfold f_X5_isLetter isLet
  by_cases h1 : c < nI 97
  · simp [h1]
  · have e : (nI 103 ≤ c) ↔ nI 102 < c := by
      rw [Int32.le_iff_toInt_le, Int32.lt_iff_toInt_lt, toInt_n (by omega), toInt_n (by omega)]
      omega
    by_cases h2 : nI 102 < c
    · simp [h1, h2, e]
    · simp [h1, h2, e]
def mT (u : MU) (r : Nat) (w : Nat → Int32) (n : Nat) : Prop := r < 6 ∧ n ≤ 30 ∧ u 88 7 = nI r ∧ u 90 r = nI n ∧ ∀ j : Nat, j < n → u 89 (30 * r + j) = w j
theorem here_s {u : MU} {r n a : Nat} {w : Nat → Int32} (h : mT u r w n) (ha : u 88 6 = nI a) (hb : a ≤ 1000) : f_X7_here u = some (hr w n a, u) := by
  obtain ⟨h1, h2, h3, h4, h5⟩ := h
  unfold f_X7_here hr
  rw [h3, ha, gdt (ix_ h1 (by omega)), nc_ (by omega), h4]
  by_cases c : a < n
  · rw [if_neg (fun q => absurd ((le_ (by omega) (by omega)).mp q) (by omega)), mul_, nI_add, gdt (ix_ (by omega) (by omega)), nc_ (by omega), h5 a c, if_pos c]
  · rw [if_pos ((le_ (by omega) (by omega)).mpr (by omega)), if_neg c]
theorem mT.up {u : MU} {r n j : Nat} {w : Nat → Int32} {v : Int32} (h : mT u r w n) (hj : j ≠ 7) : mT (mup u 88 j v) r w n := by
  obtain ⟨h1, h2, h3, h4, h5⟩ := h
  refine ⟨h1, h2, ?_, ?_, fun i hi => ?_⟩
  · rw [mup_sne (Ne.symm hj)]; exact h3
  · rw [mup_ne (by decide)]; exact h4
  · rw [mup_ne (by decide)]; exact h5 i hi
theorem mup_mup (u : MU) (k j : Nat) (v v' : Int32) : mup (mup u k j v) k j v' = mup u k j v' := by
  funext a b
  rw [mup_get, mup_get, mup_get]
  by_cases h1 : a = k
  · by_cases h2 : b = j
    · simp [h1, h2]
    · simp [h1, h2]
  · simp [h1]
theorem mup_id {u : MU} {k j : Nat} {v : Int32} (h : u k j = v) : mup u k j v = u := by
  funext a b
  rw [mup_get]
  by_cases h1 : a = k
  · by_cases h2 : b = j
    · subst h1; subst h2; simp [h]
    · simp [h1, h2]
  · simp [h1]
/-- what index answers -/
def iAns (w : Nat → Int32) (n a m x : Nat) : Int32 × Nat :=
  if hr w n (a + pGt w n a) = nI 112 then (nI ((m + pGt w n a + x) % 12), a + pGt w n a + 1)
  else if isFig (hr w n (a + pGt w n a)) = true then (nI ((m + pGt w n a + dgt (hr w n (a + pGt w n a))) % 12), a + pGt w n a + 1)
  else (-6, a + pGt w n a)
theorem index_l {r n x : Nat} {w : Nat → Int32} (hx : x < 12) (hn : n ≤ 30) : ∀ (d a f m : Nat) (u : MU), n - a ≤ d → d < f → a ≤ n → m ≤ a → mT u r w n → u 88 6 = nI a → l_X7_index_2 (nI x) f (nI m) u = some ((iAns w n a m x).1, mup u 88 6 (nI (iAns w n a m x).2)) := by
  intro d
  induction d with
  | zero =>
    intro a f m u h1 h2 h3 h3' h4 h5
    obtain ⟨f, rfl⟩ : ∃ g, f = g + 1 := ⟨f - 1, by omega⟩
    have hz : hr w n a = 0 := by unfold hr; rw [if_neg (by omega)]
    have hg : pGt w n a = 0 := by rw [pGt_eq, hz, if_neg (by decide)]
    have e : iAns w n a m x = (-6, a) := by
      unfold iAns
      rw [hg, Nat.add_zero, hz, if_neg (by decide), if_neg (by decide)]
    rw [l_X7_index_2, b_X7_index_2, mBe (here_s h4 h5 (by omega)), hz, if_neg (by decide), mBe (here_s h4 h5 (by omega)), hz, mBe (fig7 _ _), if_pos (by decide), if_neg (by decide), e, mup_id h5]
  | succ d ih =>
    intro a f m u h1 h2 h3 h3' h4 h5
    obtain ⟨f, rfl⟩ : ∃ g, f = g + 1 := ⟨f - 1, by omega⟩
    rw [l_X7_index_2, b_X7_index_2, mBe (here_s h4 h5 (by omega))]
    by_cases c : hr w n a = nI 62
    · have hl := hr_lt c (by decide)
      have e : iAns w n a m x = iAns w n (a + 1) (m + 1) x := by
        unfold iAns
        rw [pGt_eq w n a, if_pos c, show a + (pGt w n (a + 1) + 1) = a + 1 + pGt w n (a + 1) by omega, show m + (pGt w n (a + 1) + 1) = m + 1 + pGt w n (a + 1) by omega]
      rw [if_pos c, mSe, h5, nI_1, nI_1, ih (a + 1) f (m + 1) _ (by omega) (by omega) (by omega) (by omega) (h4.up (by decide)) mup_self, mup_mup, e]
    · have hg : pGt w n a = 0 := by rw [pGt_eq, if_neg c]
      rw [if_neg c, mBe (here_s h4 h5 (by omega)), mBe (fig7 _ _)]
      by_cases c1 : isFig (hr w n a) = true
      · obtain ⟨g, hg9, hge⟩ := fig_of c1
        have c2 : ¬ hr w n a = nI 112 := fun q => by rw [q] at c1; exact absurd c1 (by decide)
        have e : iAns w n a m x = (nI ((m + g) % 12), a + 1) := by
          unfold iAns
          rw [hg, Nat.add_zero, Nat.add_zero, if_neg c2, if_pos c1, hge, dgt, nc_ (by omega)]
          rw [show 48 + g - 48 = g by omega]
        rw [if_pos c1, if_neg (by decide), b_X7_index_48, mSe, if_neg c2, h5, nI_1, e, hge, sub_ (by omega), nI_add, irm_ (by omega) (by omega) (by omega), show m + (48 + g - 48) = m + g by omega]
      · rw [if_neg c1, if_pos rfl]
        by_cases c2 : hr w n a = nI 112
        · have e : iAns w n a m x = (nI ((m + x) % 12), a + 1) := by
            unfold iAns
            rw [hg, Nat.add_zero, Nat.add_zero, if_pos c2]
          rw [if_pos c2, b_X7_index_48, mSe, if_pos c2, h5, nI_1, e, nI_add, irm_ (by omega) (by omega) (by omega)]
        · have e : iAns w n a m x = (-6, a) := by
            unfold iAns
            rw [hg, Nat.add_zero, if_neg c2, if_neg c1]
          rw [if_neg c2, e, mup_id h5]
theorem index_s {u : MU} {r n a x : Nat} {w : Nat → Int32} (hx : x < 12) (ha : a ≤ n) (h : mT u r w n) (h5 : u 88 6 = nI a) : f_X7_index (nI x) u = some ((match (pI w n a).2 with
    | some s => nI (plc s x - 6)
    | none => -6), mup u 88 6 (nI (pI w n a).1)) := by
  have hn := h.2.1
  rw [f_X7_index, show (0 : Int32) = nI 0 from rfl, index_l hx hn 31 a FU 0 u (by omega) (by unfold FU; omega) ha (by omega) h h5]
  unfold iAns pI
  by_cases c1 : hr w n (a + pGt w n a) = nI 112
  · rw [if_pos c1, if_pos c1]
    simp only [plc]
    rw [if_neg (by omega), show 6 + (18 + pGt w n a % 12 - 18 + x) % 12 - 6 = (0 + pGt w n a + x) % 12 by omega]
  · rw [if_neg c1, if_neg c1]
    by_cases c2 : isFig (hr w n (a + pGt w n a)) = true
    · rw [if_pos c2, if_pos c2]
      simp only [plc]
      rw [if_pos (by omega), show 6 + (pGt w n a + dgt (hr w n (a + pGt w n a))) % 12 - 6 = (0 + pGt w n a + dgt (hr w n (a + pGt w n a))) % 12 by omega]
    · rw [if_neg c2, if_neg c2]
