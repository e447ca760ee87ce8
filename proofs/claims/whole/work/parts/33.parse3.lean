theorem term_l {r n x : Nat} {w : Nat → Int32} (hx : x < 12) (hn : n ≤ 30) : ∀ (d a f F due : Nat) (u : MU), n - a ≤ d → d < f → d < F → a ≤ n → due + (n - a) ≤ 1000 → mT u r w n → u 88 6 = nI a → ∃ v : MU, l_X7_term_12 (nI x) F (nI due) u = some (oB (pT w n f due a).2, v) ∧ pf3 u v ∧ v 88 6 = nI (pT w n f due a).1 ∧ ∀ ls, (pT w n f due a).2 = some ls → v 88 8 = irm (ls.foldl (fun s l => s + lvl (u 99) x l) (u 88 8)) (nI 100) ∧ v 88 9 = ls.foldl (fun s l => s ||| lbt x l) (u 88 9) := by
  intro d
  induction d with
  | zero =>
    intro a f F due u h1 h2 h2' h3 h3' h4 h5
    obtain ⟨f, rfl⟩ : ∃ g, f = g + 1 := ⟨f - 1, by omega⟩
    obtain ⟨F, rfl⟩ : ∃ g, F = g + 1 := ⟨F - 1, by omega⟩
    rw [l_X7_term_12, b_X7_term_12, pT]
    by_cases hd : due = 0
    · rw [if_pos ((z1_ (by omega)).mpr hd), if_pos hd, mSe]
      refine ⟨_, rfl, (pf3.rf u).up (Or.inr (Or.inl rfl)), ?_, fun ls hl => ?_⟩
      · rw [mup_sne (by decide)]; exact h5
      · cases hl
        exact ⟨mup_self, mup_sne (by decide)⟩
    · have hz : hr w n a = 0 := by unfold hr; rw [if_neg (by omega)]
      rw [if_neg (fun q => hd ((z1_ (by omega)).mp q)), if_neg hd, mBe (here_s h4 h5 (by omega)), hz, if_neg (by decide), if_neg (by decide)]
      obtain ⟨v, e1, e2, e3, -⟩ := leaf_s hx h3 h4 h5
      have hp : pL w n a = (a, none) := by
        unfold pL
        rw [hz, if_neg (by decide), if_neg (by decide), if_neg (by decide), if_neg (by decide)]
      rw [hp] at e1 e3 ⊢
      rw [mBe e1]
      exact ⟨v, rfl, e2, e3, fun ls hl => by cases hl⟩
  | succ d ih =>
    intro a f F due u h1 h2 h2' h3 h3' h4 h5
    obtain ⟨f, rfl⟩ : ∃ g, f = g + 1 := ⟨f - 1, by omega⟩
    obtain ⟨F, rfl⟩ : ∃ g, F = g + 1 := ⟨F - 1, by omega⟩
    rw [l_X7_term_12, b_X7_term_12, pT]
    by_cases hd : due = 0
    · rw [if_pos ((z1_ (by omega)).mpr hd), if_pos hd, mSe]
      refine ⟨_, rfl, (pf3.rf u).up (Or.inr (Or.inl rfl)), ?_, fun ls hl => ?_⟩
      · rw [mup_sne (by decide)]; exact h5
      · cases hl
        exact ⟨mup_self, mup_sne (by decide)⟩
    · rw [if_neg (fun q => hd ((z1_ (by omega)).mp q)), if_neg hd, mBe (here_s h4 h5 (by omega))]
      by_cases c : hr w n a = nI 126
      · have hl := hr_lt c (by decide)
        rw [if_pos c, if_pos c, mSe, h5, nI_1, nI_1]
        obtain ⟨v, e1, e2, e3, e4⟩ := ih (a + 1) f F (due + 1) _ (by omega) (by omega) (by omega) (by omega) (by omega) (h4.up (by decide)) mup_self
        refine ⟨v, e1, ((pf3.rf u).up (Or.inl rfl)).tr e2, e3, fun ls hl => ?_⟩
        have := e4 ls hl
        rw [mup_ne (by decide), mup_sne (by decide), mup_sne (by decide)] at this
        exact this
      · rw [if_neg c, if_neg c]
        obtain ⟨v, e1, e2, e3, e4⟩ := leaf_s hx h3 h4 h5
        have hle := pL_le (w := w) h3
        cases hp : pL w n a with
        | mk b o =>
          rw [hp] at e1 e3 e4 hle
          cases o with
          | none =>
            rw [mBe e1]
            exact ⟨v, rfl, e2, e3, fun ls hl => by cases hl⟩
          | some l =>
            have hb := (hle.2.2 l rfl).1
            simp only at hle hb e3
            rw [mBe e1, if_neg (show ¬ oB (b, some l).2 = 0 from (by decide : ¬ (1 : Int32) = 0)), m1_ (by omega)]
            dsimp only
            obtain ⟨t, g1, g2, g3, g4⟩ := ih b f F (due - 1) v (by omega) (by omega) (by omega) (by omega) (by omega) (h4.pf3 e2) e3
            cases hq : pT w n f (due - 1) b with
            | mk b' o' =>
              rw [hq] at g1 g3 g4
              cases o' with
              | none => exact ⟨t, g1, e2.tr g2, g3, fun ls hl => by cases hl⟩
              | some ls' =>
                refine ⟨t, g1, e2.tr g2, g3, fun ls hl => ?_⟩
                cases hl
                have q := g4 ls' rfl
                rw [e2.1 99 (by decide), (e4 l rfl).1, (e4 l rfl).2] at q
                exact q
theorem term_s {u : MU} {r n a x : Nat} {w : Nat → Int32} (hx : x < 12) (ha : a ≤ n) (h : mT u r w n) (h5 : u 88 6 = nI a) : ∃ v : MU, f_X7_term (nI x) u = some (oB (pT w n 31 1 a).2, v) ∧ pf3 u v ∧ v 88 6 = nI (pT w n 31 1 a).1 ∧ ∀ ls, (pT w n 31 1 a).2 = some ls → v 88 8 = irm (ls.foldl (fun s l => s + lvl (u 99) x l) 0) (nI 100) ∧ v 88 9 = ls.foldl (fun s l => s ||| lbt x l) 0 := by
  have hn := h.2.1
  rw [f_X7_term, mSe, mSe, one_]
  obtain ⟨v, e1, e2, e3, e4⟩ := term_l (u := mup (mup u 88 8 0) 88 9 0) hx hn 30 a 31 FU 1 (by omega) (by omega) (by unfold FU; omega) ha (by omega) ((h.up (by decide)).up (by decide)) (by rw [mup_sne (by decide), mup_sne (by decide)]; exact h5)
  refine ⟨v, e1, (((pf3.rf u).up (Or.inr (Or.inl rfl))).up (Or.inr (Or.inr rfl))).tr e2, e3, fun ls hl => ?_⟩
  have q := e4 ls hl
  rw [mup_self, mup_sne (by decide), mup_self, mup_ne (by decide), mup_ne (by decide)] at q
  exact q
theorem rng_iff (c : Int32) {a k : Nat} (h : a + k < 1000) : (0 ≤ (c - nI a).toInt ∧ (c - nI a).toInt ≤ (k : Int)) ↔ ∃ d : Nat, d ≤ k ∧ c = nI (a + d) := by
  constructor
  · rintro ⟨h1, h2⟩
    obtain ⟨d, hd, e⟩ := nI_of (x := c - nI a) (fun q => by have q2 := Int32.lt_iff_toInt_lt.mp q; rw [show (0 : Int32).toInt = 0 from rfl] at q2; omega)
    rw [e, nI_toInt hd] at h2
    refine ⟨d, by omega, ?_⟩
    have e2 : c = nI a + nI d := by rw [← e]; rw [Int32.add_comm, Int32.sub_add_cancel]
    rw [e2, nI_add]
  · rintro ⟨d, hd, rfl⟩
    rw [sub_ (by omega), toInt_n (by omega)]
    omega
theorem let_iff (c : Int32) : isLet c = true ↔ ∃ d : Nat, d ≤ 5 ∧ c = nI (97 + d) := by
  constructor
  · exact let_of
  · rintro ⟨d, hd, rfl⟩
    have : ∀ d : Nat, d ≤ 5 → isLet (nI (97 + d)) = true := by decide +kernel
    exact this d hd
theorem call_iff (c : Int32) : (¬ c < nI 48 ∧ c < nI 54) ↔ ∃ d : Nat, d ≤ 5 ∧ c = nI (48 + d) := by
  constructor
  · rintro ⟨h1, h2⟩
    rw [Int32.not_lt, Int32.le_iff_toInt_le, toInt_n (by omega)] at h1
    rw [Int32.lt_iff_toInt_lt, toInt_n (by omega)] at h2
    obtain ⟨k, hk, rfl⟩ := nI_of (x := c) (fun q => by have := Int32.lt_iff_toInt_lt.mp q; simp at this; omega)
    rw [nI_toInt hk] at h1 h2
    exact ⟨k - 48, by omega, by rw [show 48 + (k - 48) = k by omega]⟩
  · rintro ⟨d, hd, rfl⟩
    rw [lt_ (by omega) (by omega), lt_ (by omega) (by omega)]
    omega
theorem number_s {u : MU} {r n a : Nat} {w : Nat → Int32} (ha : a ≤ n) (h : mT u r w n) (h5 : u 88 6 = nI a) : f_X7_numberHere u = some (if isLet (hr w n a) = true then 1 else 0, mup (mup u 88 11 (hr w n a - nI 97)) 88 6 (nI (if isLet (hr w n a) = true then a + 1 else a))) := by
  have hn := h.2.1
  have e : ∀ v : MU, f_X7_in (hr w n a - nI 97).toInt64 0 5 v = some (if isLet (hr w n a) = true then 1 else 0, v) := by
    intro v
    rw [in_s _ 0 5 0 5 (by decide) (by decide)]
    by_cases c : isLet (hr w n a) = true
    · rw [if_pos c, if_pos]
      exact (rng_iff _ (k := 5) (by omega)).mpr ((let_iff _).mp c)
    · rw [if_neg c, if_neg]
      exact fun q => c ((let_iff _).mpr ((rng_iff _ (k := 5) (by omega)).mp q))
  have h6 : mup u 88 11 (hr w n a - nI 97) 88 6 = nI a := by rw [mup_sne (by decide)]; exact h5
  rw [f_X7_numberHere, mBe (here_s h h5 (by omega)), mSe, mBe (here_s (h.up (by decide)) h6 (by omega)), mBe (let7 _ _)]
  by_cases c : isLet (hr w n a) = true
  · rw [if_pos c, if_neg (by decide), b_X7_numberHere_31, mSe, mup_sne (by decide), mup_self, mBe (e _), if_pos c, gdt z_one, h6, nI_1]
    rw [if_pos c]
  · rw [if_neg c, if_pos rfl, b_X7_numberHere_31, mSe, mup_sne (by decide), mup_self, mBe (e _), if_neg c, gdt z_zero, h6]
    rw [show nI a + 0 = nI a from Int32.add_zero _, if_neg c]
theorem isR_s (x : Int32) (u : MU) : f_X7_isRoutine x u = some (if 0 ≤ x.toInt ∧ x.toInt ≤ 5 then 1 else 0, u) := by
  rw [f_X7_isRoutine, mBe (in_s _ 0 5 0 5 (by decide) (by decide) u)]
  by_cases c : 0 ≤ x.toInt ∧ x.toInt ≤ 5
  · rw [if_pos c, gdt z_one]
  · rw [if_neg c, gdt z_zero]
def pf (u v : MU) : Prop := (∀ k : Nat, k ≠ 88 → v k = u k) ∧ ∀ j : Nat, (j < 6 ∨ j = 7 ∨ 13 < j) → v 88 j = u 88 j
theorem pf.rf (u : MU) : pf u u := ⟨fun _ _ => rfl, fun _ _ => rfl⟩
theorem pf.tr {u v t : MU} (h : pf u v) (g : pf v t) : pf u t := ⟨fun k hk => (g.1 k hk).trans (h.1 k hk), fun j hj => (g.2 j hj).trans (h.2 j hj)⟩
theorem pf.up {u v : MU} {j : Nat} {x : Int32} (h : pf u v) (hj : j = 6 ∨ (8 ≤ j ∧ j ≤ 13)) : pf u (mup v 88 j x) := by
  refine h.tr ⟨fun k hk => mup_ne hk, fun i h1 => mup_sne ?_⟩
  omega
theorem pf3.pf {u v : MU} (h : pf3 u v) : pf u v := ⟨h.1, fun j hj => h.2 j (by omega) (by omega) (by omega)⟩
theorem mT.pf {u v : MU} {r n : Nat} {w : Nat → Int32} (h : mT u r w n) (g : pf u v) : mT v r w n := by
  obtain ⟨h1, h2, h3, h4, h5⟩ := h
  exact ⟨h1, h2, by rw [g.2 7 (by omega)]; exact h3, by rw [g.1 90 (by decide)]; exact h4, fun j hj => by rw [g.1 89 (by decide)]; exact h5 j hj⟩
/-- what a statement that is whole leaves in the model's fields -/
def sOK (v : MU) (x : Nat) (now : Nat → Int32) (s : pSt) : Prop :=
  (s.1 = 0 → v 88 10 = nI 61 ∨ v 88 10 = nI 35) ∧ (s.1 = 1 → v 88 10 = nI 43 ∨ v 88 10 = nI 94) ∧ (s.1 = 2 → v 88 10 = nI 63) ∧ (s.1 = 3 → v 88 10 = nI 99) ∧
  (s.1 < 3 → v 88 11 = nI (plc s.2.1 x)) ∧ (s.1 = 3 → v 88 12 = nI s.2.2.1 ∧ v 88 13 = nI (plc s.2.1 x - 6)) ∧
  (s.1 < 2 → v 88 8 = irm (s.2.2.2.foldl (fun s l => s + lvl now x l) 0) (nI 100) ∧ v 88 9 = s.2.2.2.foldl (fun s l => s ||| lbt x l) 0)
theorem call_s1 {u : MU} {r n a x : Nat} {w : Nat → Int32} (hx : x < 12) (ha : a < n) (h : mT u r w n) (h5 : u 88 6 = nI a) (c : ¬ hr w n a < nI 48 ∧ hr w n a < nI 54) : ∃ v : MU, f_X7_callHere (nI x) u = some (oB (pI w n (a + 1)).2, v) ∧ pf u v ∧ v 88 10 = u 88 10 ∧ v 88 6 = nI (pI w n (a + 1)).1 ∧ ∀ s, (pI w n (a + 1)).2 = some s → v 88 12 = nI (dgt (hr w n a)) ∧ v 88 13 = nI (plc s x - 6) := by
  have hn := h.2.1
  rw [f_X7_callHere, mBe (here_s h h5 (by omega)), mSe, mup_self, mBe (isR_s _ _)]
  have hq : 0 ≤ (hr w n a - nI 48).toInt ∧ (hr w n a - nI 48).toInt ≤ 5 := (rng_iff (hr w n a) (a := 48) (k := 5) (by omega)).mpr ((call_iff _).mp c)
  obtain ⟨d, hd, he⟩ := (call_iff _).mp c
  have h6 : mup u 88 12 (hr w n a - nI 48) 88 6 = nI a := by rw [mup_sne (by decide)]; exact h5
  have hI := pI_le (w := w) (n := n) (a := a + 1) (by omega)
  rw [if_pos hq, if_neg (by decide), mSe, h6, nI_1, mBe (index_s hx (show a + 1 ≤ n by omega) ((h.up (by decide)).up (by decide)) mup_self), mSe, mup_self]
  refine ⟨mup (mup (mup (mup u 88 12 (hr w n a - nI 48)) 88 6 (nI (a + 1))) 88 6 (nI (pI w n (a + 1)).1)) 88 13 (match (pI w n (a + 1)).2 with
        | some s => nI (plc s x - 6)
        | none => -6), ?_, ?_, ?_, ?_, fun s hs => ?_⟩
  · cases hp : (pI w n (a + 1)).2 with
    | none => exact if_pos (show (-6 : Int32) < 0 by decide)
    | some s =>
      have hp6 : plc s x < 18 := by
        have := hI.2.2 s hp
        unfold plc; split <;> omega
      exact if_neg (fun q => (l0_ (by omega)).mp q)
  · exact ((((pf.rf u).up (by omega)).up (by omega)).up (by omega)).up (by omega)
  · rw [mup_sne (by decide), mup_sne (by decide), mup_sne (by decide), mup_sne (by decide)]
  · rw [mup_sne (by decide), mup_self]
  · refine ⟨?_, ?_⟩
    · rw [mup_sne (by decide), mup_sne (by decide), mup_sne (by decide), mup_self, he, sub_ (by omega), dgt, nc_ (by omega)]
    · rw [mup_self, hs]
theorem call_s0 {u : MU} {r n a x : Nat} {w : Nat → Int32} (ha : a ≤ n) (h : mT u r w n) (h5 : u 88 6 = nI a) (c : ¬ (¬ hr w n a < nI 48 ∧ hr w n a < nI 54)) : ∃ v : MU, f_X7_callHere (nI x) u = some (0, v) ∧ pf u v ∧ v 88 6 = nI a := by
  have hn := h.2.1
  rw [f_X7_callHere, mBe (here_s h h5 (by omega)), mSe, mup_self, mBe (isR_s _ _)]
  rw [if_neg (fun q : 0 ≤ (hr w n a - nI 48).toInt ∧ (hr w n a - nI 48).toInt ≤ 5 => c ((call_iff _).mpr ((rng_iff (hr w n a) (a := 48) (k := 5) (by omega)).mp q))), if_pos rfl]
  exact ⟨_, rfl, (pf.rf u).up (by omega), by rw [mup_sne (by decide)]; exact h5⟩
