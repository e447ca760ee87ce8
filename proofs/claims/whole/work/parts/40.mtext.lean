def pf7 (u v : MU) : Prop := (∀ k : Nat, k ≠ 88 → v k = u k) ∧ ∀ j : Nat, (j < 6 ∨ 13 < j) → v 88 j = u 88 j
theorem pf7.rf (u : MU) : pf7 u u := ⟨fun _ _ => rfl, fun _ _ => rfl⟩
theorem pf7.tr {u v t : MU} (h : pf7 u v) (g : pf7 v t) : pf7 u t := ⟨fun k hk => (g.1 k hk).trans (h.1 k hk), fun j hj => (g.2 j hj).trans (h.2 j hj)⟩
theorem pf.pf7 {u v : MU} (h : pf u v) : pf7 u v := ⟨h.1, fun j hj => h.2 j (by omega)⟩
theorem pf7.up {u v : MU} {j : Nat} {x : Int32} (h : pf7 u v) (hj : 6 ≤ j ∧ j ≤ 13) : pf7 u (mup v 88 j x) := h.tr ⟨fun _ hk => mup_ne hk, fun _ _ => mup_sne (by omega)⟩
theorem more_s {u : MU} {r n a : Nat} {w : Nat → Int32} (h : mT u r w n) (ha : u 88 6 = nI a) (hb : a ≤ 1000) : f_X7_isMore u = some (if a < n then 1 else 0, u) := by
  obtain ⟨h1, h2, h3, h4, h5⟩ := h
  rw [f_X7_isMore, h3, ha, gdt (ix_ h1 (by omega)), nc_ (by omega), h4]
  by_cases c : a < n
  · rw [if_neg (fun q => absurd ((le_ (by omega) (by omega)).mp q) (by omega)), if_pos c]
  · rw [if_pos ((le_ (by omega) (by omega)).mpr (by omega)), if_neg c]
theorem begin_s {u : MU} {r : Nat} : f_X7_begin (nI r) u = some (0, mup (mup u 88 7 (nI r)) 88 6 0) := rfl
theorem mT.begin {u : MU} {r n : Nat} {w : Nat → Int32} (hr : r < 6) (hn : n ≤ 30) (h90 : u 90 r = nI n) (hw : ∀ j : Nat, j < n → u 89 (30 * r + j) = w j) : mT (mup (mup u 88 7 (nI r)) 88 6 0) r w n := by
  refine ⟨hr, hn, ?_, ?_, fun j hj => ?_⟩
  · rw [mup_sne (by decide), mup_self]
  · rw [mup_ne (by decide), mup_ne (by decide)]; exact h90
  · rw [mup_ne (by decide), mup_ne (by decide)]; exact hw j hj
theorem fault_l {r n : Nat} {w : Nat → Int32} (hn : n ≤ 30) : ∀ (d a f F : Nat) (u : MU), n - a ≤ d → d < f → d < F → a ≤ n → mT u r w n → u 88 6 = nI a → ∃ v : MU, l_X7_faultOf_5 F u = some (oF (pA w n f a).2, v) ∧ pf u v := by
  intro d
  induction d with
  | zero =>
    intro a f F u h1 h2 h2' h3 h4 h5
    obtain ⟨f, rfl⟩ : ∃ g, f = g + 1 := ⟨f - 1, by omega⟩
    obtain ⟨F, rfl⟩ : ∃ g, F = g + 1 := ⟨F - 1, by omega⟩
    rw [l_X7_faultOf_5, b_X7_faultOf_5, mBe (more_s h4 h5 (by omega)), if_neg (show ¬ a < n by omega), if_pos rfl, pA, if_neg (by omega)]
    exact ⟨u, rfl, pf.rf u⟩
  | succ d ih =>
    intro a f F u h1 h2 h2' h3 h4 h5
    obtain ⟨f, rfl⟩ : ∃ g, f = g + 1 := ⟨f - 1, by omega⟩
    obtain ⟨F, rfl⟩ : ∃ g, F = g + 1 := ⟨F - 1, by omega⟩
    rw [l_X7_faultOf_5, b_X7_faultOf_5, mBe (more_s h4 h5 (by omega)), pA]
    by_cases hl : a < n
    · rw [if_pos hl, if_neg (by decide), if_pos hl]
      obtain ⟨v, e1, e2, e3, -⟩ := stmt_s (x := 0) (by omega) hl h4 h5
      obtain ⟨p1, p2, p3⟩ := pS_le (w := w) hl
      rw [show (0 : Int32) = nI 0 from rfl, mBe e1]
      cases hp : pS w n a with
      | mk b o =>
        rw [hp] at e3 p1 p2 p3
        cases o with
        | none =>
          rw [if_pos (show oB (b, (none : Option pSt)).2 = nI 0 from rfl), e3]
          exact ⟨v, rfl, e2⟩
        | some st =>
          obtain ⟨q1, -, -⟩ := p3 st rfl
          dsimp only at e3 p1 p2 q1 ⊢
          rw [if_neg (show ¬ oB (some st) = nI 0 from (by decide : ¬ (1 : Int32) = nI 0))]
          obtain ⟨t, g1, g2⟩ := ih b f F v (by omega) (by omega) (by omega) (by omega) (h4.pf e2) e3
          exact ⟨t, g1, e2.tr g2⟩
    · rw [if_neg hl, if_pos rfl, if_neg hl]
      exact ⟨u, rfl, pf.rf u⟩
theorem faultOf_s {u : MU} {r n : Nat} {w : Nat → Int32} (hr : r < 6) (hn : n ≤ 30) (h90 : u 90 r = nI n) (hw : ∀ j : Nat, j < n → u 89 (30 * r + j) = w j) : ∃ v : MU, f_X7_faultOf (nI r) u = some (oF (pA w n 31 0).2, v) ∧ pf7 u v := by
  rw [f_X7_faultOf, mBe begin_s]
  obtain ⟨v, e1, e2⟩ := fault_l hn 30 0 31 FU _ (by omega) (by omega) (by unfold FU; omega) (by omega) (mT.begin hr hn h90 hw) (by rw [mup_self]; rfl)
  exact ⟨v, e1, (((pf7.rf u).up (by omega)).up (by omega)).tr e2.pf7⟩
def cbA (b : Int32) (st : pSt) : Int32 := if st.1 = 3 then b ||| btI st.2.2.1 else b
theorem kind_call {v : MU} {x : Nat} {now : Nat → Int32} {st : pSt} (h : sOK v x now st) (hk : st.1 ≤ 3) : v 88 10 = nI 99 ↔ st.1 = 3 := by
  obtain ⟨h0, h1, h2, h3, -⟩ := h
  constructor
  · intro q
    rcases (show st.1 = 0 ∨ st.1 = 1 ∨ st.1 = 2 ∨ st.1 = 3 by omega) with k | k | k | k
    · rcases h0 k with e | e <;> · rw [e] at q; exact absurd q (by decide)
    · rcases h1 k with e | e <;> · rw [e] at q; exact absurd q (by decide)
    · rw [h2 k] at q; exact absurd q (by decide)
    · exact k
  · exact h3
theorem calls_l {r n : Nat} {w : Nat → Int32} (hn : n ≤ 30) : ∀ (d a f F : Nat) (bits : Int32) (u : MU), n - a ≤ d → d < f → d < F → a ≤ n → mT u r w n → u 88 6 = nI a → ∃ v : MU, l_X7_callsOf_7 F bits u = some ((pA w n f a).1.foldl cbA bits, v) ∧ pf u v := by
  intro d
  induction d with
  | zero =>
    intro a f F bits u h1 h2 h2' h3 h4 h5
    obtain ⟨f, rfl⟩ : ∃ g, f = g + 1 := ⟨f - 1, by omega⟩
    obtain ⟨F, rfl⟩ : ∃ g, F = g + 1 := ⟨F - 1, by omega⟩
    rw [l_X7_callsOf_7, b_X7_callsOf_7, mBe (more_s h4 h5 (by omega)), if_neg (show ¬ a < n by omega), if_pos rfl, pA, if_neg (by omega)]
    exact ⟨u, rfl, pf.rf u⟩
  | succ d ih =>
    intro a f F bits u h1 h2 h2' h3 h4 h5
    obtain ⟨f, rfl⟩ : ∃ g, f = g + 1 := ⟨f - 1, by omega⟩
    obtain ⟨F, rfl⟩ : ∃ g, F = g + 1 := ⟨F - 1, by omega⟩
    rw [l_X7_callsOf_7, b_X7_callsOf_7, mBe (more_s h4 h5 (by omega)), pA]
    by_cases hl : a < n
    · rw [if_pos hl, if_neg (by decide), if_pos hl]
      obtain ⟨v, e1, e2, e3, e4⟩ := stmt_s (x := 0) (by omega) hl h4 h5
      obtain ⟨p1, p2, p3⟩ := pS_le (w := w) hl
      rw [show f_X7_statement 0 u = f_X7_statement (nI 0) u from rfl, mBe e1]
      cases hp : pS w n a with
      | mk b o =>
        rw [hp] at e3 e4 p1 p2 p3
        cases o with
        | none =>
          rw [if_pos (show oB (b, (none : Option pSt)).2 = 0 from rfl)]
          exact ⟨v, rfl, e2⟩
        | some st =>
          obtain ⟨q1, -, q3⟩ := p3 st rfl
          have hs := e4 st rfl
          dsimp only at e3 p1 p2 q1 ⊢
          rw [if_neg (show ¬ oB (some st) = 0 from (by decide : ¬ (1 : Int32) = 0)), List.foldl_cons]
          by_cases c : st.1 = 3
          · have h12 : v 88 12 = nI st.2.2.1 := (hs.2.2.2.2.2.1 c).1
            rw [if_pos ((kind_call hs q3.1).mpr c), b_X7_callsOf_42, h12]
            obtain ⟨t, g1, g2⟩ := ih b f F (bits ||| btI st.2.2.1) v (by omega) (by omega) (by omega) (by omega) (h4.pf e2) e3
            refine ⟨t, ?_, e2.tr g2⟩
            rw [show cbA bits st = bits ||| btI st.2.2.1 from if_pos c]
            exact g1
          · rw [if_neg (fun q => c ((kind_call hs q3.1).mp q)), b_X7_callsOf_42, show bits ||| 0 = bits from Int32.or_zero]
            obtain ⟨t, g1, g2⟩ := ih b f F bits v (by omega) (by omega) (by omega) (by omega) (h4.pf e2) e3
            refine ⟨t, ?_, e2.tr g2⟩
            rw [show cbA bits st = bits from if_neg c]
            exact g1
    · rw [if_neg hl, if_pos rfl, if_neg hl]
      exact ⟨u, rfl, pf.rf u⟩
theorem callsOf_s {u : MU} {r n : Nat} {w : Nat → Int32} (hr : r < 6) (hn : n ≤ 30) (h90 : u 90 r = nI n) (hw : ∀ j : Nat, j < n → u 89 (30 * r + j) = w j) : ∃ v : MU, f_X7_callsOf (nI r) u = some ((pA w n 31 0).1.foldl cbA 0, v) ∧ pf7 u v := by
  rw [f_X7_callsOf, mBe begin_s]
  obtain ⟨v, e1, e2⟩ := calls_l hn 30 0 31 FU 0 _ (by omega) (by omega) (by unfold FU; omega) (by omega) (mT.begin hr hn h90 hw) (by rw [mup_self]; rfl)
  exact ⟨v, e1, (((pf7.rf u).up (by omega)).up (by omega)).tr e2.pf7⟩
theorem many_l {r n : Nat} {w : Nat → Int32} (hn : n ≤ 30) : ∀ (d a f F m : Nat) (u : MU), n - a ≤ d → d < f → d < F → a ≤ n → mT u r w n → u 88 6 = nI a → ∃ v : MU, l_X7_statementsOf_7 F (nI m) u = some ((match (pA w n f a).2 with
    | none => nI (m + (pA w n f a).1.length)
    | some _ => -6), v) ∧ pf u v := by
  intro d
  induction d with
  | zero =>
    intro a f F m u h1 h2 h2' h3 h4 h5
    obtain ⟨f, rfl⟩ : ∃ g, f = g + 1 := ⟨f - 1, by omega⟩
    obtain ⟨F, rfl⟩ : ∃ g, F = g + 1 := ⟨F - 1, by omega⟩
    rw [l_X7_statementsOf_7, b_X7_statementsOf_7, mBe (more_s h4 h5 (by omega)), if_neg (show ¬ a < n by omega), if_pos rfl, pA, if_neg (by omega)]
    exact ⟨u, rfl, pf.rf u⟩
  | succ d ih =>
    intro a f F m u h1 h2 h2' h3 h4 h5
    obtain ⟨f, rfl⟩ : ∃ g, f = g + 1 := ⟨f - 1, by omega⟩
    obtain ⟨F, rfl⟩ : ∃ g, F = g + 1 := ⟨F - 1, by omega⟩
    rw [l_X7_statementsOf_7, b_X7_statementsOf_7, mBe (more_s h4 h5 (by omega)), pA]
    by_cases hl : a < n
    · rw [if_pos hl, if_neg (by decide), if_pos hl]
      obtain ⟨v, e1, e2, e3, e4⟩ := stmt_s (x := 0) (by omega) hl h4 h5
      obtain ⟨p1, p2, p3⟩ := pS_le (w := w) hl
      rw [show f_X7_statement 0 u = f_X7_statement (nI 0) u from rfl, mBe e1]
      cases hp : pS w n a with
      | mk b o =>
        rw [hp] at e3 e4 p1 p2 p3
        cases o with
        | none =>
          rw [if_pos (show oB (b, (none : Option pSt)).2 = 0 from rfl)]
          exact ⟨v, rfl, e2⟩
        | some st =>
          obtain ⟨q1, -, q3⟩ := p3 st rfl
          dsimp only at e3 p1 p2 q1 ⊢
          rw [if_neg (show ¬ oB (some st) = 0 from (by decide : ¬ (1 : Int32) = 0)), nI_1]
          obtain ⟨t, g1, g2⟩ := ih b f F (m + 1) v (by omega) (by omega) (by omega) (by omega) (h4.pf e2) e3
          refine ⟨t, ?_, e2.tr g2⟩
          rw [g1, List.length_cons]
          cases (pA w n f b).2 with
          | none => rw [show m + 1 + (pA w n f b).1.length = m + ((pA w n f b).1.length + 1) by omega]
          | some _ => rfl
    · rw [if_neg hl, if_pos rfl, if_neg hl]
      exact ⟨u, rfl, pf.rf u⟩
theorem manyOf_s {u : MU} {r n : Nat} {w : Nat → Int32} (hr : r < 6) (hn : n ≤ 30) (h90 : u 90 r = nI n) (hw : ∀ j : Nat, j < n → u 89 (30 * r + j) = w j) : ∃ v : MU, f_X7_statementsOf (nI r) u = some ((match (pA w n 31 0).2 with
    | none => nI (pA w n 31 0).1.length
    | some _ => -6), v) ∧ pf7 u v := by
  rw [f_X7_statementsOf, mBe begin_s]
  obtain ⟨v, e1, e2⟩ := many_l hn 30 0 31 FU 0 _ (by omega) (by omega) (by unfold FU; omega) (by omega) (mT.begin hr hn h90 hw) (by rw [mup_self]; rfl)
  refine ⟨v, ?_, (((pf7.rf u).up (by omega)).up (by omega)).tr e2.pf7⟩
  rw [Nat.zero_add] at e1
  exact e1
/-- the class's callees -/
theorem encR_get {v : MU} {q : Nat} : ∀ (ss : List pSt) (s L : Nat), encR v q s L ss → ∀ (i : Nat) (st : pSt), ss[i]? = some st → v (q + 2) (s + i) = nI st.1 ∧ v (q + 3) (s + i) = nI st.2.1 ∧ (st.1 = 3 → v (q + 4) (s + i) = nI st.2.2.1) ∧ v (q + 5) (s + i) = nI (L + lsum (ss.take i) + st.2.2.2.length) ∧ lvsAt v q (L + lsum (ss.take i)) st.2.2.2 := by
  intro ss
  induction ss with
  | nil => intro s L h i st hi; simp at hi
  | cons a ss ih =>
    intro s L h i st hi
    obtain ⟨h1, h2, h3, h4, h5, h6⟩ := h
    cases i with
    | zero =>
      have e : a = st := by simpa using hi
      subst e
      exact ⟨h1, h2, h3, by simp only [List.take_zero, lsum]; exact h4, by simp only [List.take_zero, lsum]; exact h5⟩
    | succ i =>
      have := ih (s + 1) (L + a.2.2.2.length) h6 i st (by simpa using hi)
      rw [show s + (i + 1) = s + 1 + i by omega, List.take_succ_cons]
      simp only [lsum]
      rw [show L + (a.2.2.2.length + lsum (ss.take i)) = L + a.2.2.2.length + lsum (ss.take i) by omega]
      exact this
theorem cbits_l {v : MU} {q : Nat} {ss : List pSt} (hs : ss.length ≤ 15) (h7 : v q 7 = nI ss.length) (he : encR v q 0 0 ss) (ho : ∀ st ∈ ss, stOK st) : ∀ (d i F : Nat) (bits : Int32), ss.length - i ≤ d → d < F → i ≤ ss.length → l_X5_calleeBits_4 q F bits (nI i) v = some ((ss.drop i).foldl cbA bits, v) := by
  intro d
  induction d with
  | zero =>
    intro i F bits h1 h2 h3
    obtain ⟨F, rfl⟩ : ∃ g, F = g + 1 := ⟨F - 1, by omega⟩
    rw [l_X5_calleeBits_4, b_X5_calleeBits_4, h7, if_pos ((le_ (by omega) (by omega)).mpr (by omega)), List.drop_of_length_le (by omega)]
    rfl
  | succ d ih =>
    intro i F bits h1 h2 h3
    obtain ⟨F, rfl⟩ : ∃ g, F = g + 1 := ⟨F - 1, by omega⟩
    rw [l_X5_calleeBits_4, b_X5_calleeBits_4, h7]
    by_cases hl : i < ss.length
    · have hg : ss[i]? = some ss[i] := List.getElem?_eq_getElem hl
      obtain ⟨g1, g2, g3, -⟩ := encR_get ss 0 0 he i ss[i] hg
      rw [Nat.zero_add] at g1 g2 g3
      have hk := (ho ss[i] (List.getElem_mem hl)).1
      rw [if_neg (fun q => absurd ((le_ (by omega) (by omega)).mp q) (by omega)), gdt (ix_ (by omega) (by omega)), nc_ (by omega), g1, List.drop_eq_getElem_cons hl, List.foldl_cons]
      by_cases c : ss[i].1 = 3
      · rw [if_pos (by rw [c]), gdt (ix_ (by omega) (by omega)), g3 c, b_X5_calleeBits_33, nI_1]
        rw [show (bits ||| 1 <<< (nI ss[i].2.2.1 &&& 31)) = cbA bits ss[i] from (if_pos c).symm]
        exact ih (i + 1) F _ (by omega) (by omega) (by omega)
      · rw [if_neg (fun q => c ((eq_ (by omega) (by omega)).mp q)), b_X5_calleeBits_33, nI_1, show cbA bits ss[i] = bits from if_neg c]
        exact ih (i + 1) F _ (by omega) (by omega) (by omega)
    · rw [if_pos ((le_ (by omega) (by omega)).mpr (by omega)), List.drop_of_length_le (by omega)]
      rfl
theorem cbits_s {v : MU} {q n : Nat} {w : Nat → Int32} (h : rOK v q w n) : f_X5_calleeBits q v = some ((pA w n 31 0).1.foldl cbA 0, v) := by
  obtain ⟨-, -, h7, hs, he, -, ho⟩ := h
  rw [f_X5_calleeBits]
  have := cbits_l hs h7 he ho 15 0 FU 0 (by omega) (by unfold FU; omega) (by omega)
  rw [List.drop_zero] at this
  exact this
