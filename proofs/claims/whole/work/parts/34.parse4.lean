theorem tail_s {u u3 : MU} {r n b x k sp : Nat} {w : Nat → Int32} (hx : x < 12) (hb : b ≤ n) (h : mT u3 r w n) (h5 : u3 88 6 = nI b) (hp : pf u u3) (hk : (k = 0 ∧ (u3 88 10 = nI 61 ∨ u3 88 10 = nI 35)) ∨ (k = 1 ∧ (u3 88 10 = nI 43 ∨ u3 88 10 = nI 94))) (h11 : u3 88 11 = nI (plc sp x)) : ∃ v : MU, b_X7_statement_145 (nI x) u3 = some (oB (pTS w n k sp b).2, v) ∧ pf u v ∧ v 88 6 = nI (pTS w n k sp b).1 ∧ ∀ s, (pTS w n k sp b).2 = some s → sOK v x (u 99) s := by
  obtain ⟨v, e1, e2, e3, e4⟩ := term_s hx hb h h5
  rw [b_X7_statement_145, mBe e1]
  unfold pTS
  cases hq : pT w n 31 1 b with
  | mk b' o =>
    rw [hq] at e3 e4
    cases o with
    | none => exact ⟨v, rfl, hp.tr e2.pf, e3, fun s hs => by cases hs⟩
    | some ls =>
      refine ⟨v, rfl, hp.tr e2.pf, e3, fun s hs => ?_⟩
      cases hs
      have q := e4 ls rfl
      rw [hp.1 99 (by decide)] at q
      have q10 : v 88 10 = u3 88 10 := e2.2 10 (by decide) (by decide) (by decide)
      have q11 : v 88 11 = u3 88 11 := e2.2 11 (by decide) (by decide) (by decide)
      refine ⟨fun hk0 => ?_, fun hk1 => ?_, fun hk2 => ?_, fun hk3 => ?_, fun _ => q11.trans h11, fun hk3 => ?_, fun _ => q⟩
      · rw [q10]
        rcases hk with hk | hk
        · exact hk.2
        · have : k = 0 := hk0
          omega
      · rw [q10]
        rcases hk with hk | hk
        · have : k = 1 := hk1
          omega
        · exact hk.2
      · have : k = 2 := hk2
        omega
      · have : k = 3 := hk3
        omega
      · have : k = 3 := hk3
        omega
theorem plc_lt {s x : Nat} (h : s < 18) : plc s x = s := by unfold plc; rw [if_pos h]
set_option maxHeartbeats 1000000 in
theorem stmt_s {u : MU} {r n a x : Nat} {w : Nat → Int32} (hx : x < 12) (ha : a < n) (h : mT u r w n) (h5 : u 88 6 = nI a) : ∃ v : MU, f_X7_statement (nI x) u = some (oB (pS w n a).2, v) ∧ pf u v ∧ v 88 6 = nI (pS w n a).1 ∧ ∀ s, (pS w n a).2 = some s → sOK v x (u 99) s := by
  have hn := h.2.1
  have h1 : mT (mup u 88 10 (hr w n a)) r w n := h.up (by decide)
  have h15 : mup u 88 10 (hr w n a) 88 6 = nI a := by rw [mup_sne (by decide)]; exact h5
  have h2 : mT (mup (mup u 88 10 (hr w n a)) 88 6 (nI (a + 1))) r w n := h1.up (by decide)
  have h2k : mup (mup u 88 10 (hr w n a)) 88 6 (nI (a + 1)) 88 10 = hr w n a := by rw [mup_sne (by decide), mup_self]
  have p2 : pf u (mup (mup u 88 10 (hr w n a)) 88 6 (nI (a + 1))) := ((pf.rf u).up (by omega)).up (by omega)
  rw [f_X7_statement, mBe (here_s h h5 (by omega)), mSe, mup_self]
  -- number, and a term
  have num : ∀ (x2 : Int32) (k : Nat), ¬ x2 = 0 → ((k = 0 ∧ (hr w n a = nI 61 ∨ hr w n a = nI 35)) ∨ (k = 1 ∧ (hr w n a = nI 43 ∨ hr w n a = nI 94))) → ¬ hr w n a = nI 99 → ¬ hr w n a = nI 63 → ∃ v : MU, b_X7_statement_84 (nI x) x2 (mup u 88 10 (hr w n a)) = some (oB (if isLet (hr w n (a + 1)) = true then pTS w n k (ltr (hr w n (a + 1))) (a + 2) else (a + 1, none)).2, v) ∧ pf u v ∧ v 88 6 = nI (if isLet (hr w n (a + 1)) = true then pTS w n k (ltr (hr w n (a + 1))) (a + 2) else (a + 1, none)).1 ∧ ∀ s, (if isLet (hr w n (a + 1)) = true then pTS w n k (ltr (hr w n (a + 1))) (a + 2) else (a + 1, none)).2 = some s → sOK v x (u 99) s := by
    intro x2 k hx2 hk n99 n63
    rw [b_X7_statement_84, mSe, h15, nI_1, h2k, if_neg n99, if_neg n63, if_neg hx2, mBe (number_s (show a + 1 ≤ n by omega) h2 mup_self)]
    by_cases c : isLet (hr w n (a + 1)) = true
    · have hl := let_lt c
      obtain ⟨d, hd, he⟩ := let_of c
      have e2 : ltr (hr w n (a + 1)) = d := by rw [he, ltr, nc_ (by omega)]; omega
      simp only [if_pos c]
      rw [if_neg (show ¬ (1 : Int32) = 0 by decide)]
      refine tail_s hx (by omega) ((h2.up (by decide)).up (by decide)) ?_ ((p2.up (by omega)).up (by omega)) ?_ ?_
      · rw [mup_self]
      · rw [mup_sne (by decide), mup_sne (by decide), h2k]; exact hk
      · rw [mup_sne (by decide), mup_self, e2, plc_lt (by omega), he, sub_ (by omega), show 97 + d - 97 = d by omega]
    · simp only [if_neg c]
      rw [if_pos trivial]
      refine ⟨_, rfl, (p2.up (by omega)).up (by omega), ?_, fun s hs => by cases hs⟩
      rw [mup_self]
  have cel : ∀ (k : Nat), ((k = 0 ∧ (hr w n a = nI 61 ∨ hr w n a = nI 35)) ∨ (k = 1 ∧ (hr w n a = nI 43 ∨ hr w n a = nI 94))) → ¬ hr w n a = nI 99 → ¬ hr w n a = nI 63 → ∃ v : MU, b_X7_statement_84 (nI x) 0 (mup u 88 10 (hr w n a)) = some (oB (match pI w n (a + 1) with
      | (b, some s) => pTS w n k s b
      | (b, none) => (b, none)).2, v) ∧ pf u v ∧ v 88 6 = nI (match pI w n (a + 1) with
      | (b, some s) => pTS w n k s b
      | (b, none) => (b, none)).1 ∧ ∀ s, (match pI w n (a + 1) with
      | (b, some s) => pTS w n k s b
      | (b, none) => (b, none)).2 = some s → sOK v x (u 99) s := by
    intro k hk n99 n63
    have hI := pI_le (w := w) (n := n) (a := a + 1) (by omega)
    rw [b_X7_statement_84, mSe, h15, nI_1, h2k, if_neg n99, if_neg n63, if_pos rfl, f_X7_cellHere, mBe (index_s hx (show a + 1 ≤ n by omega) h2 mup_self), mSe, mup_mup]
    cases hp : pI w n (a + 1) with
    | mk b o =>
      rw [hp] at hI
      cases o with
      | none =>
        dsimp only
        rw [if_pos (by decide), mBs, if_pos rfl]
        exact ⟨_, rfl, (((pf.rf u).up (by omega)).up (by omega)).up (by omega), by rw [mup_sne (by decide), mup_self], fun s hs => by cases hs⟩
      | some s =>
        have hs := hI.2.2 s rfl
        have hp6 : 6 ≤ plc s x ∧ plc s x < 18 := by unfold plc; split <;> omega
        dsimp only at hI hs ⊢
        rw [if_neg (fun q => (l0_ (by omega)).mp q), mBs, if_neg (by decide)]
        refine tail_s hx hI.2.1 ((h1.up (by decide)).up (by decide)) ?_ ((((pf.rf u).up (by omega)).up (by omega)).up (by omega)) ?_ ?_
        · rw [mup_sne (by decide), mup_self]
        · rw [mup_sne (by decide), mup_sne (by decide), mup_self]; exact hk
        · rw [mup_self, nI_add, show 6 + (plc s x - 6) = plc s x by omega]
  by_cases c61 : hr w n a = nI 61
  · have e : pS w n a = (if isLet (hr w n (a + 1)) = true then pTS w n 0 (ltr (hr w n (a + 1))) (a + 2) else (a + 1, none)) := by
      unfold pS
      rw [if_pos (Or.inl c61), if_pos c61]
    rw [e, if_pos c61, b_X7_statement_26, b_X7_statement_31, mup_self, if_neg (by rw [c61]; decide), if_neg (by rw [c61]; decide), b_X7_statement_55, if_neg (by decide)]
    exact num 1 0 (by decide) (Or.inl ⟨rfl, Or.inl c61⟩) (by rw [c61]; decide) (by rw [c61]; decide)
  · rw [if_neg c61]
    by_cases c43 : hr w n a = nI 43
    · have e : pS w n a = (if isLet (hr w n (a + 1)) = true then pTS w n 1 (ltr (hr w n (a + 1))) (a + 2) else (a + 1, none)) := by
        unfold pS
        rw [if_pos (Or.inr c43), if_neg c61]
      rw [e, if_pos c43, b_X7_statement_26, b_X7_statement_31, mup_self, if_neg (by rw [c43]; decide), if_neg (by rw [c43]; decide), b_X7_statement_55, if_neg (by decide)]
      exact num 1 1 (by decide) (Or.inr ⟨rfl, Or.inl c43⟩) (by rw [c43]; decide) (by rw [c43]; decide)
    · have e1 : ¬ (hr w n a = nI 61 ∨ hr w n a = nI 43) := fun q => q.elim c61 c43
      rw [if_neg c43, b_X7_statement_31, mup_self]
      by_cases c35 : hr w n a = nI 35
      · have e : pS w n a = (match pI w n (a + 1) with
          | (b, some s) => pTS w n 0 s b
          | (b, none) => (b, none)) := by
          unfold pS
          rw [if_neg e1, if_pos (Or.inl c35), if_pos c35]
          rfl
        rw [e, if_pos c35, b_X7_statement_50, b_X7_statement_55, if_pos rfl, if_neg (by decide)]
        exact cel 0 (Or.inl ⟨rfl, Or.inr c35⟩) (by rw [c35]; decide) (by rw [c35]; decide)
      · rw [if_neg c35]
        by_cases c94 : hr w n a = nI 94
        · have e : pS w n a = (match pI w n (a + 1) with
            | (b, some s) => pTS w n 1 s b
            | (b, none) => (b, none)) := by
            unfold pS
            rw [if_neg e1, if_pos (Or.inr c94), if_neg c35]
            rfl
          rw [e, if_pos c94, b_X7_statement_50, b_X7_statement_55, if_pos rfl, if_neg (by decide)]
          exact cel 1 (Or.inr ⟨rfl, Or.inr c94⟩) (by rw [c94]; decide) (by rw [c94]; decide)
        · have e2 : ¬ (hr w n a = nI 35 ∨ hr w n a = nI 94) := fun q => q.elim c35 c94
          rw [if_neg c94, b_X7_statement_55, if_pos rfl, if_pos rfl, mup_self]
          by_cases c63 : hr w n a = nI 63
          · have e : pS w n a = (if isLet (hr w n (a + 1)) = true then (a + 2, some (2, ltr (hr w n (a + 1)), 0, [])) else (a + 1, none)) := by
              unfold pS
              rw [if_neg e1, if_neg e2, if_pos c63]
            rw [e, if_pos c63, b_X7_statement_84, mSe, h15, nI_1, h2k, if_neg (by rw [c63]; decide), if_pos c63, mBe (number_s (show a + 1 ≤ n by omega) h2 mup_self)]
            by_cases c : isLet (hr w n (a + 1)) = true
            · have hl := let_lt c
              obtain ⟨d, hd, he⟩ := let_of c
              have e2 : ltr (hr w n (a + 1)) = d := by rw [he, ltr, nc_ (by omega)]; omega
              simp only [if_pos c]
              rw [gdt z_one]
              refine ⟨_, rfl, (p2.up (by omega)).up (by omega), ?_, fun s hs => ?_⟩
              · rw [mup_self]
              · cases hs
                refine ⟨fun q => (by cases q), fun q => (by cases q), fun _ => ?_, fun q => (by cases q), fun _ => ?_, fun q => (by cases q), fun q => (by simp at q)⟩
                · rw [mup_sne (by decide), mup_sne (by decide), h2k]; exact c63
                · show _ = nI (plc (ltr (hr w n (a + 1))) x)
                  rw [mup_sne (by decide), mup_self, e2, plc_lt (by omega), he, sub_ (by omega), show 97 + d - 97 = d by omega]
            · simp only [if_neg c]
              rw [gdt z_zero]
              refine ⟨_, rfl, (p2.up (by omega)).up (by omega), ?_, fun s hs => by cases hs⟩
              rw [mup_self]
          · rw [if_neg c63]
            by_cases c99 : hr w n a = nI 99
            · rw [if_pos c99, b_X7_statement_84, mSe, h15, nI_1, h2k, if_pos c99]
              by_cases c : ¬ hr w n (a + 1) < nI 48 ∧ hr w n (a + 1) < nI 54
              · have hl : a + 1 < n := hr_lt (w := w) (c := hr w n (a + 1)) rfl (fun q => by rw [q] at c; exact absurd c (by decide))
                obtain ⟨v, e1', e2', e3, e4, e5⟩ := call_s1 hx hl h2 mup_self c
                have e : pS w n a = (match pI w n (a + 2) with
                  | (b, some s) => (b, some (3, s, dgt (hr w n (a + 1)), []))
                  | (b, none) => (b, none)) := by
                  unfold pS
                  rw [if_neg e1, if_neg e2, if_neg c63, if_pos c99, if_pos c]
                  rfl
                rw [mBe e1', e]
                have e10 : v 88 10 = nI 99 := by rw [e3, h2k]; exact c99
                cases hp : pI w n (a + 2) with
                | mk b o =>
                  rw [show a + 1 + 1 = a + 2 from rfl, hp] at e4 e5
                  cases o with
                  | none =>
                    rw [gdt (show mZ (oB (b, (none : Option Nat)).2) = true from rfl)]
                    exact ⟨v, rfl, p2.tr e2', e4, fun s hs => by cases hs⟩
                  | some s =>
                    rw [gdt (show mZ (oB (b, some s).2) = true from rfl)]
                    refine ⟨v, rfl, p2.tr e2', e4, fun s hs => ?_⟩
                    cases hs
                    exact ⟨fun q => (by cases q), fun q => (by cases q), fun q => (by cases q), fun _ => e10, fun q => (by simp at q), fun _ => e5 _ rfl, fun q => (by simp at q)⟩
              · obtain ⟨v, e1', e2', e3⟩ := call_s0 (x := x) (show a + 1 ≤ n by omega) h2 mup_self c
                have e : pS w n a = (a + 1, none) := by
                  unfold pS
                  rw [if_neg e1, if_neg e2, if_neg c63, if_pos c99, if_neg c]
                rw [mBe e1', e, gdt z_zero]
                exact ⟨v, rfl, p2.tr e2', e3, fun s hs => by cases hs⟩
            · have e : pS w n a = (a, none) := by
                unfold pS
                rw [if_neg e1, if_neg e2, if_neg c63, if_neg c99]
              rw [if_neg c99, e]
              exact ⟨_, rfl, (pf.rf u).up (by omega), h15, fun s hs => by cases hs⟩
