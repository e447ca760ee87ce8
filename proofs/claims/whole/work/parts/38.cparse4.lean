def tS (u : MU) (q s a k : Nat) : MU := mup (mup u q 11 (nI (a + 1))) (q + 2) s (nI k)
theorem tS_all {u : MU} {q n s a k Lc : Nat} {w : Nat → Int32} (h : cT u q w n) (h10 : u q 10 = nI Lc) : cT (tS u q s a k) q w n ∧ tS u q s a k q 11 = nI (a + 1) ∧ tS u q s a k q 10 = nI Lc ∧ tS u q s a k (q + 2) s = nI k ∧ ch q s Lc u (tS u q s a k) ∧ tS u q s a k q 7 = u q 7 := by
  unfold tS
  have g : ch q s Lc u (mup (mup u q 11 (nI (a + 1))) (q + 2) s (nI k)) := ((ch.rf q s Lc u).obj (by decide)).row (by omega)
  refine ⟨h.ch g, ?_, ?_, mup_self, g, ?_⟩
  · rw [mup_ne (by omega), mup_self]
  · rw [mup_ne (by omega), mup_sne (by decide)]; exact h10
  · rw [mup_ne (by omega), mup_sne (by decide)]
theorem c51 {u : MU} {q s a k : Nat} {c : Int32} (hs : s < 15) (h5 : u q 11 = nI a) (hk : ∀ v : MU, f_X5_kindOf c v = some (nI k, v)) : b_X5_readStatement_51 q (nI s) c 1 u = (if nI k = nI 3 then mB (f_X5_readCallee q (nI s) (tS u q s a k)) (fun r8 u8 => if r8 = 0 then some (0, u8) else b_X5_readStatement_98 q (nI s) c u8) else b_X5_readStatement_98 q (nI s) c (tS u q s a k)) := by
  rw [b_X5_readStatement_51, if_neg (by decide), mSe, mBe (hk _), gdt (ix_ hs (by omega)), mSe, gdt (ix_ hs (by omega)), nc_ (by omega), mup_self, h5, nI_1]
  rfl
theorem cRes_lt {w : Nat → Int32} {n k sp cl b : Nat} (h : k < 2) : cRes w n k sp cl b = pTS w n k sp b := if_pos h
theorem cRes_ge {w : Nat → Int32} {n k sp cl b : Nat} (h : ¬ k < 2) : cRes w n k sp cl b = (b, some (k, sp, cl, [])) := if_neg h
theorem c116 {u t : MU} {q n s b Lc k cl : Nat} {c : Int32} {w : Nat → Int32} (hc : c = nI 35 ∨ c = nI 94 ∨ c = nI 99) (hs : s < 15) (h0 : 1 ≤ b) (hb : b ≤ n) (hL : Lc ≤ b) (hk : k ≤ 3) (h : cT t q w n) (h5 : t q 11 = nI b) (h10 : t q 10 = nI Lc) (h2 : t (q + 2) s = nI k) (h4 : k = 3 → t (q + 4) s = nI cl) (g : ch q s Lc u t) (h7 : t q 7 = u q 7) (R : Nat × Option pSt) (hR : R = (match pI w n b with
    | (b', some sp) => cRes w n k sp cl b'
    | (b', none) => (b', none))) : ∃ v : MU, b_X5_readStatement_98 q (nI s) c t = some (oB R.2, v) ∧ ch q s Lc u v ∧ v q 11 = nI R.1 ∧ (R.2 = none → v q 7 = u q 7) ∧ ∀ st, R.2 = some st → cOut v q s Lc st := by
  have e : b_X5_readStatement_98 q (nI s) c t = b_X5_readStatement_116 q (nI s) t := by
    rw [b_X5_readStatement_98]
    rcases hc with rfl | rfl | rfl
    · rw [if_pos rfl]
    · rw [if_neg (by decide), if_pos rfl]
    · rw [if_neg (by decide), if_neg (by decide), if_pos rfl]
  have hI := pI_le (w := w) hb
  rw [e, b_X5_readStatement_116, b_X5_readStatement_121, if_neg (by decide), mBe (cidx_s hb h h5)]
  have g2 : ch q s Lc u (mup t q 11 (nI (pI w n b).1)) := g.obj (by decide)
  have q7 : mup t q 11 (nI (pI w n b).1) q 7 = u q 7 := by rw [mup_sne (by decide)]; exact h7
  subst hR
  cases hp : pI w n b with
  | mk b' o =>
    rw [hp] at hI g2 q7
    cases o with
    | none =>
      obtain ⟨v, e1, e2, e3, e4⟩ := c144n hs (show mup t q 11 (nI b') q 11 = nI b' from mup_self) g2 q7
      exact ⟨v, e1, e2, e3, fun _ => e4, fun st hst => by cases hst⟩
    | some sp =>
      have := hI.2.2 sp rfl
      dsimp only at hI this g2 q7 ⊢
      exact c144 hs (by omega) (by omega) (by omega) hk (by omega) (h.up (by decide)) mup_self (by rw [mup_sne (by decide)]; exact h10) (by rw [mup_ne (by omega)]; exact h2) (fun q3 => by rw [mup_ne (by omega)]; exact h4 q3) g2 q7
theorem c121 {u t : MU} {q n s b Lc k cl : Nat} {c : Int32} {w : Nat → Int32} (hc : ¬ c = nI 35 ∧ ¬ c = nI 94 ∧ ¬ c = nI 99) (hs : s < 15) (h0 : 1 ≤ b) (hb : b ≤ n) (hL : Lc ≤ b) (hk : k ≤ 3) (h : cT t q w n) (h5 : t q 11 = nI b) (h10 : t q 10 = nI Lc) (h2 : t (q + 2) s = nI k) (h4 : k = 3 → t (q + 4) s = nI cl) (g : ch q s Lc u t) (h7 : t q 7 = u q 7) (R : Nat × Option pSt) (hR : R = (if isLet (hr w n b) = true then cRes w n k (ltr (hr w n b)) cl (b + 1) else (b, none))) : ∃ v : MU, b_X5_readStatement_98 q (nI s) c t = some (oB R.2, v) ∧ ch q s Lc u v ∧ v q 11 = nI R.1 ∧ (R.2 = none → v q 7 = u q 7) ∧ ∀ st, R.2 = some st → cOut v q s Lc st := by
  rw [b_X5_readStatement_98, if_neg hc.1, if_neg hc.2.1, if_neg hc.2.2, b_X5_readStatement_121, if_pos rfl, mBe (clet_s hb h h5)]
  subst hR
  by_cases cl : isLet (hr w n b) = true
  · have hl := let_lt cl
    obtain ⟨d, hd, he⟩ := let_of cl
    have e2 : ltr (hr w n b) < 1000 := by rw [he, ltr, nc_ (by omega)]; omega
    simp only [if_pos cl]
    exact c144 hs (by omega) (by omega) (by omega) hk e2 (h.up (by decide)) mup_self (by rw [mup_sne (by decide)]; exact h10) (by rw [mup_ne (by omega)]; exact h2) (fun q3 => by rw [mup_ne (by omega)]; exact h4 q3) (g.obj (by decide)) (by rw [mup_sne (by decide)]; exact h7)
  · simp only [if_neg cl]
    obtain ⟨v, e1, e2, e3, e4⟩ := c144n (u := u) (t := mup t q 11 (nI b)) (Lc := Lc) hs mup_self (g.obj (by decide)) (by rw [mup_sne (by decide)]; exact h7)
    exact ⟨v, e1, e2, e3, fun _ => e4, fun st hst => by cases hst⟩
set_option maxHeartbeats 1000000 in
theorem cstmt_s {u : MU} {q n a s Lc : Nat} {w : Nat → Int32} (ha : a < n) (hs : s < 15) (hL : Lc ≤ a) (h : cT u q w n) (h5 : u q 11 = nI a) (h10 : u q 10 = nI Lc) : ∃ v : MU, f_X5_readStatement q (nI s) u = some (oB (pS w n a).2, v) ∧ ch q s Lc u v ∧ v q 11 = nI (pS w n a).1 ∧ ((pS w n a).2 = none → v q 7 = u q 7) ∧ ∀ st, (pS w n a).2 = some st → cOut v q s Lc st := by
  obtain ⟨s1, s2⟩ := at_s h h5 ha
  rw [f_X5_readStatement, gdt s1, s2]
  by_cases c61 : hr w n a = nI 61
  · obtain ⟨t1, t2, t3, t4, t5, t6⟩ := tS_all (s := s) (a := a) (k := 0) h h10
    rw [if_pos c61, b_X5_readStatement_46, c61, c51 (k := 0) hs h5 (fun v => by rw [f_X5_kindOf, if_pos rfl]; rfl), if_neg (by decide)]
    refine c121 (k := 0) (cl := 0) (by decide) hs (by omega) (by omega) (by omega) (by omega) t1 t2 t3 t4 (fun q => by cases q) t5 t6 _ ?_
    unfold pS
    rw [if_pos (Or.inl c61), if_pos c61, cRes_lt (by omega)]
  · rw [if_neg c61]
    by_cases c43 : hr w n a = nI 43
    · obtain ⟨t1, t2, t3, t4, t5, t6⟩ := tS_all (s := s) (a := a) (k := 1) h h10
      rw [if_pos c43, b_X5_readStatement_46, c43, c51 (k := 1) hs h5 (fun v => by rw [f_X5_kindOf, if_neg (by decide), if_neg (by decide), if_pos rfl]; rfl), if_neg (by decide)]
      refine c121 (k := 1) (cl := 0) (by decide) hs (by omega) (by omega) (by omega) (by omega) t1 t2 t3 t4 (fun q => by cases q) t5 t6 _ ?_
      unfold pS
      rw [if_pos (Or.inr c43), if_neg c61, cRes_lt (by omega)]
    · have e1 : ¬ (hr w n a = nI 61 ∨ hr w n a = nI 43) := fun q => q.elim c61 c43
      rw [if_neg c43]
      by_cases c35 : hr w n a = nI 35
      · obtain ⟨t1, t2, t3, t4, t5, t6⟩ := tS_all (s := s) (a := a) (k := 0) h h10
        rw [if_pos c35, b_X5_readStatement_46, c35, c51 (k := 0) hs h5 (fun v => by rw [f_X5_kindOf, if_neg (by decide), if_pos rfl]; rfl), if_neg (by decide)]
        refine c116 (k := 0) (cl := 0) (Or.inl rfl) hs (by omega) (by omega) (by omega) (by omega) t1 t2 t3 t4 (fun q => by cases q) t5 t6 _ ?_
        unfold pS
        rw [if_neg e1, if_pos (Or.inl c35), if_pos c35]
        cases pI w n (a + 1) with
        | mk b o => cases o with
          | none => rfl
          | some sp => exact (cRes_lt (by omega)).symm
      · rw [if_neg c35]
        by_cases c94 : hr w n a = nI 94
        · obtain ⟨t1, t2, t3, t4, t5, t6⟩ := tS_all (s := s) (a := a) (k := 1) h h10
          rw [if_pos c94, b_X5_readStatement_46, c94, c51 (k := 1) hs h5 (fun v => by rw [f_X5_kindOf, if_neg (by decide), if_neg (by decide), if_neg (by decide), if_pos rfl]; rfl), if_neg (by decide)]
          refine c116 (k := 1) (cl := 0) (Or.inr (Or.inl rfl)) hs (by omega) (by omega) (by omega) (by omega) t1 t2 t3 t4 (fun q => by cases q) t5 t6 _ ?_
          unfold pS
          rw [if_neg e1, if_pos (Or.inr c94), if_neg c35]
          cases pI w n (a + 1) with
          | mk b o => cases o with
            | none => rfl
            | some sp => exact (cRes_lt (by omega)).symm
        · have e2 : ¬ (hr w n a = nI 35 ∨ hr w n a = nI 94) := fun q => q.elim c35 c94
          rw [if_neg c94]
          by_cases c63 : hr w n a = nI 63
          · obtain ⟨t1, t2, t3, t4, t5, t6⟩ := tS_all (s := s) (a := a) (k := 2) h h10
            rw [if_pos c63, b_X5_readStatement_46, c63, c51 (k := 2) hs h5 (fun v => by rw [f_X5_kindOf, if_neg (by decide), if_neg (by decide), if_neg (by decide), if_neg (by decide), if_pos rfl]), if_neg (by decide)]
            refine c121 (k := 2) (cl := 0) (by decide) hs (by omega) (by omega) (by omega) (by omega) t1 t2 t3 t4 (fun q => by cases q) t5 t6 _ ?_
            unfold pS
            rw [if_neg e1, if_neg e2, if_pos c63, cRes_ge (by omega)]
          · rw [if_neg c63]
            by_cases c99 : hr w n a = nI 99
            · obtain ⟨t1, t2, t3, t4, t5, t6⟩ := tS_all (s := s) (a := a) (k := 3) h h10
              have hn := h.1
              rw [if_pos c99, b_X5_readStatement_46, c99, c51 (k := 3) hs h5 (fun v => by rw [f_X5_kindOf, if_neg (by decide), if_neg (by decide), if_neg (by decide), if_neg (by decide), if_neg (by decide)]), if_pos rfl]
              by_cases c : ¬ hr w n (a + 1) < nI 48 ∧ hr w n (a + 1) < nI 54
              · have hl : a + 1 < n := hr_lt (w := w) (c := hr w n (a + 1)) rfl (fun q => by rw [q] at c; exact absurd c (by decide))
                obtain ⟨d, hd, he⟩ := (call_iff _).mp c
                obtain ⟨p1, p2⟩ := at_s t1 t2 hl
                have c1 : ¬ tS u q s a 3 q 1 ≤ tS u q s a 3 q 11 := by rw [t1.2.1, t2, le_ (by omega) (by omega)]; omega
                have hdg : dgt (hr w n (a + 1)) = d := by rw [he, dgt, nc_ (by omega)]; omega
                have e : pS w n a = (match pI w n (a + 2) with
                  | (b, some s) => (b, some (3, s, dgt (hr w n (a + 1)), []))
                  | (b, none) => (b, none)) := by
                  unfold pS
                  rw [if_neg e1, if_neg e2, if_neg c63, if_pos c99, if_pos c]
                  rfl
                have q5 : mup (tS u q s a 3) (q + 4) s (nI d) q 11 = nI (a + 1) := by rw [mup_ne (by omega)]; exact t2
                have ec : f_X5_readCallee q (nI s) (tS u q s a 3) = some (1, mup (mup (tS u q s a 3) (q + 4) s (nI d)) q 11 (nI (a + 2))) := by
                  rw [f_X5_readCallee, if_neg c1, gdt p1, p2, if_neg c.1, gdt p1, if_pos c.2, gdt p1, gdt (ix_ hs (by omega)), mSe, he, sub_ (by omega), show 48 + d - 48 = d by omega, nc_ (by omega), mSe, q5, nI_1]
                rw [mBe ec, if_neg (by decide)]
                refine c116 (n := n) (w := w) (Lc := Lc) (b := a + 2) (k := 3) (cl := d) (Or.inr (Or.inr rfl)) hs (by omega) (by omega) (by omega) (by omega) ?_ mup_self ?_ ?_ (fun _ => ?_) ((t5.row (by omega)).obj (by decide)) ?_ _ ?_
                · exact ⟨t1.1, by rw [mup_sne (by decide), mup_ne (by omega)]; exact t1.2.1, fun j hj => by rw [mup_ne (by omega), mup_ne (by omega)]; exact t1.2.2 j hj⟩
                · rw [mup_sne (by decide), mup_ne (by omega)]; exact t3
                · rw [mup_ne (by omega), mup_ne (by omega)]; exact t4
                · rw [mup_ne (by omega), mup_self]
                · rw [mup_sne (by decide), mup_ne (by omega)]; exact t6
                · rw [e, hdg]
                  cases pI w n (a + 2) with
                  | mk b o => cases o with
                    | none => rfl
                    | some sp => exact (cRes_ge (by omega)).symm
              · have e : pS w n a = (a + 1, none) := by
                  unfold pS
                  rw [if_neg e1, if_neg e2, if_neg c63, if_pos c99, if_neg c]
                have ec : f_X5_readCallee q (nI s) (tS u q s a 3) = some (0, tS u q s a 3) := by
                  rw [f_X5_readCallee]
                  by_cases hl : a + 1 < n
                  · obtain ⟨p1, p2⟩ := at_s t1 t2 hl
                    have c1 : ¬ tS u q s a 3 q 1 ≤ tS u q s a 3 q 11 := by rw [t1.2.1, t2, le_ (by omega) (by omega)]; omega
                    rw [if_neg c1, gdt p1, p2]
                    by_cases d1 : hr w n (a + 1) < nI 48
                    · rw [if_pos d1]
                    · rw [if_neg d1, gdt p1, if_neg (fun q => c ⟨d1, q⟩)]
                  · rw [if_pos (by rw [t1.2.1, t2]; exact (le_ (by omega) (by omega)).mpr (by omega))]
                rw [mBe ec, if_pos rfl, e]
                exact ⟨_, rfl, t5, t2, fun _ => t6, fun st hst => by cases hst⟩
            · have e : pS w n a = (a, none) := by
                unfold pS
                rw [if_neg e1, if_neg e2, if_neg c63, if_neg c99]
              rw [if_neg c99, b_X5_readStatement_51, if_pos rfl, e]
              exact ⟨u, rfl, ch.rf q s Lc u, h5, fun _ => rfl, fun st hst => by cases hst⟩
