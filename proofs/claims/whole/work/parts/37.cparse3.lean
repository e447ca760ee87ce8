def ch (q s Lc : Nat) (u v : MU) : Prop := (∀ k : Nat, (k < q ∨ q + 7 < k ∨ k = q + 1) → v k = u k) ∧ v q 1 = u q 1 ∧ lkeep q Lc u v ∧ ∀ j : Nat, j < s → v (q + 2) j = u (q + 2) j ∧ v (q + 3) j = u (q + 3) j ∧ v (q + 4) j = u (q + 4) j ∧ v (q + 5) j = u (q + 5) j
theorem ch.rf (q s Lc : Nat) (u : MU) : ch q s Lc u u := ⟨fun _ _ => rfl, rfl, fun _ _ => ⟨rfl, rfl⟩, fun _ _ => ⟨rfl, rfl, rfl, rfl⟩⟩
theorem ch.tr {q s Lc : Nat} {u v t : MU} (h : ch q s Lc u v) (g : ch q s Lc v t) : ch q s Lc u t := ⟨fun k hk => (g.1 k hk).trans (h.1 k hk), g.2.1.trans h.2.1, fun j hj => ⟨(g.2.2.1 j hj).1.trans (h.2.2.1 j hj).1, (g.2.2.1 j hj).2.trans (h.2.2.1 j hj).2⟩, fun j hj => ⟨(g.2.2.2 j hj).1.trans (h.2.2.2 j hj).1, (g.2.2.2 j hj).2.1.trans (h.2.2.2 j hj).2.1, (g.2.2.2 j hj).2.2.1.trans (h.2.2.2 j hj).2.2.1, (g.2.2.2 j hj).2.2.2.trans (h.2.2.2 j hj).2.2.2⟩⟩
theorem ch.obj {q s Lc j : Nat} {u v : MU} {x : Int32} (h : ch q s Lc u v) (hj : j ≠ 1) : ch q s Lc u (mup v q j x) := by
  refine h.tr ⟨fun k hk => mup_ne (by omega), mup_sne (Ne.symm hj), fun i _ => ⟨by rw [mup_ne (by omega)], by rw [mup_ne (by omega)]⟩, fun i _ => ⟨by rw [mup_ne (by omega)], by rw [mup_ne (by omega)], by rw [mup_ne (by omega)], by rw [mup_ne (by omega)]⟩⟩
theorem mup_j {u : MU} {k j i a : Nat} {x : Int32} (h : i ≠ j) : mup u k j x a i = u a i := by
  rw [mup_get]
  by_cases h1 : a = k
  · rw [if_pos h1, if_neg h]
  · rw [if_neg h1]
theorem ch.row {q s Lc k : Nat} {u v : MU} {x : Int32} (h : ch q s Lc u v) (hk : k = q + 2 ∨ k = q + 3 ∨ k = q + 4 ∨ k = q + 5) : ch q s Lc u (mup v k s x) := by
  refine h.tr ⟨fun i hi => mup_ne (by omega), by rw [mup_ne (by omega)], fun i _ => ⟨by rw [mup_ne (by omega)], by rw [mup_ne (by omega)]⟩, fun i hi => ⟨mup_j (by omega), mup_j (by omega), mup_j (by omega), mup_j (by omega)⟩⟩
theorem ch.cg {q s Lc : Nat} {u v t : MU} (h : ch q s Lc u v) (g : cg q v t) (l : lkeep q Lc v t) : ch q s Lc u t := by
  refine h.tr ⟨fun k hk => g.1 k (by omega) (by omega) (by omega), g.2 1 (by decide) (by decide), l, fun j _ => ⟨by rw [g.1 (q + 2) (by omega) (by omega) (by omega)], by rw [g.1 (q + 3) (by omega) (by omega) (by omega)], by rw [g.1 (q + 4) (by omega) (by omega) (by omega)], by rw [g.1 (q + 5) (by omega) (by omega) (by omega)]⟩⟩
theorem cT.ch {u v : MU} {q n s Lc : Nat} {w : Nat → Int32} (h : cT u q w n) (g : ch q s Lc u v) : cT v q w n := ⟨h.1, by rw [g.2.1]; exact h.2.1, fun j hj => by rw [g.1 (q + 1) (by omega)]; exact h.2.2 j hj⟩
def cOut (v : MU) (q s Lc : Nat) (st : pSt) : Prop := v q 7 = nI (s + 1) ∧ v q 10 = nI (Lc + st.2.2.2.length) ∧ v (q + 2) s = nI st.1 ∧ v (q + 3) s = nI st.2.1 ∧ (st.1 = 3 → v (q + 4) s = nI st.2.2.1) ∧ v (q + 5) s = nI (Lc + st.2.2.2.length) ∧ lvsAt v q Lc st.2.2.2
theorem c197 {u t : MU} {q s Lc k sp cl : Nat} {ls : List (Nat × Nat)} (hs : s < 15) (g : ch q s Lc u t) (h10 : t q 10 = nI (Lc + ls.length)) (h2 : t (q + 2) s = nI k) (h3 : t (q + 3) s = nI sp) (h4 : k = 3 → t (q + 4) s = nI cl) (hl : lvsAt t q Lc ls) : ∃ v : MU, b_X5_readStatement_197 q (nI s) t = some (1, v) ∧ ch q s Lc u v ∧ v q 11 = t q 11 ∧ cOut v q s Lc (k, sp, cl, ls) := by
  rw [b_X5_readStatement_197, gdt (ix_ hs (by omega)), mSe, nc_ (by omega), mSe, nI_1]
  refine ⟨_, rfl, (g.row (by omega)).obj (by decide), ?_, mup_self, ?_, ?_, ?_, fun q3 => ?_, ?_, fun i l hil => ?_⟩
  · rw [mup_sne (by decide), mup_ne (by omega)]
  · rw [mup_sne (by decide), mup_ne (by omega)]; exact h10
  · rw [mup_ne (by omega), mup_ne (by omega)]; exact h2
  · rw [mup_ne (by omega), mup_ne (by omega)]; exact h3
  · rw [mup_ne (by omega), mup_ne (by omega)]; exact h4 q3
  · rw [mup_ne (by omega), mup_self]; exact h10
  · rw [mup_ne (by omega), mup_ne (by omega), mup_ne (by omega), mup_ne (by omega)]; exact hl i l hil
def cRes (w : Nat → Int32) (n k sp cl b : Nat) : Nat × Option pSt := if k < 2 then pTS w n k sp b else (b, some (k, sp, cl, []))
theorem c144 {u t : MU} {q n s b Lc k sp cl : Nat} {w : Nat → Int32} (hs : s < 15) (h0 : 1 ≤ b) (hb : b ≤ n) (hL : Lc ≤ b) (hk : k ≤ 3) (hsp : sp < 1000) (h : cT t q w n) (h5 : t q 11 = nI b) (h10 : t q 10 = nI Lc) (h2 : t (q + 2) s = nI k) (h4 : k = 3 → t (q + 4) s = nI cl) (g : ch q s Lc u t) (h7 : t q 7 = u q 7) : ∃ v : MU, b_X5_readStatement_144 q (nI s) (nI sp) (nI s) t = some (oB (cRes w n k sp cl b).2, v) ∧ ch q s Lc u v ∧ v q 11 = nI (cRes w n k sp cl b).1 ∧ ((cRes w n k sp cl b).2 = none → v q 7 = u q 7) ∧ ∀ st, (cRes w n k sp cl b).2 = some st → cOut v q s Lc st := by
  have hne : ¬ nI sp = (-1 : Int32) := fun q => by
    have := congrArg Int32.toInt q
    rw [toInt_n (by omega), show (-1 : Int32).toInt = -1 from rfl] at this
    omega
  have e2 : mup t (q + 3) s (nI sp) (q + 2) s = nI k := by rw [mup_ne (by omega)]; exact h2
  have e4 : k = 3 → mup t (q + 3) s (nI sp) (q + 4) s = nI cl := fun q3 => by rw [mup_ne (by omega)]; exact h4 q3
  have e10 : mup t (q + 3) s (nI sp) q 10 = nI Lc := by rw [mup_ne (by omega)]; exact h10
  have e11 : mup t (q + 3) s (nI sp) q 11 = nI b := by rw [mup_ne (by omega)]; exact h5
  have e7 : mup t (q + 3) s (nI sp) q 7 = u q 7 := by rw [mup_ne (by omega)]; exact h7
  have eg : ch q s Lc u (mup t (q + 3) s (nI sp)) := g.row (by omega)
  have eT : cT (mup t (q + 3) s (nI sp)) q w n := ⟨h.1, by rw [mup_ne (by omega)]; exact h.2.1, fun j hj => by rw [mup_ne (by omega)]; exact h.2.2 j hj⟩
  rw [b_X5_readStatement_144, gdt (ix_ hs (by omega)), mSe, nc_ (by omega), gdt (ix_ hs (by omega)), mup_self, if_neg hne, gdt (ix_ hs (by omega)), e2]
  unfold cRes
  -- with a term
  have wt : k < 2 → ∃ v : MU, b_X5_readStatement_176 q (nI s) (mup t (q + 3) s (nI sp)) = some (oB (pTS w n k sp b).2, v) ∧ ch q s Lc u v ∧ v q 11 = nI (pTS w n k sp b).1 ∧ ((pTS w n k sp b).2 = none → v q 7 = u q 7) ∧ ∀ st, (pTS w n k sp b).2 = some st → cOut v q s Lc st := by
    intro hk2
    rw [b_X5_readStatement_176, b_X5_readStatement_181, if_neg (by decide)]
    obtain ⟨v, f1, f2, f3, f4, -, f6⟩ := cterm_s h0 hb hL eT e11 e10
    rw [mBe f1]
    unfold pTS
    cases hp : pT w n 31 1 b with
    | mk b' o =>
      rw [hp] at f3 f6
      cases o with
      | none => exact ⟨v, rfl, eg.cg f2 f4, f3, fun _ => (f2.2 7 (by decide) (by decide)).trans e7, fun st hst => by cases hst⟩
      | some ls =>
        obtain ⟨k1, k2⟩ := f6 ls rfl
        obtain ⟨v2, m1, m2, m3, m4⟩ := c197 (k := k) (sp := sp) (cl := 0) (u := u) hs (eg.cg f2 f4) k1 (by rw [f2.1 (q + 2) (by omega) (by omega) (by omega)]; exact e2) (by rw [f2.1 (q + 3) (by omega) (by omega) (by omega)]; exact mup_self) (fun q3 => by omega) k2
        refine ⟨v2, m1, m2, m3.trans f3, fun q => (by cases q), fun st hst => ?_⟩
        cases hst
        exact m4
  by_cases k0 : k = 0
  · subst k0
    rw [if_pos (show nI 0 = (0 : Int32) from rfl), if_pos (by omega)]
    exact wt (by omega)
  · rw [if_neg (fun q => k0 ((e0_ (by omega)).mp q)), gdt (ix_ hs (by omega))]
    by_cases k1 : k = 1
    · subst k1
      rw [if_pos (show nI 1 = (1 : Int32) from rfl), if_pos (by omega)]
      exact wt (by omega)
    · rw [if_neg (fun q : nI k = 1 => k1 ((eq_ (b := 1) (by omega) (by omega)).mp q)), if_neg (by omega), b_X5_readStatement_181, if_pos rfl]
      obtain ⟨v2, m1, m2, m3, m4⟩ := c197 (k := k) (sp := sp) (cl := cl) (ls := []) (u := u) hs eg e10 e2 mup_self e4 (fun i l hl => by simp at hl)
      refine ⟨v2, m1, m2, m3.trans e11, fun q => (by cases q), fun st hst => ?_⟩
      cases hst
      exact m4
theorem c144n {u t : MU} {q s b Lc : Nat} (hs : s < 15) (h5 : t q 11 = nI b) (g : ch q s Lc u t) (h7 : t q 7 = u q 7) : ∃ v : MU, b_X5_readStatement_144 q (nI s) (-1) (nI s) t = some (0, v) ∧ ch q s Lc u v ∧ v q 11 = nI b ∧ v q 7 = u q 7 := by
  rw [b_X5_readStatement_144, gdt (ix_ hs (by omega)), mSe, nc_ (by omega), gdt (ix_ hs (by omega)), mup_self, if_pos rfl]
  exact ⟨_, rfl, g.row (by omega), by rw [mup_ne (by omega)]; exact h5, by rw [mup_ne (by omega)]; exact h7⟩
