theorem i4 {i : Nat} (hi : i < 4) : i = 0 ∨ i = 1 ∨ i = 2 ∨ i = 3 := by omega
theorem ownM_N {st : pSt} {x : Nat} {G : Nat → Int32} (hn : 2 ≤ st.1 → st.2.2.2 = []) : (∀ i : Nat, i < 4 → isub (ownM i st x) (G i)) ↔ (∀ i : Nat, i < 4 → isub (ownN i st x) (G i)) ∧ ∀ l ∈ st.2.2.2, isub (lbt x l) (G 0) := by
  constructor
  · intro h
    refine ⟨fun i hi => ?_, fun l hl => ?_⟩
    · rcases i4 hi with rfl | rfl | rfl | rfl
      · have := h 0 (by omega)
        simp only [ownM] at this
        simp only [ownN]
        by_cases c : st.1 = 2
        · rw [if_pos c] at this ⊢; exact this
        · rw [if_neg c]; exact isub.zero _
      · exact h 1 (by omega)
      · exact h 2 (by omega)
      · exact h 3 (by omega)
    · have h0 := h 0 (by omega)
      by_cases c : 2 ≤ st.1
      · rw [hn c] at hl; cases hl
      · simp only [ownM] at h0
        rw [if_neg (by omega), if_pos (by omega)] at h0
        exact ((lbits_sub st.2.2.2 0).2 hl).tr h0
  · rintro ⟨h1, h2⟩ i hi
    rcases i4 hi with rfl | rfl | rfl | rfl
    · have := h1 0 (by omega)
      simp only [ownN] at this
      simp only [ownM]
      by_cases c : st.1 = 2
      · rw [if_pos c] at this ⊢; exact this
      · rw [if_neg c]
        by_cases c2 : st.1 < 2
        · rw [if_pos c2]
          exact lbits_le _ _ (isub.zero _) h2
        · rw [if_neg c2]; exact isub.zero _
    · exact h1 1 (by omega)
    · exact h1 2 (by omega)
    · exact h1 3 (by omega)
theorem start_s {u : MU} {r x : Nat} (hr : r < 6) (hx : x < 12) (hR : rOK u (30 + 8 * r) (tW u r) (tN u r)) (hz : mZ (u 7 r) = true) (hk : u 7 r = 1 → flOf u r = none) : ∃ v : MU, f_X0_startWithOwn (30 + 8 * r) (nI r) (nI x) u = some (0, v) ∧ atE (12 * r + x) u v ∧ (u 7 r = 0 → ∀ i : Nat, i < 4 → v (3 + i) (12 * r + x) = 0) ∧ (u 7 r = 1 → (∀ st ∈ ssOf u r, ∀ i : Nat, i < 4 → isub (ownM i st x) (v (3 + i) (12 * r + x))) ∧ ∀ G : Nat → Int32, (∀ st ∈ ssOf u r, ∀ i : Nat, i < 4 → isub (ownM i st x) (G i)) → ∀ i : Nat, i < 4 → isub (v (3 + i) (12 * r + x)) (G i)) := by
  have e0 : nI r * nI 12 + nI x = nI (12 * r + x) := by rw [mul_, nI_add, Nat.mul_comm]
  have ix := ix_ (show 12 * r + x < 72 by omega) (show (72 : Nat) < 1000 by omega)
  generalize he : 12 * r + x = e at e0 ix
  have he72 : e < 72 := by omega
  rw [f_X0_startWithOwn, e0, gdt ix, mSe, gdt ix, mSe, gdt ix, mSe, gdt ix, mSe, gdt (ix_ hr (by omega)), nc_ (by omega), nc_ (by omega)]
  generalize hv : mup (mup (mup (mup u 3 e 0) 4 e 0) 5 e 0) 6 e 0 = v0
  have a0 : atE e u v0 := by rw [← hv]; exact ((((atE.rf e u).up (by omega)).up (by omega)).up (by omega)).up (by omega)
  have z : ∀ i : Nat, i < 4 → v0 (3 + i) e = 0 := by
    intro i hi
    rw [← hv]
    rcases i4 hi with rfl | rfl | rfl | rfl
    · show mup _ 6 _ _ 3 e = 0; rw [mup_ne (by decide), mup_ne (by decide), mup_ne (by decide), mup_self]
    · show mup _ 6 _ _ 4 e = 0; rw [mup_ne (by decide), mup_ne (by decide), mup_self]
    · show mup _ 6 _ _ 5 e = 0; rw [mup_ne (by decide), mup_self]
    · show mup _ 6 _ _ 6 e = 0; rw [mup_self]
  rw [a0.1 7 (by omega)]
  rcases mZ_or hz with q | q
  · rw [q, if_pos rfl]
    exact ⟨v0, rfl, a0, fun _ => z, fun h => absurd h (by decide)⟩
  · rw [q, if_neg (by decide)]
    have hR0 : rOK v0 (30 + 8 * r) (tW u r) (tN u r) := hR.cong (fun k a b => a0.1 k (by omega))
    obtain ⟨v, e1, e2, e3, e4, e5, e6⟩ := own_l (q := 30 + 8 * r) (e := e) (x := x) (ss := ssOf u r) rfl (hk q) hx he72 (by omega) 15 0 FU v0 (by have := hR.2.2.2.1; unfold ssOf; omega) (by unfold FU; omega) (by omega) hR0 (fun _ _ _ => trivial) (Or.inl (z 3 (by omega)))
    have nil : ∀ st ∈ ssOf u r, 2 ≤ st.1 → st.2.2.2 = [] := fun st hst => pA_nil 31 0 st hst
    refine ⟨v, e1, a0.tr e2, fun h => absurd h (by decide), fun _ => ⟨fun st hst => ?_, fun G hG i hi => ?_⟩⟩
    · obtain ⟨k, hk'⟩ := List.getElem?_of_mem hst
      exact (ownM_N (G := fun i => v (3 + i) e) (nil st hst)).mpr ⟨fun i hi => e4 k (by omega) st hk' i hi, fun l hl => e5 l (flat_mem.mpr ⟨st, hst, hl⟩)⟩
    · refine e6 G (fun i hi => by rw [z i hi]; exact isub.zero _) (fun st hst => ((ownM_N (G := G) (nil st hst)).mp (hG st hst)).1) (fun l hl => ?_) i hi
      obtain ⟨st, a, b⟩ := flat_mem.mp hl
      exact ((ownM_N (G := G) (nil st a)).mp (hG st a)).2 l b
theorem sub_news {a b : Int32} : (a &&& (b ^^^ (-1))) = 0 ↔ isub a b := by
  rw [isub_iff]
  constructor
  · intro h i hi ha
    have := congrArg (fun z => bt z i) h
    simp only [b_and, b_xor, b_0] at this
    rw [b_m1 i hi, ha] at this
    simpa using this
  · intro h
    apply b_ext
    intro i hi
    rw [b_and, b_xor, b_0, b_m1 i hi]
    cases ha : bt a i with
    | false => rfl
    | true => rw [h i hi ha]; rfl
theorem or_zero {a b : Int32} : (a ||| b) = 0 ↔ a = 0 ∧ b = 0 := by
  constructor
  · intro h
    have hb : ∀ i : Nat, bt (a ||| b) i = false := fun i => by rw [h, b_0]
    constructor
    · apply b_ext
      intro i _
      have := hb i
      rw [b_or, Bool.or_eq_false_iff] at this
      rw [b_0]; exact this.1
    · apply b_ext
      intro i _
      have := hb i
      rw [b_or, Bool.or_eq_false_iff] at this
      rw [b_0]; exact this.2
  · rintro ⟨rfl, rfl⟩; decide
theorem take_s {u : MU} {e c : Nat} (he : e < 72) (hc : c < 72) : ∃ (z : Int32) (v : MU), f_X0_take (nI e) (nI c) u = some (z, v) ∧ atE e u v ∧ (∀ i : Nat, i < 4 → v (3 + i) e = u (3 + i) e ||| u (3 + i) c) ∧ ((z = 0 ∧ ∀ i : Nat, i < 4 → isub (u (3 + i) c) (u (3 + i) e)) ∨ (z = 1 ∧ ∃ i : Nat, i < 4 ∧ ¬ isub (u (3 + i) c) (u (3 + i) e))) := by
  have ie := ix_ he (show (72 : Nat) < 1000 by omega)
  have ic := ix_ hc (show (72 : Nat) < 1000 by omega)
  rw [f_X0_take, gdt ic, gdt ie, gdt ic, gdt ie, gdt ic, gdt ie, gdt ic, gdt ie, gdt ie, gdt ic, gdt ie, nc_ (by omega), nc_ (by omega), mSe, gdt ie, gdt ic, gdt ie, mSe, gdt ie, gdt ic, gdt ie, mSe, gdt ie, gdt ic, gdt ie, mSe]
  generalize hv : mup (mup (mup (mup u 3 e (u 3 e ||| u 3 c)) 4 e (mup u 3 e (u 3 e ||| u 3 c) 4 e ||| mup u 3 e (u 3 e ||| u 3 c) 4 c)) 5 e (mup (mup u 3 e (u 3 e ||| u 3 c)) 4 e (mup u 3 e (u 3 e ||| u 3 c) 4 e ||| mup u 3 e (u 3 e ||| u 3 c) 4 c) 5 e ||| mup (mup u 3 e (u 3 e ||| u 3 c)) 4 e (mup u 3 e (u 3 e ||| u 3 c) 4 e ||| mup u 3 e (u 3 e ||| u 3 c) 4 c) 5 c)) 6 e (mup (mup (mup u 3 e (u 3 e ||| u 3 c)) 4 e (mup u 3 e (u 3 e ||| u 3 c) 4 e ||| mup u 3 e (u 3 e ||| u 3 c) 4 c)) 5 e (mup (mup u 3 e (u 3 e ||| u 3 c)) 4 e (mup u 3 e (u 3 e ||| u 3 c) 4 e ||| mup u 3 e (u 3 e ||| u 3 c) 4 c) 5 e ||| mup (mup u 3 e (u 3 e ||| u 3 c)) 4 e (mup u 3 e (u 3 e ||| u 3 c) 4 e ||| mup u 3 e (u 3 e ||| u 3 c) 4 c) 5 c) 6 e ||| mup (mup (mup u 3 e (u 3 e ||| u 3 c)) 4 e (mup u 3 e (u 3 e ||| u 3 c) 4 e ||| mup u 3 e (u 3 e ||| u 3 c) 4 c)) 5 e (mup (mup u 3 e (u 3 e ||| u 3 c)) 4 e (mup u 3 e (u 3 e ||| u 3 c) 4 e ||| mup u 3 e (u 3 e ||| u 3 c) 4 c) 5 e ||| mup (mup u 3 e (u 3 e ||| u 3 c)) 4 e (mup u 3 e (u 3 e ||| u 3 c) 4 e ||| mup u 3 e (u 3 e ||| u 3 c) 4 c) 5 c) 6 c) = v
  have a0 : atE e u v := by rw [← hv]; exact ((((atE.rf e u).up (by omega)).up (by omega)).up (by omega)).up (by omega)
  have vv : ∀ i : Nat, i < 4 → v (3 + i) e = u (3 + i) e ||| u (3 + i) c := by
    intro i hi
    rw [← hv]
    rcases i4 hi with rfl | rfl | rfl | rfl
    · show mup _ 6 _ _ 3 e = _; rw [mup_ne (by decide), mup_ne (by decide), mup_ne (by decide), mup_self]
    · show mup _ 6 _ _ 4 e = _; rw [mup_ne (by decide), mup_ne (by decide), mup_self, mup_ne (by decide)]
    · show mup _ 6 _ _ 5 e = _; rw [mup_ne (by decide), mup_self, mup_ne (by decide), mup_ne (by decide)]
    · show mup _ 6 _ _ 6 e = _; rw [mup_self, mup_ne (by decide), mup_ne (by decide), mup_ne (by decide)]
  by_cases q : (((u 3 c &&& (u 3 e ^^^ (-1))) ||| (u 4 c &&& (u 4 e ^^^ (-1)))) ||| (u 5 c &&& (u 5 e ^^^ (-1)))) ||| (u 6 c &&& (u 6 e ^^^ (-1))) = 0
  · rw [if_pos q]
    refine ⟨0, v, rfl, a0, vv, Or.inl ⟨rfl, fun i hi => ?_⟩⟩
    rw [or_zero, or_zero, or_zero, sub_news, sub_news, sub_news, sub_news] at q
    rcases i4 hi with rfl | rfl | rfl | rfl
    · exact q.1.1.1
    · exact q.1.1.2
    · exact q.1.2
    · exact q.2
  · rw [if_neg q]
    refine ⟨1, v, rfl, a0, vv, Or.inr ⟨rfl, ?_⟩⟩
    apply Classical.byContradiction
    intro h
    apply q
    have h' : ∀ i : Nat, i < 4 → isub (u (3 + i) c) (u (3 + i) e) := fun i hi => Classical.byContradiction fun g => h ⟨i, hi, g⟩
    rw [or_zero, or_zero, or_zero, sub_news, sub_news, sub_news, sub_news]
    exact ⟨⟨⟨h' 0 (by omega), h' 1 (by omega)⟩, h' 2 (by omega)⟩, h' 3 (by omega)⟩
/-- all bits of an entry -/
def pce (u : MU) (e : Nat) : Nat := pcn (u 3 e) + pcn (u 4 e) + pcn (u 5 e) + pcn (u 6 e)
theorem pce_le {u v : MU} {e : Nat} (h : ∀ i : Nat, i < 4 → isub (u (3 + i) e) (v (3 + i) e)) : pce u e ≤ pce v e := by
  have h0 := pcn_le (h 0 (by omega))
  have h1 := pcn_le (h 1 (by omega))
  have h2 := pcn_le (h 2 (by omega))
  have h3 := pcn_le (h 3 (by omega))
  simp only [Nat.add_zero, Nat.reduceAdd] at h0 h1 h2 h3
  unfold pce
  omega
theorem pce_lt {u v : MU} {e i : Nat} (h : ∀ i : Nat, i < 4 → isub (u (3 + i) e) (v (3 + i) e)) (hi : i < 4) (hne : ¬ u (3 + i) e = v (3 + i) e) : pce u e < pce v e := by
  have h0 := pcn_le (h 0 (by omega))
  have h1 := pcn_le (h 1 (by omega))
  have h2 := pcn_le (h 2 (by omega))
  have h3 := pcn_le (h 3 (by omega))
  have hs := pcn_lt (h i hi) hne
  simp only [Nat.add_zero, Nat.reduceAdd] at h0 h1 h2 h3
  unfold pce
  rcases i4 hi with rfl | rfl | rfl | rfl <;> simp only [Nat.add_zero, Nat.reduceAdd] at hs <;> omega
theorem tfc_l {q e x n : Nat} {w : Nat → Int32} {ss : List pSt} (hss : ss = (pA w n 31 0).1) (hx : x < 12) (he : e < 72) (hq : 7 < q) : ∀ (d j F : Nat) (z : Int32) (u : MU), ss.length - j ≤ d → d < F → j ≤ ss.length → rOK u q w n → mZ z = true → ∃ (z' : Int32) (v : MU), l_X0_takeFromCallees_6 q (nI e) (nI x) F z (nI j) u = some (z', v) ∧ mZ z' = true ∧ atE e u v ∧ (∀ i : Nat, i < 4 → isub (u (3 + i) e) (v (3 + i) e)) ∧ (∀ G : Nat → Nat → Int32, (∀ i : Nat, i < 4 → isub (u (3 + i) e) (G i e)) → (∀ st ∈ ss, st.1 = 3 → ∀ i : Nat, i < 4 → isub (u (3 + i) (12 * st.2.2.1 + (plc st.2.1 x - 6))) (G i e)) → ∀ i : Nat, i < 4 → isub (v (3 + i) e) (G i e)) ∧ ((z' = z ∧ (∀ i : Nat, i < 4 → v (3 + i) e = u (3 + i) e) ∧ ∀ k : Nat, j ≤ k → ∀ st, ss[k]? = some st → st.1 = 3 → ∀ i : Nat, i < 4 → isub (u (3 + i) (12 * st.2.2.1 + (plc st.2.1 x - 6))) (u (3 + i) e)) ∨ (z' = 1 ∧ pce u e < pce v e)) := by
  intro d
  have exit : ∀ (j F : Nat) (z : Int32) (u : MU), 0 < F → ss.length ≤ j → j ≤ ss.length → rOK u q w n → mZ z = true → ∃ (z' : Int32) (v : MU), l_X0_takeFromCallees_6 q (nI e) (nI x) F z (nI j) u = some (z', v) ∧ mZ z' = true ∧ atE e u v ∧ (∀ i : Nat, i < 4 → isub (u (3 + i) e) (v (3 + i) e)) ∧ (∀ G : Nat → Nat → Int32, (∀ i : Nat, i < 4 → isub (u (3 + i) e) (G i e)) → (∀ st ∈ ss, st.1 = 3 → ∀ i : Nat, i < 4 → isub (u (3 + i) (12 * st.2.2.1 + (plc st.2.1 x - 6))) (G i e)) → ∀ i : Nat, i < 4 → isub (v (3 + i) e) (G i e)) ∧ ((z' = z ∧ (∀ i : Nat, i < 4 → v (3 + i) e = u (3 + i) e) ∧ ∀ k : Nat, j ≤ k → ∀ st, ss[k]? = some st → st.1 = 3 → ∀ i : Nat, i < 4 → isub (u (3 + i) (12 * st.2.2.1 + (plc st.2.1 x - 6))) (u (3 + i) e)) ∨ (z' = 1 ∧ pce u e < pce v e)) := by
    intro j F z u h1 h2 h3 hR hz
    obtain ⟨F, rfl⟩ : ∃ g, F = g + 1 := ⟨F - 1, by omega⟩
    obtain ⟨-, -, r7, r15, -, -, -⟩ := hR
    rw [← hss] at r7 r15
    rw [l_X0_takeFromCallees_6, b_X0_takeFromCallees_6, r7, if_pos ((le_ (by omega) (by omega)).mpr (by omega)), gdt hz]
    refine ⟨z, u, rfl, hz, atE.rf e u, fun i _ => isub.rf _, fun G h _ => h, Or.inl ⟨rfl, fun _ _ => rfl, fun k hk st hst => ?_⟩⟩
    have := (List.getElem?_eq_some_iff.mp hst).1
    omega
  induction d with
  | zero => intro j F z u h1 h2 h3 hR hz; exact exit j F z u (by omega) (by omega) h3 hR hz
  | succ d ih =>
    intro j F z u h1 h2 h3 hR hz
    by_cases hl : j < ss.length
    · obtain ⟨F, rfl⟩ : ∃ g, F = g + 1 := ⟨F - 1, by omega⟩
      have hR' := hR
      obtain ⟨-, -, r7, r15, rE, r10, rO⟩ := hR
      rw [← hss] at r7 r15 rE r10 rO
      have hg : ss[j]? = some ss[j] := List.getElem?_eq_getElem hl
      have hmem : ss[j] ∈ ss := List.getElem_mem hl
      obtain ⟨g1, g2, g3, -⟩ := encR_get ss 0 0 rE j ss[j] hg
      rw [Nat.zero_add] at g1 g2 g3
      have hok := rO ss[j] hmem
      rw [l_X0_takeFromCallees_6, b_X0_takeFromCallees_6, r7, if_neg (fun q => absurd ((le_ (by omega) (by omega)).mp q) (by omega)), gdt (ix_ (by omega) (by omega)), nc_ (by omega), g1]
      by_cases c : ss[j].1 = 3
      · have h6 := hok.2.2.1 c
        have hp6 : 6 ≤ plc ss[j].2.1 x ∧ plc ss[j].2.1 x < 18 := by
          have := hok.2.1
          unfold plc; split <;> omega
        have hc6 := hok.2.2.2.1
        rw [if_pos (by rw [c]), gdt (ix_ (by omega) (by omega)), g2, mBe (place_s hok.2.1 hx u), gdt (ix_ (by omega) (by omega)), g3 c, mul_, sub_ hp6.1, nI_add, show ss[j].2.2.1 * 12 + (plc ss[j].2.1 x - 6) = 12 * ss[j].2.2.1 + (plc ss[j].2.1 x - 6) by omega]
        obtain ⟨t, v, e1, e2, e3, e4⟩ := take_s (u := u) (c := 12 * ss[j].2.2.1 + (plc ss[j].2.1 x - 6)) he (by omega)
        have hgrow : ∀ i : Nat, i < 4 → isub (u (3 + i) e) (v (3 + i) e) := fun i hi => by rw [e3 i hi]; exact isub.left _ _
        rw [mBe e1]
        have cong : rOK v q w n := hR'.cong (fun k a b => e2.1 k (by omega))
        rcases e4 with ⟨rfl, hsub⟩ | ⟨rfl, i0, hi0, hns⟩
        · -- nothing new
          have vu : ∀ i : Nat, i < 4 → v (3 + i) e = u (3 + i) e := fun i hi => by
            rw [e3 i hi]
            exact (isub.or (isub.rf _) (hsub i hi)).antisymm (isub.left _ _)
          have vall : ∀ i : Nat, i < 4 → ∀ e' : Nat, v (3 + i) e' = u (3 + i) e' := fun i hi e' => by
            by_cases ee : e' = e
            · subst ee; exact vu i hi
            · exact e2.2 i hi e' ee
          have done : ∀ z2 : Int32, z2 = z → ∃ (z' : Int32) (v' : MU), l_X0_takeFromCallees_6 q (nI e) (nI x) F z2 (nI (j + 1)) v = some (z', v') ∧ mZ z' = true ∧ atE e u v' ∧ (∀ i : Nat, i < 4 → isub (u (3 + i) e) (v' (3 + i) e)) ∧ (∀ G : Nat → Nat → Int32, (∀ i : Nat, i < 4 → isub (u (3 + i) e) (G i e)) → (∀ st ∈ ss, st.1 = 3 → ∀ i : Nat, i < 4 → isub (u (3 + i) (12 * st.2.2.1 + (plc st.2.1 x - 6))) (G i e)) → ∀ i : Nat, i < 4 → isub (v' (3 + i) e) (G i e)) ∧ ((z' = z ∧ (∀ i : Nat, i < 4 → v' (3 + i) e = u (3 + i) e) ∧ ∀ k : Nat, j ≤ k → ∀ st, ss[k]? = some st → st.1 = 3 → ∀ i : Nat, i < 4 → isub (u (3 + i) (12 * st.2.2.1 + (plc st.2.1 x - 6))) (u (3 + i) e)) ∨ (z' = 1 ∧ pce u e < pce v' e)) := by
            rintro z2 rfl
            obtain ⟨z', v', f1, f2, f3, f4, f5, f6⟩ := ih (j + 1) F z2 v (by omega) (by omega) (by omega) cong hz
            refine ⟨z', v', f1, f2, e2.tr f3, fun i hi => (hgrow i hi).tr (f4 i hi), fun G b1 b2 => f5 G (fun i hi => by rw [vu i hi]; exact b1 i hi) (fun st hst q3 i hi => by rw [vall i hi]; exact b2 st hst q3 i hi), ?_⟩
            rcases f6 with ⟨p1, p2, p3⟩ | ⟨p1, p2⟩
            · refine Or.inl ⟨p1, fun i hi => (p2 i hi).trans (vu i hi), fun k hk st hst q3 i hi => ?_⟩
              by_cases ek : k = j
              · subst ek
                rw [hg] at hst
                have : ss[k] = st := Option.some.inj hst
                rw [← this]
                exact hsub i hi
              · have := p3 k (by omega) st hst q3 i hi
                rw [vall i hi, vall i hi] at this
                exact this
            · refine Or.inr ⟨p1, ?_⟩
              have : pce v e = pce u e := by
                unfold pce
                have := vu 0 (by omega); have h1 := vu 1 (by omega); have h2 := vu 2 (by omega); have h3 := vu 3 (by omega)
                simp only [Nat.add_zero, Nat.reduceAdd] at this h1 h2 h3
                rw [this, h1, h2, h3]
              omega
          rw [if_pos rfl]
          rcases mZ_or hz with qz | qz
          · rw [if_pos qz, b_X0_takeFromCallees_73, b_X0_takeFromCallees_75, nI_1]
            exact done 0 qz.symm
          · rw [if_neg (by rw [qz]; decide), b_X0_takeFromCallees_68, b_X0_takeFromCallees_73, b_X0_takeFromCallees_75, nI_1]
            exact done 1 qz.symm
        · rw [if_neg (by decide), b_X0_takeFromCallees_68, b_X0_takeFromCallees_73, b_X0_takeFromCallees_75, nI_1]
          obtain ⟨z', v', f1, f2, f3, f4, f5, f6⟩ := ih (j + 1) F 1 v (by omega) (by omega) (by omega) cong rfl
          have hlt : pce u e < pce v e := by
            refine pce_lt hgrow hi0 (fun q => hns ?_)
            rw [q, e3 i0 hi0]
            exact isub.right _ _
          have hle : pce v e ≤ pce v' e := pce_le f4
          have z1 : z' = 1 := by
            rcases f6 with ⟨p1, -⟩ | ⟨p1, -⟩ <;> exact p1
          refine ⟨z', v', f1, f2, e2.tr f3, fun i hi => (hgrow i hi).tr (f4 i hi), fun G b1 b2 => f5 G (fun i hi => ?_) (fun st hst q3 i hi => ?_), Or.inr ⟨z1, by omega⟩⟩
          · rw [e3 i hi]
            exact (b1 i hi).or (b2 ss[j] hmem c i hi)
          · by_cases ee : 12 * st.2.2.1 + (plc st.2.1 x - 6) = e
            · rw [ee, e3 i hi]
              exact (b1 i hi).or (b2 ss[j] hmem c i hi)
            · rw [e2.2 i hi _ ee]
              exact b2 st hst q3 i hi
      · rw [if_neg (fun q => c ((eq_ (by have := hok.1; omega) (by omega)).mp q)), b_X0_takeFromCallees_75, nI_1]
        obtain ⟨z', v', f1, f2, f3, f4, f5, f6⟩ := ih (j + 1) F z u (by omega) (by omega) (by omega) hR' hz
        refine ⟨z', v', f1, f2, f3, f4, f5, ?_⟩
        rcases f6 with ⟨p1, p2, p3⟩ | p
        · refine Or.inl ⟨p1, p2, fun k hk st hst q3 i hi => ?_⟩
          by_cases ek : k = j
          · subst ek
            rw [hg] at hst
            have : ss[k] = st := Option.some.inj hst
            rw [← this] at q3
            exact absurd q3 c
          · exact p3 k (by omega) st hst q3 i hi
        · exact Or.inr p
    · exact exit j F z u (by omega) (by omega) h3 hR hz
