theorem ae_l {r n e x : Nat} {w : Nat → Int32} (hx : x < 12) (he : e < 72) (hn : n ≤ 30) : ∀ (d a f F : Nat) (u : MU), n - a ≤ d → d < f → d < F → a ≤ n → mT u r w n → u 88 6 = nI a → mZ (u 88 20) = true → ∃ v : MU, l_X7_addEffects_12 (nI x) F (nI e) u = some (0, v) ∧ aeP e x (pA w n f a).1 u v := by
  intro d
  induction d with
  | zero =>
    intro a f F u h1 h2 h2' h3 h4 h5 hz
    obtain ⟨f, rfl⟩ : ∃ g, f = g + 1 := ⟨f - 1, by omega⟩
    obtain ⟨F, rfl⟩ : ∃ g, F = g + 1 := ⟨F - 1, by omega⟩
    rw [l_X7_addEffects_12, b_X7_addEffects_12, mBe (more_s h4 h5 (by omega)), if_neg (show ¬ a < n by omega), if_pos rfl, pA, if_neg (by omega)]
    exact ⟨u, rfl, aeP.nil (pf.rf u) hz⟩
  | succ d ih =>
    intro a f F u h1 h2 h2' h3 h4 h5 hz
    obtain ⟨f, rfl⟩ : ∃ g, f = g + 1 := ⟨f - 1, by omega⟩
    obtain ⟨F, rfl⟩ : ∃ g, F = g + 1 := ⟨F - 1, by omega⟩
    rw [l_X7_addEffects_12, b_X7_addEffects_12, mBe (more_s h4 h5 (by omega)), pA]
    by_cases hl : a < n
    · rw [if_pos hl, if_neg (by decide), if_pos hl]
      obtain ⟨v, e1, e2, e3, e4⟩ := stmt_s hx hl h4 h5
      obtain ⟨p1, p2, p3⟩ := pS_le (w := w) hl
      rw [mBe e1]
      cases hp : pS w n a with
      | mk b o =>
        rw [hp] at e3 e4 p1 p2 p3
        cases o with
        | none =>
          rw [if_pos (show oB (b, (none : Option pSt)).2 = 0 from rfl)]
          exact ⟨v, rfl, aeP.nil e2 hz⟩
        | some st =>
          obtain ⟨q1, -, q3⟩ := p3 st rfl
          have hs := e4 st rfl
          dsimp only at e3 p1 p2 q1 ⊢
          rw [if_neg (show ¬ oB (some st) = 0 from (by decide : ¬ (1 : Int32) = 0))]
          have hzv : mZ (v 88 20) = true := by rw [e2.2 20 (by omega)]; exact hz
          have go : ∀ m : Nat → Int32, (∀ i : Nat, i < 4 → m i = if st.1 = 3 then v (94 + i) (12 * st.2.2.1 + (plc st.2.1 x - 6)) else ownM i st x) → ∃ t : MU, mB (f_X7_takeIn (nI e) (m 0) (m 1) (m 2) (m 3) v) (fun _ u9 => b_X7_addEffects_177 (fun x3 u => l_X7_addEffects_12 (nI x) F x3 u) (nI x) (nI e) u9) = some (0, t) ∧ aeP e x (st :: (pA w n f b).1) u t := by
            intro m hm
            obtain ⟨v2, g1, g2, g3, g4, g5, g6⟩ := takeIn_s (u := v) he m hzv
            rw [mBe g1, b_X7_addEffects_177]
            obtain ⟨t, k1, k2⟩ := ih b f F v2 (by omega) (by omega) (by omega) (by omega) (g2.mT (h4.pf e2)) (by rw [g3]; exact e3) g4
            exact ⟨t, k1, aeP.cons e2 g2 g4 g5 g6 hm k2⟩
          obtain ⟨s0, s1, s2, s3, s4, s5, s6⟩ := hs
          rcases (show st.1 = 0 ∨ st.1 = 1 ∨ st.1 = 2 ∨ st.1 = 3 by have := q3.1; omega) with k | k | k | k
          · have k3 : ¬ st.1 = 3 := by omega
            have hw : ∃ t : MU, b_X7_addEffects_130 (fun x3 u => l_X7_addEffects_12 (nI x) F x3 u) (nI x) (nI e) v = some (0, t) ∧ aeP e x (st :: (pA w n f b).1) u t := by
              rw [b_X7_addEffects_130, b_X7_addEffects_135, if_neg (by decide), b_X7_addEffects_158, if_neg (by decide), b_X7_addEffects_173, s4 (by omega), (s6 (by omega)).2]
              refine go (fun i => match i with
                | 0 => st.2.2.2.foldl (fun s l => s ||| lbt x l) 0
                | 1 => btI (plc st.2.1 x)
                | _ => 0) (fun i hi => ?_)
              rw [if_neg k3]
              rcases i4 hi with rfl | rfl | rfl | rfl <;> simp only [ownM, k] <;> rfl
            rcases s0 k with q | q
            · rw [q, if_neg (by decide), if_neg (by decide), if_pos rfl]; exact hw
            · rw [q, if_neg (by decide), if_neg (by decide), if_neg (by decide), if_pos rfl]; exact hw
          · have k3 : ¬ st.1 = 3 := by omega
            have hw : ∃ t : MU, b_X7_addEffects_135 (fun x3 u => l_X7_addEffects_12 (nI x) F x3 u) (nI x) (nI e) 0 v = some (0, t) ∧ aeP e x (st :: (pA w n f b).1) u t := by
              rw [b_X7_addEffects_135, if_pos rfl, b_X7_addEffects_158, if_pos rfl, b_X7_addEffects_173, s4 (by omega), (s6 (by omega)).2]
              refine go (fun i => match i with
                | 0 => st.2.2.2.foldl (fun s l => s ||| lbt x l) 0
                | 2 => btI (plc st.2.1 x)
                | _ => 0) (fun i hi => ?_)
              rw [if_neg k3]
              rcases i4 hi with rfl | rfl | rfl | rfl <;> simp only [ownM, k] <;> rfl
            rcases s1 k with q | q
            · rw [q, if_neg (by decide), if_neg (by decide), if_neg (by decide), if_neg (by decide)]; exact hw
            · rw [q, if_neg (by decide), if_neg (by decide), if_neg (by decide), if_neg (by decide)]; exact hw
          · have k3 : ¬ st.1 = 3 := by omega
            rw [s2 k, if_neg (by decide), if_pos rfl, s4 (by omega)]
            refine go (fun i => match i with
                | 0 => btI (plc st.2.1 x)
                | 3 => 1
                | _ => 0) (fun i hi => ?_)
            rw [if_neg k3]
            rcases i4 hi with rfl | rfl | rfl | rfl <;> simp only [ownM, k] <;> rfl
          · have hc6 := q3.2.2.2.1
            have hp18 := plc_18 (x := x) q3.2.1
            have ix := ix_ (show 12 * st.2.2.1 + (plc st.2.1 x - 6) < 72 by omega) (show (72 : Nat) < 1000 by omega)
            rw [s3 k, if_pos rfl, (s5 k).1, (s5 k).2, mul_, nI_add, gdt ix, gdt ix, gdt ix, gdt ix, nc_ (by omega)]
            exact go (fun i => v (94 + i) (12 * st.2.2.1 + (plc st.2.1 x - 6))) (fun i hi => by rw [if_pos k])
    · rw [if_neg hl, if_pos rfl, if_neg hl]
      exact ⟨u, rfl, aeP.nil (pf.rf u) hz⟩
def UGm (u : MU) (G : Nat → Nat → Int32) : Prop := ∀ r : Nat, r < 6 → ∀ x : Nat, x < 12 → closedAt (ssOf u r) G (12 * r + x) x
/-- what holds of every state of the model's search -/
def sM (u0 u : MU) : Prop := fE u0 u ∧ (∀ r : Nat, u 98 r = u0 98 r) ∧ mZ (u 88 20) = true ∧ (∀ G : Nat → Nat → Int32, UGm u0 G → ∀ e : Nat, e < 72 → ∀ i : Nat, i < 4 → isub (u (94 + i) e) (G i e)) ∧ MB (mv u)
theorem addE_s {u0 u : MU} (hT : TX u0) (h : sM u0 u) {r x : Nat} (hr : r < 6) (hx : x < 12) : ∃ v : MU, f_X7_addEffects (nI r) (nI x) u = some (0, v) ∧ sM u0 v ∧ grow (mv u) (mv v) ∧ ((v 88 20 = u 88 20 ∧ sameE (mv u) (mv v) ∧ closedAt (ssOf u0 r) (mG u) (12 * r + x) x) ∨ (v 88 20 = 1 ∧ pct (mv u) < pct (mv v))) := by
  obtain ⟨h1, h2, h3, h4, h5⟩ := h
  have hTu := h1.tx hT
  obtain ⟨s1, s2⟩ := h1.ss
  have hn30 := (hTu r hr).1
  rw [f_X7_addEffects, mBe begin_s, mul_, nI_add]
  obtain ⟨v, e1, e2, e3, e4, e5, e6⟩ := ae_l (e := 12 * r + x) hx (by omega) (hTu r hr).1 30 0 31 FU (mup (mup u 88 7 (nI r)) 88 6 0) (by omega) (by omega) (by unfold FU; omega) (by omega) (mT.begin hr (hTu r hr).1 (hTu r hr).2.1 (hTu.text hr)) (by rw [mup_self]; rfl) (by rw [mup_sne (by decide), mup_sne (by decide)]; exact h3)
  have hss : (pA (tW u r) (tN u r) 31 0).1 = ssOf u0 r := by rw [← s1]; rfl
  rw [hss] at e5 e6
  have w94 : ∀ i : Nat, mup (mup u 88 7 (nI r)) 88 6 0 (94 + i) = u (94 + i) := fun i => by rw [mup_ne (by omega), mup_ne (by omega)]
  have w20 : mup (mup u 88 7 (nI r)) 88 6 0 88 20 = u 88 20 := by rw [mup_sne (by decide), mup_sne (by decide)]
  have wF : fE u (mup (mup u 88 7 (nI r)) 88 6 0) := ((((pf7.rf u).up (by omega)).up (by omega)) : pf7 u (mup (mup u 88 7 (nI r)) 88 6 0)).fE
  have v94 : ∀ i : Nat, i < 4 → ∀ e' : Nat, e' ≠ 12 * r + x → v (94 + i) e' = u (94 + i) e' := fun i hi e' h => by rw [e2.2.2 i hi e' h, w94]
  have hg : grow (mv u) (mv v) := fun i hi e' => by
    rw [mv_i hi, mv_i hi]
    by_cases ee : e' = 12 * r + x
    · subst ee
      have := e4 i hi
      rw [w94] at this
      exact this
    · rw [v94 i hi e' ee]; exact isub.rf _
  refine ⟨v, e1, ⟨(h1.tr wF).tr e2.fE, fun r' => ?_, e3, fun G hG e' he' i hi => ?_, fun i hi e' he' => ?_⟩, hg, ?_⟩
  · rw [e2.1 98 (by decide) (by omega), mup_ne (by decide), mup_ne (by decide)]
    exact h2 r'
  · by_cases ee : e' = 12 * r + x
    · subst ee
      refine e5 (fun i => G i (12 * r + x)) (fun i hi => by rw [w94]; exact h4 G hG _ he' i hi) (fun st hst i hi => ?_) i hi
      have hc := hG r hr x hx st hst i hi
      refine ⟨hc.1, fun q3 => ?_⟩
      have ok := ssOf_ok hT hr st hst
      have := plc_18 (x := x) ok.2.1
      have := ok.2.2.2.1
      rw [w94]
      exact (h4 G hG _ (by omega) i hi).tr (hc.2 q3)
    · rw [v94 i hi e' ee]; exact h4 G hG e' he' i hi
  · rw [mv_i hi]
    by_cases ee : e' = 12 * r + x
    · subst ee
      refine e5 msk (fun i hi => ?_) (fun st hst i hi => ?_) i hi
      · have := h5 i hi _ he'
        rw [mv_i hi] at this
        rw [w94]; exact this
      · have ok := ssOf_ok hT hr st hst
        refine ⟨ownM_msk ok i hi, fun q3 => ?_⟩
        have := plc_18 (x := x) ok.2.1
        have := ok.2.2.2.1
        have := h5 i hi (12 * st.2.2.1 + (plc st.2.1 x - 6)) (by omega)
        rw [mv_i hi] at this
        rw [w94]; exact this
    · have := h5 i hi e' he'
      rw [mv_i hi] at this
      rw [v94 i hi e' ee]; exact this
  · rw [w20] at e6
    rcases e6 with ⟨p1, p2, p3⟩ | ⟨p1, p2⟩
    · refine Or.inl ⟨p1, fun i hi e' => ?_, fun st hst i hi => ?_⟩
      · rw [mv_i hi, mv_i hi]
        by_cases ee : e' = 12 * r + x
        · subst ee
          have := p2 i hi
          rw [w94] at this
          exact this
        · exact v94 i hi e' ee
      · have := p3 st hst i hi
        unfold mG at this ⊢
        rw [w94] at this
        exact this
    · refine Or.inr ⟨p1, ?_⟩
      have e0 : pce (mv (mup (mup u 88 7 (nI r)) 88 6 0)) (12 * r + x) = pce (mv u) (12 * r + x) := by
        unfold pce
        have q : ∀ i : Nat, i < 4 → mv (mup (mup u 88 7 (nI r)) 88 6 0) (3 + i) = mv u (3 + i) := fun i hi => by rw [mv_i hi, mv_i hi, w94]
        rw [show mv (mup (mup u 88 7 (nI r)) 88 6 0) 3 = mv u 3 from q 0 (by omega), show mv (mup (mup u 88 7 (nI r)) 88 6 0) 4 = mv u 4 from q 1 (by omega), show mv (mup (mup u 88 7 (nI r)) 88 6 0) 5 = mv u 5 from q 2 (by omega), show mv (mup (mup u 88 7 (nI r)) 88 6 0) 6 = mv u 6 from q 3 (by omega)]
      rw [e0] at p2
      exact pct_lt hg (by omega) p2
theorem div_ {a b : Nat} (ha : a < 1000000) (h0 : 0 < b) (hb : b < 1000000) : nI a / nI b = nI (a / b) := pk_div (by omega) h0 (by omega)
theorem fe65 {u0 : MU} (hT : TX u0) (k51 : MU → mR) : ∀ (d e F : Nat) (u : MU), 72 - e ≤ d → d < F → e ≤ 72 → sM u0 u → ∃ v : MU, l_X7_findEffects_65 k51 F (nI e) u = k51 v ∧ sM u0 v ∧ grow (mv u) (mv v) ∧ ((v 88 20 = u 88 20 ∧ sameE (mv u) (mv v) ∧ ∀ e' : Nat, e ≤ e' → e' < 72 → closedAt (ssOf u0 (e' / 12)) (mG u) e' (e' % 12)) ∨ (v 88 20 = 1 ∧ pct (mv u) < pct (mv v))) := by
  intro d
  have exit : ∀ (e F : Nat) (u : MU), 0 < F → 72 ≤ e → e ≤ 72 → sM u0 u → ∃ v : MU, l_X7_findEffects_65 k51 F (nI e) u = k51 v ∧ sM u0 v ∧ grow (mv u) (mv v) ∧ ((v 88 20 = u 88 20 ∧ sameE (mv u) (mv v) ∧ ∀ e' : Nat, e ≤ e' → e' < 72 → closedAt (ssOf u0 (e' / 12)) (mG u) e' (e' % 12)) ∨ (v 88 20 = 1 ∧ pct (mv u) < pct (mv v))) := by
    intro e F u h1 h2 h3 h4
    obtain ⟨F, rfl⟩ : ∃ g, F = g + 1 := ⟨F - 1, by omega⟩
    rw [l_X7_findEffects_65, b_X7_findEffects_65, if_pos ((le_ (by omega) (by omega)).mpr (by omega))]
    exact ⟨u, rfl, h4, grow.rf _, Or.inl ⟨rfl, sameE.rf _, fun e' a b => by omega⟩⟩
  induction d with
  | zero => intro e F u h1 h2 h3 h4; exact exit e F u (by omega) (by omega) h3 h4
  | succ d ih =>
    intro e F u h1 h2 h3 h4
    by_cases he : e < 72
    · obtain ⟨F, rfl⟩ : ∃ g, F = g + 1 := ⟨F - 1, by omega⟩
      rw [l_X7_findEffects_65, b_X7_findEffects_65, if_neg (fun q => absurd ((le_ (by omega) (by omega)).mp q) (by omega)), div_ (by omega) (by omega) (by omega), irm_ (by omega) (by omega) (by omega)]
      obtain ⟨v, e1, e2, e3, e4⟩ := addE_s hT h4 (show e / 12 < 6 by omega) (show e % 12 < 12 by omega)
      rw [show 12 * (e / 12) + e % 12 = e by omega] at e4
      rw [mBe e1, nI_1]
      obtain ⟨t, g1, g2, g3, g4⟩ := ih (e + 1) F v (by omega) (by omega) (by omega) e2
      refine ⟨t, g1, g2, e3.tr g3, ?_⟩
      rcases e4 with ⟨p1, p2, p3⟩ | ⟨p1, p2⟩
      · rcases g4 with ⟨m1, m2, m3⟩ | ⟨m1, m2⟩
        · refine Or.inl ⟨m1.trans p1, p2.tr m2, fun e' a b => ?_⟩
          by_cases ee : e' = e
          · rw [ee]; exact p3
          · intro st hst i hi
            have := m3 e' (by omega) b st hst i hi
            have q : ∀ e2 : Nat, v (94 + i) e2 = u (94 + i) e2 := fun e2 => by
              have := p2 i hi e2
              rw [mv_i hi, mv_i hi] at this
              exact this
            unfold mG at this ⊢
            rw [q, q] at this
            exact this
        · exact Or.inr ⟨m1, by rw [← p2.pcq]; exact m2⟩
      · have := pct_le g3
        refine Or.inr ⟨?_, by omega⟩
        rcases g4 with ⟨m1, -⟩ | ⟨m1, -⟩
        · exact m1.trans p1
        · exact m1
    · exact exit e F u (by omega) (by omega) h3 h4
theorem sM.u20 {u0 u : MU} {x : Int32} (h : sM u0 u) (hx : mZ x = true) : sM u0 (mup u 88 20 x) := by
  obtain ⟨h1, h2, h3, h4, h5⟩ := h
  refine ⟨h1.u20, fun r => by rw [mup_ne (by decide)]; exact h2 r, by rw [mup_self]; exact hx, fun G hG e he i hi => by rw [mup_ne (by omega)]; exact h4 G hG e he i hi, fun i hi e he => ?_⟩
  have := h5 i hi e he
  rw [mv_i hi] at this ⊢
  rw [mup_ne (by omega)]
  exact this
theorem mv_u20 {u : MU} {x : Int32} : ∀ i : Nat, i < 4 → mv (mup u 88 20 x) (3 + i) = mv u (3 + i) := fun i hi => by rw [mv_i hi, mv_i hi, mup_ne (by omega)]
theorem fe51 {u0 : MU} (hT : TX u0) : ∀ (d F : Nat) (u : MU), 3961 - pct (mv u) ≤ d → d + 2 ≤ F → sM u0 u → u 88 20 = 1 → ∃ v : MU, l_X7_findEffects_51 F u = some (0, v) ∧ sM u0 v ∧ UGm u0 (mG v) := by
  intro d
  induction d with
  | zero =>
    intro F u h1 h2 h3 h4
    have := msk_pcn h3.2.2.2.2
    omega
  | succ d ih =>
    intro F u h1 h2 h3 h4
    obtain ⟨F, rfl⟩ : ∃ g, F = g + 1 := ⟨F - 1, by omega⟩
    rw [l_X7_findEffects_51, b_X7_findEffects_51, if_neg (by rw [h4]; decide), mSe, ← nI_0]
    obtain ⟨v, e1, e2, e3, e4⟩ := fe65 hT (fun u => l_X7_findEffects_51 F u) 72 0 FU (mup u 88 20 (nI 0)) (by omega) (by unfold FU; omega) (by omega) (h3.u20 rfl)
    rw [e1]
    have hpc : pct (mv (mup u 88 20 (nI 0))) = pct (mv u) := sameE.pcq (fun i hi e => by rw [mv_u20 i hi])
    rcases e4 with ⟨p1, p2, p3⟩ | ⟨p1, p2⟩
    · obtain ⟨F, rfl⟩ : ∃ g, F = g + 1 := ⟨F - 1, by omega⟩
      rw [mup_self] at p1
      rw [l_X7_findEffects_51, b_X7_findEffects_51, if_pos (by rw [p1]; rfl)]
      refine ⟨v, rfl, e2, fun r hr x hx st hst i hi => ?_⟩
      have := p3 (12 * r + x) (by omega) (by omega)
      rw [show (12 * r + x) / 12 = r by omega, show (12 * r + x) % 12 = x by omega] at this
      have := this st hst i hi
      have q : ∀ e2 : Nat, mup u 88 20 (nI 0) (94 + i) e2 = v (94 + i) e2 := fun e2 => by
        have := p2 i hi e2
        rw [mv_i hi, mv_i hi] at this
        exact this.symm
      unfold mG at this ⊢
      rw [q, q] at this
      exact this
    · rw [hpc] at p2
      exact ih F v (by omega) (by omega) e2 p1
theorem fe6 {u0 : MU} (hT : TX u0) : ∀ (d e F : Nat) (u : MU), 72 - e ≤ d → d < F → e ≤ 72 → fE u0 u → (∀ r : Nat, u 98 r = u0 98 r) → (∀ e' : Nat, e' < e → ∀ i : Nat, i < 4 → u (94 + i) e' = 0) → ∃ v : MU, l_X7_findEffects_6 F (nI e) u = some (0, v) ∧ sM u0 v ∧ UGm u0 (mG v) := by
  intro d
  have exit : ∀ (e F : Nat) (u : MU), 0 < F → 72 ≤ e → e ≤ 72 → fE u0 u → (∀ r : Nat, u 98 r = u0 98 r) → (∀ e' : Nat, e' < e → ∀ i : Nat, i < 4 → u (94 + i) e' = 0) → ∃ v : MU, l_X7_findEffects_6 F (nI e) u = some (0, v) ∧ sM u0 v ∧ UGm u0 (mG v) := by
    intro e F u h1 h2 h3 h4 h5 h6
    obtain ⟨F, rfl⟩ : ∃ g, F = g + 1 := ⟨F - 1, by omega⟩
    rw [l_X7_findEffects_6, b_X7_findEffects_6, if_pos ((le_ (by omega) (by omega)).mpr (by omega)), mSe]
    have hM : sM u0 (mup u 88 20 1) := by
      refine ⟨h4.u20, fun r => by rw [mup_ne (by decide)]; exact h5 r, by rw [mup_self]; rfl, fun G hG e' he' i hi => ?_, fun i hi e' he' => ?_⟩
      · rw [mup_ne (by omega), h6 e' (by omega) i hi]; exact isub.zero _
      · rw [mv_u20 i hi, mv_i hi, h6 e' (by omega) i hi]; exact isub.zero _
    exact fe51 hT 3961 FU _ (by omega) (by unfold FU; omega) hM mup_self
  induction d with
  | zero => intro e F u h1 h2 h3 h4; exact exit e F u (by omega) (by omega) h3 h4
  | succ d ih =>
    intro e F u h1 h2 h3 h4 h5 h6
    by_cases he : e < 72
    · obtain ⟨F, rfl⟩ : ∃ g, F = g + 1 := ⟨F - 1, by omega⟩
      have ix := ix_ he (show (72 : Nat) < 1000 by omega)
      rw [l_X7_findEffects_6, b_X7_findEffects_6, if_neg (fun q => absurd ((le_ (by omega) (by omega)).mp q) (by omega)), gdt ix, mSe, gdt ix, mSe, gdt ix, mSe, gdt ix, mSe, nc_ (by omega), nI_1]
      refine ih (e + 1) F _ (by omega) (by omega) (by omega) ((((h4.up (by omega)).up (by omega)).up (by omega)).up (by omega)) (fun r => ?_) (fun e' he' i hi => ?_)
      · rw [mup_ne (by decide), mup_ne (by decide), mup_ne (by decide), mup_ne (by decide)]; exact h5 r
      · by_cases ee : e' = e
        · subst ee
          rcases i4 hi with rfl | rfl | rfl | rfl
          · show mup _ 97 _ _ 94 e' = 0; rw [mup_ne (by decide), mup_ne (by decide), mup_ne (by decide), mup_self]
          · show mup _ 97 _ _ 95 e' = 0; rw [mup_ne (by decide), mup_ne (by decide), mup_self]
          · show mup _ 97 _ _ 96 e' = 0; rw [mup_ne (by decide), mup_self]
          · show mup _ 97 _ _ 97 e' = 0; rw [mup_self]
        · have q := h6 e' (by omega) i hi
          rcases i4 hi with rfl | rfl | rfl | rfl
          · show mup _ 97 _ _ 94 e' = 0; rw [mup_ne (by decide), mup_ne (by decide), mup_ne (by decide), mup_sne ee]; exact q
          · show mup _ 97 _ _ 95 e' = 0; rw [mup_ne (by decide), mup_ne (by decide), mup_sne ee, mup_ne (by decide)]; exact q
          · show mup _ 97 _ _ 96 e' = 0; rw [mup_ne (by decide), mup_sne ee, mup_ne (by decide), mup_ne (by decide)]; exact q
          · show mup _ 97 _ _ 97 e' = 0; rw [mup_sne ee, mup_ne (by decide), mup_ne (by decide), mup_ne (by decide)]; exact q
    · exact exit e F u (by omega) (by omega) h3 h4 h5 h6
/-- the model found what the class found: of all that is known -/
def ME (u : MU) : Prop := RE u ∧ ∀ r : Nat, r < 6 → u 7 r = 1 → ∀ x : Nat, x < 12 → ∀ i : Nat, i < 4 → u (94 + i) (12 * r + x) = u (3 + i) (12 * r + x)
theorem meff_s {u : MU} (hT : TX u) (hK : KN u) (hC : CE u) : ∃ v : MU, f_X7_findEffects u = some (0, v) ∧ fE u v ∧ ME v ∧ KN v ∧ CE v := by
  rw [f_X7_findEffects]
  obtain ⟨a, a1, a2, a3⟩ := reach_s hT
  have hTa := a2.tx hT
  obtain ⟨v, e1, ⟨h1, h2, h3, h4, h5⟩, e3⟩ := fe6 hTa 72 0 FU a (by omega) (by unfold FU; omega) (by omega) (fE.rf a) (fun _ => rfl) (fun e' h => by omega)
  rw [nI_0] at e1
  rw [mBe a1]
  have hf := a2.tr h1
  obtain ⟨s1, s2⟩ := hf.ss
  obtain ⟨s3, s4⟩ := h1.ss
  have v7 : v 7 = u 7 := hf.1 7 (by decide) (by omega)
  have v3 : ∀ i : Nat, i < 4 → v (3 + i) = u (3 + i) := fun i hi => hf.1 (3 + i) (by omega) (by omega)
  have kn : KN v := by unfold KN; rw [s1, s2, v7]; exact hK
  have ce : CE v := by
    unfold CE
    rw [s1, v7]
    refine ⟨fun r hr hk x hx st hst i hi => ?_, fun G hG r hr hk x hx i hi => ?_⟩
    · dsimp only
      rw [v3 i hi]
      exact hC.1 r hr hk x hx st hst i hi
    · rw [v3 i hi]
      exact hC.2 G hG r hr hk x hx i hi
  refine ⟨v, e1, hf, ⟨?_, fun r hr hk x hx i hi => ?_⟩, kn, ce⟩
  · obtain ⟨r1, r2⟩ := a3
    have calE : ∀ s t : Nat, cal v s t ↔ cal a s t := fun s t => by unfold cal; rw [s3]
    refine ⟨fun r hr S hS hcl s hs hb => ?_, fun r hr => ?_⟩
    · rw [h2] at hb
      exact r1 r hr S hS (fun s t a b c => hcl s t a b ((calE s t).mpr c)) s hs hb
    · rw [h2]
      exact ⟨(r2 r hr).1, fun s hs hb t hc => (r2 r hr).2 s hs hb t ((calE s t).mp hc)⟩
  · have sa : ssOf a = ssOf v := s3.symm
    refine isub.antisymm ?_ ?_
    · -- what the class found, the model's elsewhere, is closed
      have hG : UGm a (fun i e => if v 7 (e / 12) = 1 then v (3 + i) e else v (94 + i) e) := by
        intro r' hr' x' hx' st hst i hi
        rw [sa] at hst
        dsimp only
        rw [show (12 * r' + x') / 12 = r' by omega]
        have ok := ssOf_ok (hf.tx hT) hr' st hst
        have h18 := plc_18 (x := x') ok.2.1
        have h6 := ok.2.2.2.1
        have h4' := ok.2.2.1
        rcases mZ_or (kn.1 r' hr') with q | q
        · rw [if_neg (by rw [q]; decide)]
          have := e3 r' hr' x' hx' st (by rw [sa]; exact hst) i hi
          unfold mG at this
          refine ⟨this.1, fun q3 => ?_⟩
          by_cases c : v 7 ((12 * st.2.2.1 + (plc st.2.1 x' - 6)) / 12) = 1
          · rw [if_pos c]
            have hd : (12 * st.2.2.1 + (plc st.2.1 x' - 6)) / 12 = st.2.2.1 := by omega
            rw [hd] at c
            have hG2 := ce.2 (mG v) (fun r2 hr2 _ x2 hx2 => by have := e3 r2 hr2 x2 hx2; rw [sa] at this; exact this) st.2.2.1 h6 c (plc st.2.1 x' - 6) (by omega) i hi
            exact hG2.tr (this.2 q3)
          · rw [if_neg c]; exact this.2 q3
        · rw [if_pos q]
          have := ce.1 r' hr' q x' hx' st hst i hi
          refine ⟨this.1, fun q3 => ?_⟩
          have hk' := (kn.2.1 r' hr' q).2 st hst q3
          rw [show (12 * st.2.2.1 + (plc st.2.1 x' - 6)) / 12 = st.2.2.1 by omega, if_pos hk']
          exact this.2 q3
      have := h4 _ hG (12 * r + x) (by omega) i hi
      rw [show (12 * r + x) / 12 = r by omega, if_pos hk] at this
      exact this
    · exact ce.2 (mG v) (fun r2 hr2 _ x2 hx2 => by have := e3 r2 hr2 x2 hx2; rw [sa] at this; exact this) r hr hk x hx i hi
