theorem sum_le {f g : Nat → Nat} : ∀ n : Nat, (∀ e : Nat, e < n → f e ≤ g e) → ((List.range n).map f).sum ≤ ((List.range n).map g).sum := by
  intro n
  induction n with
  | zero => intro _; exact Nat.le_refl _
  | succ n ih =>
    intro h
    rw [List.range_succ, List.map_append, List.map_append, List.sum_append, List.sum_append]
    have := ih (fun e he => h e (by omega))
    have := h n (by omega)
    simp only [List.map_cons, List.map_nil, List.sum_cons, List.sum_nil]
    omega
theorem sum_lt {f g : Nat → Nat} : ∀ n : Nat, (∀ e : Nat, e < n → f e ≤ g e) → ∀ e0 : Nat, e0 < n → f e0 < g e0 → ((List.range n).map f).sum < ((List.range n).map g).sum := by
  intro n
  induction n with
  | zero => intro _ e0 h; omega
  | succ n ih =>
    intro h e0 he hlt
    rw [List.range_succ, List.map_append, List.map_append, List.sum_append, List.sum_append]
    simp only [List.map_cons, List.map_nil, List.sum_cons, List.sum_nil]
    by_cases c : e0 = n
    · subst c
      have := sum_le e0 (fun e he => h e (by omega))
      omega
    · have := ih (fun e he => h e (by omega)) e0 (by omega) hlt
      have := h n (by omega)
      omega
def pct (u : MU) : Nat := ((List.range 72).map (pce u)).sum
def grow (u v : MU) : Prop := ∀ i : Nat, i < 4 → ∀ e : Nat, isub (u (3 + i) e) (v (3 + i) e)
theorem grow.rf (u : MU) : grow u u := fun _ _ _ => isub.rf _
theorem grow.tr {u v t : MU} (h : grow u v) (g : grow v t) : grow u t := fun i hi e => (h i hi e).tr (g i hi e)
theorem pct_le {u v : MU} (h : grow u v) : pct u ≤ pct v := sum_le 72 (fun e _ => pce_le (fun i hi => h i hi e))
theorem pct_lt {u v : MU} (h : grow u v) {e : Nat} (he : e < 72) (hlt : pce u e < pce v e) : pct u < pct v := sum_lt 72 (fun e _ => pce_le (fun i hi => h i hi e)) e he hlt
def sameE (u v : MU) : Prop := ∀ i : Nat, i < 4 → ∀ e : Nat, v (3 + i) e = u (3 + i) e
theorem sameE.rf (u : MU) : sameE u u := fun _ _ _ => rfl
theorem sameE.tr {u v t : MU} (h : sameE u v) (g : sameE v t) : sameE u t := fun i hi e => (g i hi e).trans (h i hi e)
theorem sameE.pcq {u v : MU} (h : sameE u v) : pct v = pct u := by
  have : pce v = pce u := by
    funext e
    unfold pce
    have h0 := h 0 (by omega) e; have h1 := h 1 (by omega) e; have h2 := h 2 (by omega) e; have h3 := h 3 (by omega) e
    simp only [Nat.add_zero, Nat.reduceAdd] at h0 h1 h2 h3
    rw [h0, h1, h2, h3]
  unfold pct
  rw [this]
def UG (u : MU) (G : Nat → Nat → Int32) : Prop := ∀ r : Nat, r < 6 → u 7 r = 1 → ∀ x : Nat, x < 12 → closedAt (ssOf u r) G (12 * r + x) x
def UB (u0 u : MU) : Prop := ∀ G : Nat → Nat → Int32, UG u0 G → ∀ r : Nat, r < 6 → u0 7 r = 1 → ∀ x : Nat, x < 12 → ∀ i : Nat, i < 4 → isub (u (3 + i) (12 * r + x)) (G i (12 * r + x))
def msk (i : Nat) : Int32 := if i = 3 then 1 else nI 262143
def MB (u : MU) : Prop := ∀ i : Nat, i < 4 → ∀ e : Nat, e < 72 → isub (u (3 + i) e) (msk i)
def ccl (u0 u : MU) (r x : Nat) : Prop := ∀ st ∈ ssOf u0 r, st.1 = 3 → ∀ i : Nat, i < 4 → isub (u (3 + i) (12 * st.2.2.1 + (plc st.2.1 x - 6))) (u (3 + i) (12 * r + x))
theorem plc_18 {s x : Nat} (h : s < 30) : plc s x < 18 := by unfold plc; split <;> omega
theorem ssOf_ok {u : MU} (h : TX u) {r : Nat} (hr : r < 6) : ∀ st ∈ ssOf u r, stOK st := (h r hr).2.2.2.2.2.2.2.2
/-- what holds of every state of the search -/
def sI (u0 u : MU) : Prop := eO u0 u ∧ UB u0 u ∧ MB u
theorem sI.tx {u0 u : MU} (hT : TX u0) (h : sI u0 u) : TX u := hT.cong (h.1 89 (by omega)) (h.1 90 (by omega)) (fun k a b => h.1 k (by omega))
theorem sI.ss {u0 u : MU} (h : sI u0 u) : ssOf u = ssOf u0 ∧ flOf u = flOf u0 := ss_cong (h.1 89 (by omega)) (h.1 90 (by omega))
theorem tfc_s {u0 u : MU} (hT : TX u0) (hK : KN u0) (h : sI u0 u) {r x : Nat} (hr : r < 6) (hk : u0 7 r = 1) (hx : x < 12) : ∃ (z : Int32) (v : MU), f_X0_takeFromCallees (30 + 8 * r) (nI (12 * r + x)) (nI x) u = some (z, v) ∧ sI u0 v ∧ grow u v ∧ ((z = 0 ∧ sameE u v ∧ ccl u0 u r x) ∨ (z = 1 ∧ pct u < pct v)) := by
  have hTu := h.tx hT
  obtain ⟨s1, s2⟩ := h.ss
  have hss : ssOf u0 r = (pA (tW u r) (tN u r) 31 0).1 := by rw [← s1]; rfl
  rw [f_X0_takeFromCallees, show l_X0_takeFromCallees_6 (30 + 8 * r) (nI (12 * r + x)) (nI x) FU 0 0 u = l_X0_takeFromCallees_6 (30 + 8 * r) (nI (12 * r + x)) (nI x) FU 0 (nI 0) u from rfl]
  obtain ⟨z, v, e1, e2, e3, e4, e5, e6⟩ := tfc_l (q := 30 + 8 * r) (e := 12 * r + x) (x := x) (ss := ssOf u0 r) hss hx (by omega) (by omega) 15 0 FU 0 u (by have := (hTu r hr).2.2.2.2.2.1; rw [hss]; omega) (by unfold FU; omega) (by omega) (hTu r hr).2.2 rfl
  have hg : grow u v := fun i hi e => by
    by_cases ee : e = 12 * r + x
    · subst ee; exact e4 i hi
    · rw [e3.2 i hi e ee]; exact isub.rf _
  have callee : ∀ st ∈ ssOf u0 r, st.1 = 3 → u0 7 st.2.2.1 = 1 ∧ st.2.2.1 < 6 ∧ plc st.2.1 x - 6 < 12 := fun st hst q3 => by
    have ok := ssOf_ok hT hr st hst
    have := plc_18 (x := x) ok.2.1
    exact ⟨(hK.2.1 r hr hk).2 st hst q3, ok.2.2.2.1, by omega⟩
  refine ⟨z, v, e1, ⟨h.1.tr e3.1, fun G hG r' hr' hk' x' hx' i hi => ?_, fun i hi e he => ?_⟩, hg, ?_⟩
  · by_cases ee : 12 * r' + x' = 12 * r + x
    · have er : r' = r := by omega
      have ex : x' = x := by omega
      subst er; subst ex
      refine e5 G (fun i hi => h.2.1 G hG r' hr' hk x' hx i hi) (fun st hst q3 i hi => ?_) i hi
      obtain ⟨c1, c2, c3⟩ := callee st hst q3
      exact (h.2.1 G hG _ c2 c1 _ c3 i hi).tr (((hG r' hr' hk x' hx) st hst i hi).2 q3)
    · rw [e3.2 i hi _ ee]
      exact h.2.1 G hG r' hr' hk' x' hx' i hi
  · by_cases ee : e = 12 * r + x
    · subst ee
      refine e5 (fun i _ => msk i) (fun i hi => h.2.2 i hi _ he) (fun st hst q3 i hi => ?_) i hi
      obtain ⟨c1, c2, c3⟩ := callee st hst q3
      exact h.2.2 i hi _ (by omega)
    · rw [e3.2 i hi e ee]; exact h.2.2 i hi e he
  · rcases e6 with ⟨p1, p2, p3⟩ | ⟨p1, p2⟩
    · refine Or.inl ⟨p1, fun i hi e => ?_, fun st hst q3 i hi => ?_⟩
      · by_cases ee : e = 12 * r + x
        · subst ee; exact p2 i hi
        · exact e3.2 i hi e ee
      · obtain ⟨k, hk'⟩ := List.getElem?_of_mem hst
        exact p3 k (by omega) st hk' q3 i hi
    · exact Or.inr ⟨p1, pct_lt hg (by omega) p2⟩
theorem gi_l {u0 : MU} (hT : TX u0) (hK : KN u0) {r : Nat} (hr : r < 6) (hk : u0 7 r = 1) (k4 : Int32 → Int32 → MU → mR) : ∀ (d x F : Nat) (z : Int32) (u : MU), 12 - x ≤ d → d < F → x ≤ 12 → mZ z = true → sI u0 u → ∃ (z' : Int32) (v : MU), l_X0_goRound_31 k4 F z (nI r) (nI x) u = k4 z' (nI (r + 1)) v ∧ mZ z' = true ∧ sI u0 v ∧ grow u v ∧ ((z' = z ∧ sameE u v ∧ ∀ x' : Nat, x ≤ x' → x' < 12 → ccl u0 u r x') ∨ (z' = 1 ∧ pct u < pct v)) := by
  intro d
  have exit : ∀ (x F : Nat) (z : Int32) (u : MU), 0 < F → 12 ≤ x → x ≤ 12 → mZ z = true → sI u0 u → ∃ (z' : Int32) (v : MU), l_X0_goRound_31 k4 F z (nI r) (nI x) u = k4 z' (nI (r + 1)) v ∧ mZ z' = true ∧ sI u0 v ∧ grow u v ∧ ((z' = z ∧ sameE u v ∧ ∀ x' : Nat, x ≤ x' → x' < 12 → ccl u0 u r x') ∨ (z' = 1 ∧ pct u < pct v)) := by
    intro x F z u h1 h2 h3 hz hI
    obtain ⟨F, rfl⟩ : ∃ g, F = g + 1 := ⟨F - 1, by omega⟩
    rw [l_X0_goRound_31, b_X0_goRound_31, if_pos ((le_ (by omega) (by omega)).mpr (by omega)), b_X0_goRound_73, nI_1]
    exact ⟨z, u, rfl, hz, hI, grow.rf u, Or.inl ⟨rfl, sameE.rf u, fun x' a b => by omega⟩⟩
  induction d with
  | zero => intro x F z u h1 h2 h3 hz hI; exact exit x F z u (by omega) (by omega) h3 hz hI
  | succ d ih =>
    intro x F z u h1 h2 h3 hz hI
    by_cases hx : x < 12
    · obtain ⟨F, rfl⟩ : ∃ g, F = g + 1 := ⟨F - 1, by omega⟩
      obtain ⟨t, v, e1, e2, e3, e4⟩ := tfc_s hT hK hI hr hk hx
      rw [l_X0_goRound_31, b_X0_goRound_31, if_neg (fun q => absurd ((le_ (by omega) (by omega)).mp q) (by omega)), gdt (ix_ hr (by omega)), rtn_n (by omega), mul_, nI_add, Nat.mul_comm r 12, mBe e1]
      have done : ∀ z2 : Int32, mZ z2 = true → ((z2 = z ∧ t = 0) ∨ (z2 = 1 ∧ t = 1)) → ∃ (z' : Int32) (v' : MU), l_X0_goRound_31 k4 F z2 (nI r) (nI (x + 1)) v = k4 z' (nI (r + 1)) v' ∧ mZ z' = true ∧ sI u0 v' ∧ grow u v' ∧ ((z' = z ∧ sameE u v' ∧ ∀ x' : Nat, x ≤ x' → x' < 12 → ccl u0 u r x') ∨ (z' = 1 ∧ pct u < pct v')) := by
        intro z2 hz2 hor
        obtain ⟨z', v', f1, f2, f3, f4, f5⟩ := ih (x + 1) F z2 v (by omega) (by omega) (by omega) hz2 e2
        refine ⟨z', v', f1, f2, f3, e3.tr f4, ?_⟩
        rcases hor with ⟨q1, q2⟩ | ⟨q1, q2⟩
        · rcases e4 with ⟨p1, p2, p3⟩ | ⟨p1, p2⟩
          · rcases f5 with ⟨m1, m2, m3⟩ | ⟨m1, m2⟩
            · refine Or.inl ⟨m1.trans q1, p2.tr m2, fun x' a b => ?_⟩
              by_cases ex : x' = x
              · subst ex; exact p3
              · intro st hst q3 i hi
                have := m3 x' (by omega) b st hst q3 i hi
                rw [p2 i hi, p2 i hi] at this
                exact this
            · exact Or.inr ⟨m1, by rw [← p2.pcq]; exact m2⟩
          · rw [p1] at q2; exact absurd q2 (by decide)
        · rcases e4 with ⟨p1, p2, p3⟩ | ⟨p1, p2⟩
          · rw [p1] at q2; exact absurd q2 (by decide)
          · have := pct_le f4
            refine Or.inr ⟨?_, by omega⟩
            rcases f5 with ⟨m1, -⟩ | ⟨m1, -⟩
            · exact m1.trans q1
            · exact m1
      rcases e4 with ⟨p1, p2⟩ | ⟨p1, p2⟩
      · rw [p1, if_pos rfl]
        rcases mZ_or hz with qz | qz
        · rw [if_pos qz, b_X0_goRound_66, nI_1]
          exact done 0 rfl (Or.inl ⟨qz.symm, p1⟩)
        · rw [if_neg (by rw [qz]; decide), b_X0_goRound_61, b_X0_goRound_66, nI_1]
          exact done 1 rfl (Or.inl ⟨qz.symm, p1⟩)
      · rw [p1, if_neg (by decide), b_X0_goRound_61, b_X0_goRound_66, nI_1]
        exact done 1 rfl (Or.inr ⟨rfl, p1⟩)
    · exact exit x F z u (by omega) (by omega) h3 hz hI
theorem go_l {u0 : MU} (hT : TX u0) (hK : KN u0) : ∀ (d r F : Nat) (z : Int32) (u : MU), 6 - r ≤ d → d < F → r ≤ 6 → mZ z = true → sI u0 u → ∃ (z' : Int32) (v : MU), l_X0_goRound_4 F z (nI r) u = some (z', v) ∧ mZ z' = true ∧ sI u0 v ∧ grow u v ∧ ((z' = z ∧ sameE u v ∧ ∀ r' : Nat, r ≤ r' → r' < 6 → u0 7 r' = 1 → ∀ x : Nat, x < 12 → ccl u0 u r' x) ∨ (z' = 1 ∧ pct u < pct v)) := by
  intro d
  have exit : ∀ (r F : Nat) (z : Int32) (u : MU), 0 < F → 6 ≤ r → r ≤ 6 → mZ z = true → sI u0 u → ∃ (z' : Int32) (v : MU), l_X0_goRound_4 F z (nI r) u = some (z', v) ∧ mZ z' = true ∧ sI u0 v ∧ grow u v ∧ ((z' = z ∧ sameE u v ∧ ∀ r' : Nat, r ≤ r' → r' < 6 → u0 7 r' = 1 → ∀ x : Nat, x < 12 → ccl u0 u r' x) ∨ (z' = 1 ∧ pct u < pct v)) := by
    intro r F z u h1 h2 h3 hz hI
    obtain ⟨F, rfl⟩ : ∃ g, F = g + 1 := ⟨F - 1, by omega⟩
    rw [l_X0_goRound_4, b_X0_goRound_4, if_pos ((le_ (by omega) (by omega)).mpr (by omega)), gdt hz]
    exact ⟨z, u, rfl, hz, hI, grow.rf u, Or.inl ⟨rfl, sameE.rf u, fun r' a b => by omega⟩⟩
  induction d with
  | zero => intro r F z u h1 h2 h3 hz hI; exact exit r F z u (by omega) (by omega) h3 hz hI
  | succ d ih =>
    intro r F z u h1 h2 h3 hz hI
    by_cases hr : r < 6
    · obtain ⟨F, rfl⟩ : ∃ g, F = g + 1 := ⟨F - 1, by omega⟩
      have hTu := hI.tx hT
      obtain ⟨s1, s2⟩ := hI.ss
      have u7 : u 7 r = u0 7 r := by rw [hI.1 7 (by omega)]
      rw [l_X0_goRound_4, b_X0_goRound_4, if_neg (fun q => absurd ((le_ (by omega) (by omega)).mp q) (by omega)), gdt (ix_ hr (by omega)), nc_ (by omega), u7]
      have skip : (u0 7 r = 1 → ∀ x : Nat, x < 12 → ccl u0 u r x) → ∃ (z' : Int32) (v : MU), b_X0_goRound_73 (fun x2 x3 u => l_X0_goRound_4 F x2 x3 u) z (nI r) u = some (z', v) ∧ mZ z' = true ∧ sI u0 v ∧ grow u v ∧ ((z' = z ∧ sameE u v ∧ ∀ r' : Nat, r ≤ r' → r' < 6 → u0 7 r' = 1 → ∀ x : Nat, x < 12 → ccl u0 u r' x) ∨ (z' = 1 ∧ pct u < pct v)) := by
        intro hc
        rw [b_X0_goRound_73, nI_1]
        obtain ⟨z', v, f1, f2, f3, f4, f5⟩ := ih (r + 1) F z u (by omega) (by omega) (by omega) hz hI
        refine ⟨z', v, f1, f2, f3, f4, ?_⟩
        rcases f5 with ⟨m1, m2, m3⟩ | m
        · refine Or.inl ⟨m1, m2, fun r' a b c x hx => ?_⟩
          by_cases er : r' = r
          · subst er; exact hc c x hx
          · exact m3 r' (by omega) b c x hx
        · exact Or.inr m
      rcases mZ_or (hK.1 r hr) with q | q
      · rw [q, if_pos rfl]
        exact skip (fun h => by rw [q] at h; exact absurd h (by decide))
      · rw [q, if_neg (by decide), gdt (ix_ hr (by omega)), rtn_n (by omega), mBe (cbits_s (hTu r hr).2.2)]
        by_cases c0 : (pA (tW u r) (tN u r) 31 0).1.foldl cbA 0 = 0
        · rw [if_pos c0]
          refine skip (fun _ x hx st hst q3 => ?_)
          exfalso
          have ok := ssOf_ok hT hr st hst
          have : bt ((ssOf u r).foldl cbA 0) st.2.2.1 = true := (cal_bt hTu hr ok.2.2.2.1).mpr ⟨st, by rw [s1]; exact hst, q3, rfl⟩
          have c0' : (ssOf u r).foldl cbA 0 = 0 := c0
          rw [c0', b_0] at this
          cases this
        · rw [if_neg c0]
          obtain ⟨z', v, e1, e2, e3, e4, e5⟩ := gi_l hT hK hr q (fun x2 x3 u => l_X0_goRound_4 F x2 x3 u) 12 0 FU z u (by omega) (by unfold FU; omega) (by omega) hz hI
          rw [show l_X0_goRound_31 (fun x2 x3 u => l_X0_goRound_4 F x2 x3 u) FU z (nI r) 0 u = l_X0_goRound_31 (fun x2 x3 u => l_X0_goRound_4 F x2 x3 u) FU z (nI r) (nI 0) u from rfl, e1]
          obtain ⟨z2, v2, f1, f2, f3, f4, f5⟩ := ih (r + 1) F z' v (by omega) (by omega) (by omega) e2 e3
          refine ⟨z2, v2, f1, f2, f3, e4.tr f4, ?_⟩
          rcases e5 with ⟨p1, p2, p3⟩ | ⟨p1, p2⟩
          · rcases f5 with ⟨m1, m2, m3⟩ | ⟨m1, m2⟩
            · refine Or.inl ⟨m1.trans p1, p2.tr m2, fun r' a b c x hx => ?_⟩
              by_cases er : r' = r
              · subst er; exact p3 x (by omega) hx
              · intro st hst q3 i hi
                have := m3 r' (by omega) b c x hx st hst q3 i hi
                rw [p2 i hi, p2 i hi] at this
                exact this
            · exact Or.inr ⟨m1, by rw [← p2.pcq]; exact m2⟩
          · have := pct_le f4
            refine Or.inr ⟨?_, by omega⟩
            rcases f5 with ⟨m1, -⟩ | ⟨m1, -⟩
            · exact m1.trans p1
            · exact m1
    · exact exit r F z u (by omega) (by omega) h3 hz hI
theorem msk_pcn {u : MU} (h : MB u) : pct u ≤ 3960 := by
  have hp : ∀ e : Nat, e < 72 → pce u e ≤ 55 := fun e he => by
    have h0 := pcn_le (h 0 (by omega) e he); have h1 := pcn_le (h 1 (by omega) e he); have h2 := pcn_le (h 2 (by omega) e he); have h3 := pcn_le (h 3 (by omega) e he)
    simp only [Nat.add_zero, Nat.reduceAdd] at h0 h1 h2 h3
    have m0 : pcn (msk 0) = 18 := by decide +kernel
    have m1 : pcn (msk 1) = 18 := by decide +kernel
    have m2 : pcn (msk 2) = 18 := by decide +kernel
    have m3 : pcn (msk 3) = 1 := by decide +kernel
    unfold pce
    omega
  have := sum_le (g := fun _ => 55) 72 hp
  have e : ((List.range 72).map (fun _ => 55)).sum = 3960 := by decide +kernel
  unfold pct
  omega
theorem f54_l {u0 : MU} (hT : TX u0) (hK : KN u0) : ∀ (d j F : Nat) (z : Int32) (u : MU), 3961 - j ≤ d → d < F → j ≤ 3961 → mZ z = true → sI u0 u → (z = 1 → j ≤ pct u) → (z = 0 → ∀ r : Nat, r < 6 → u0 7 r = 1 → ∀ x : Nat, x < 12 → ccl u0 u r x) → ∃ v : MU, l_X0_find_54 F z (nI j) u = some (0, mup v 2 5 1) ∧ sI u0 v ∧ grow u v ∧ ∀ r : Nat, r < 6 → u0 7 r = 1 → ∀ x : Nat, x < 12 → ccl u0 v r x := by
  intro d
  induction d with
  | zero =>
    intro j F z u h1 h2 h3 hz hI hz1 hz0
    obtain ⟨F, rfl⟩ : ∃ g, F = g + 1 := ⟨F - 1, by omega⟩
    have hp := msk_pcn hI.2.2
    have z0 : z = 0 := by
      rcases mZ_or hz with q | q
      · exact q
      · have := hz1 q; omega
    rw [l_X0_find_54, b_X0_find_54, if_pos ((le_ (by omega) (by omega)).mpr (by omega))]
    exact ⟨u, rfl, hI, grow.rf u, hz0 z0⟩
  | succ d ih =>
    intro j F z u h1 h2 h3 hz hI hz1 hz0
    obtain ⟨F, rfl⟩ : ∃ g, F = g + 1 := ⟨F - 1, by omega⟩
    have hp := msk_pcn hI.2.2
    by_cases hj : j < 3961
    · rw [l_X0_find_54, b_X0_find_54, if_neg (fun q => absurd ((le_ (by omega) (by omega)).mp q) (by omega))]
      rcases mZ_or hz with q | q
      · rw [if_pos q]
        exact ⟨u, rfl, hI, grow.rf u, hz0 q⟩
      · obtain ⟨z', v, e1, e2, e3, e4, e5⟩ := go_l hT hK 6 0 FU 0 u (by omega) (by unfold FU; omega) (by omega) rfl hI
        rw [if_neg (by rw [q]; decide), f_X0_goRound, show l_X0_goRound_4 FU 0 0 u = l_X0_goRound_4 FU 0 (nI 0) u from rfl, mBe e1, nI_1]
        have hju := hz1 q
        obtain ⟨v2, f1, f2, f3, f4⟩ := ih (j + 1) F z' v (by omega) (by omega) (by omega) e2 e3 (fun h => by
          rcases e5 with ⟨p1, -, -⟩ | ⟨-, p2⟩
          · rw [p1] at h; exact absurd h (by decide)
          · omega) (fun h => by
          rcases e5 with ⟨-, p2, p3⟩ | ⟨p1, -⟩
          · intro r hr hk x hx st hst q3 i hi
            rw [p2 i hi, p2 i hi]
            exact p3 r (by omega) hr hk x hx st hst q3 i hi
          · rw [p1] at h; exact absurd h (by decide))
        exact ⟨v2, f1, f2, e4.tr f3, f4⟩
    · have z0 : z = 0 := by
        rcases mZ_or hz with q | q
        · exact q
        · have := hz1 q; omega
      rw [l_X0_find_54, b_X0_find_54, if_pos ((le_ (by omega) (by omega)).mpr (by omega))]
      exact ⟨u, rfl, hI, grow.rf u, hz0 z0⟩
