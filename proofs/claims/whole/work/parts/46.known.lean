theorem mZ_or {x : Int32} (h : mZ x = true) : x = 0 ∨ x = 1 := by
  unfold mZ at h
  rw [Bool.or_eq_true, decide_eq_true_eq, decide_eq_true_eq] at h
  exact h
theorem kb_l {bits : Int32} {u : MU} (hz : ∀ r : Nat, r < 6 → mZ (u 7 r) = true) : ∀ (d i F : Nat), 6 - i ≤ d → d < F → i ≤ 6 → (l_X0_knowsBits_2 bits F (nI i) u = some (1, u) ∧ ∀ s : Nat, i ≤ s → s < 6 → bt bits s = true → u 7 s = 1) ∨ (l_X0_knowsBits_2 bits F (nI i) u = some (0, u) ∧ ∃ s : Nat, s < 6 ∧ bt bits s = true ∧ u 7 s = 0) := by
  intro d
  induction d with
  | zero =>
    intro i F h1 h2 h3
    obtain ⟨F, rfl⟩ : ∃ g, F = g + 1 := ⟨F - 1, by omega⟩
    left
    rw [l_X0_knowsBits_2, b_X0_knowsBits_2, if_pos ((le_ (by omega) (by omega)).mpr (by omega))]
    exact ⟨rfl, fun s a b => by omega⟩
  | succ d ih =>
    intro i F h1 h2 h3
    obtain ⟨F, rfl⟩ : ∃ g, F = g + 1 := ⟨F - 1, by omega⟩
    rw [l_X0_knowsBits_2, b_X0_knowsBits_2]
    by_cases hl : i < 6
    · rw [if_neg (fun z => absurd ((le_ (by omega) (by omega)).mp z) (by omega)), b_X0_knowsBits_28, nI_1, gdt (ix_ hl (by omega)), nc_ (by omega)]
      by_cases c : bt bits i = true
      · rw [if_pos ((tb_sh1 (by omega)).mpr c)]
        rcases mZ_or (hz i hl) with e | e
        · rw [e, if_pos rfl]
          exact Or.inr ⟨rfl, i, hl, c, e⟩
        · rw [e, if_neg (by decide)]
          rcases ih (i + 1) F (by omega) (by omega) (by omega) with ⟨g1, g2⟩ | g
          · refine Or.inl ⟨g1, fun s a b hs => ?_⟩
            by_cases es : s = i
            · subst es; exact e
            · exact g2 s (by omega) b hs
          · exact Or.inr g
      · rw [if_neg (fun q => c ((tb_sh1 (by omega)).mp q))]
        rcases ih (i + 1) F (by omega) (by omega) (by omega) with ⟨g1, g2⟩ | g
        · refine Or.inl ⟨g1, fun s a b hs => ?_⟩
          by_cases es : s = i
          · subst es; exact absurd hs c
          · exact g2 s (by omega) b hs
        · exact Or.inr g
    · left
      rw [if_pos ((le_ (by omega) (by omega)).mpr (by omega))]
      exact ⟨rfl, fun s a b => by omega⟩
theorem kb_s {u : MU} (bits : Int32) (hz : ∀ r : Nat, r < 6 → mZ (u 7 r) = true) : (f_X0_knowsBits bits u = some (1, u) ∧ ∀ s : Nat, s < 6 → bt bits s = true → u 7 s = 1) ∨ (f_X0_knowsBits bits u = some (0, u) ∧ ∃ s : Nat, s < 6 ∧ bt bits s = true ∧ u 7 s = 0) := by
  rcases kb_l (bits := bits) hz 6 0 FU (by omega) (by unfold FU; omega) (by omega) with ⟨h1, h2⟩ | h
  · exact Or.inl ⟨h1, fun s a b => h2 s (by omega) a b⟩
  · exact Or.inr h
def cal (u : MU) (r s : Nat) : Prop := ∃ st ∈ ssOf u r, st.1 = 3 ∧ st.2.2.1 = s
def only7 (u v : MU) : Prop := ∀ k : Nat, k ≠ 7 → v k = u k
theorem only7.ss {u v : MU} (h : only7 u v) : ssOf v = ssOf u ∧ flOf v = flOf u := ss_cong (h 89 (by decide)) (h 90 (by decide))
theorem only7.tr {u v t : MU} (h : only7 u v) (g : only7 v t) : only7 u t := fun k hk => (g k hk).trans (h k hk)
theorem TX.only7 {u v : MU} (h : TX u) (g : only7 u v) : TX v := h.cong (g 89 (by decide)) (g 90 (by decide)) (fun k a b => g k (by omega))
def clS (u : MU) (S : Nat → Prop) : Prop := ∀ r : Nat, r < 6 → S r → flOf u r = none ∧ ∀ s : Nat, cal u r s → S s
theorem cal_lt {u : MU} (h : TX u) {r s : Nat} (hr : r < 6) (hc : cal u r s) : s < 6 := by
  obtain ⟨st, h1, h2, rfl⟩ := hc
  exact ((h r hr).2.2.2.2.2.2.2.2 st h1).2.2.2.1
theorem cal_bt {u : MU} (h : TX u) {r s : Nat} (hr : r < 6) (hs : s < 6) : bt ((ssOf u r).foldl cbA 0) s = true ↔ cal u r s := by
  have q := cb_bt hs (ssOf u r) 0 ((h r hr).2.2.2.2.2.2.2.2)
  rw [q, b_0]
  constructor
  · rintro (q | q)
    · cases q
    · exact q
  · exact Or.inr
/-- a round over the routines -/
theorem kr_l {u0 : MU} (hT : TX u0) (k38 : Int32 → MU → mR) (x2 : Int32) : ∀ (d i F : Nat) (u : MU), 6 - i ≤ d → d < F → i ≤ 6 → only7 u0 u → (∀ r : Nat, r < 6 → mZ (u 7 r) = true) → ∃ v : MU, l_X0_findKnown_46 k38 F x2 (nI i) u = k38 (x2 + 1) v ∧ only7 u0 v ∧ (∀ r : Nat, r < 6 → v 7 r = u 7 r ∨ (u 7 r = 1 ∧ v 7 r = 0)) ∧ (∀ S : Nat → Prop, clS u0 S → (∀ r : Nat, r < 6 → S r → u 7 r = 1) → ∀ r : Nat, r < 6 → S r → v 7 r = 1) ∧ ((∀ r : Nat, r < 6 → v 7 r = u 7 r) → ∀ r : Nat, i ≤ r → r < 6 → u 7 r = 1 → ∀ s : Nat, cal u0 r s → u 7 s = 1) := by
  intro d
  induction d with
  | zero =>
    intro i F u h1 h2 h3 h4 h5
    obtain ⟨F, rfl⟩ : ∃ g, F = g + 1 := ⟨F - 1, by omega⟩
    rw [l_X0_findKnown_46, b_X0_findKnown_46, if_pos ((le_ (by omega) (by omega)).mpr (by omega))]
    exact ⟨u, rfl, h4, fun r _ => Or.inl rfl, fun S _ h r hr hS => h r hr hS, fun _ r a b => by omega⟩
  | succ d ih =>
    intro i F u h1 h2 h3 h4 h5
    obtain ⟨F, rfl⟩ : ∃ g, F = g + 1 := ⟨F - 1, by omega⟩
    rw [l_X0_findKnown_46, b_X0_findKnown_46]
    by_cases hl : i < 6
    · have hT' := hT.only7 h4
      obtain ⟨ss1, ss2⟩ := h4.ss
      have calE : ∀ r s : Nat, cal u r s ↔ cal u0 r s := fun r s => by unfold cal; rw [ss1]
      rw [if_neg (fun z => absurd ((le_ (by omega) (by omega)).mp z) (by omega)), gdt (ix_ hl (by omega)), nc_ (by omega), rtn_n (by omega)]
      -- the step leaves row 7 with value z at i
      have go : ∀ z : Int32, mZ z = true → b_X0_findKnown_84 k38 (fun x2 x3 u => l_X0_findKnown_46 k38 F x2 x3 u) x2 (nI i) z (nI i) u = l_X0_findKnown_46 k38 F x2 (nI (i + 1)) (mup u 7 i z) := by
        intro z hz
        rw [b_X0_findKnown_84, gdt hz, gdt (ix_ hl (by omega)), mSe, nc_ (by omega), nI_1]
      have o7 : ∀ z : Int32, only7 u0 (mup u 7 i z) := fun z k hk => by rw [mup_ne hk]; exact h4 k hk
      have keep : u 7 i = 0 ∨ (u 7 i = 1 ∧ ∀ s : Nat, cal u0 i s → u 7 s = 1) → ∃ v : MU, l_X0_findKnown_46 k38 F x2 (nI (i + 1)) (mup u 7 i (u 7 i)) = k38 (x2 + 1) v ∧ only7 u0 v ∧ (∀ r : Nat, r < 6 → v 7 r = u 7 r ∨ (u 7 r = 1 ∧ v 7 r = 0)) ∧ (∀ S : Nat → Prop, clS u0 S → (∀ r : Nat, r < 6 → S r → u 7 r = 1) → ∀ r : Nat, r < 6 → S r → v 7 r = 1) ∧ ((∀ r : Nat, r < 6 → v 7 r = u 7 r) → ∀ r : Nat, i ≤ r → r < 6 → u 7 r = 1 → ∀ s : Nat, cal u0 r s → u 7 s = 1) := by
        intro hi
        rw [mup_id rfl]
        obtain ⟨v, e1, e2, e3, e4, e5⟩ := ih (i + 1) F u (by omega) (by omega) (by omega) h4 h5
        refine ⟨v, e1, e2, e3, e4, fun q r a b c s hs => ?_⟩
        by_cases er : r = i
        · subst er
          rcases hi with hi | hi
          · rw [hi] at c; exact absurd c (by decide)
          · exact hi.2 s hs
        · exact e5 q r (by omega) b c s hs
      rcases mZ_or (h5 i hl) with e | e
      · rw [e, if_pos rfl, b_X0_findKnown_83, go 0 rfl]
        have := keep (Or.inl e)
        rw [e] at this
        exact this
      · rw [e, if_neg (by decide), gdt (ix_ hl (by omega)), mBe (cbits_s (hT' i hl).2.2)]
        rcases kb_s ((pA (tW u i) (tN u i) 31 0).1.foldl cbA 0) h5 with ⟨g1, g2⟩ | ⟨g1, s, hs, g2, g3⟩
        · rw [mBe g1, if_neg (by decide), go 1 rfl]
          have := keep (Or.inr ⟨e, fun s hs => g2 s (cal_lt hT hl hs) ((cal_bt hT' hl (cal_lt hT hl hs)).mpr ((calE i s).mpr hs))⟩)
          rw [e] at this
          exact this
        · rw [mBe g1, if_pos rfl, b_X0_findKnown_83, go 0 rfl]
          have hc : cal u0 i s := (calE i s).mp ((cal_bt hT' hl hs).mp g2)
          have h5' : ∀ r : Nat, r < 6 → mZ (mup u 7 i 0 7 r) = true := fun r hr => by
            by_cases er : r = i
            · subst er; rw [mup_self]; rfl
            · rw [mup_sne er]; exact h5 r hr
          obtain ⟨v, e1, e2, e3, e4, e5⟩ := ih (i + 1) F (mup u 7 i 0) (by omega) (by omega) (by omega) (o7 0) h5'
          have vi : v 7 i = 0 := by
            rcases e3 i hl with q | q
            · rw [q, mup_self]
            · exact q.2
          refine ⟨v, e1, e2, fun r hr => ?_, fun S hS hK r hr hSr => ?_, fun q => ?_⟩
          · by_cases er : r = i
            · subst er; exact Or.inr ⟨e, vi⟩
            · have := e3 r hr
              rw [mup_sne er] at this
              exact this
          · refine e4 S hS (fun r hr hSr => ?_) r hr hSr
            by_cases er : r = i
            · subst er
              have hSs := (hS r hr hSr).2 s hc
              have := hK s hs hSs
              rw [g3] at this
              exact absurd this (by decide)
            · rw [mup_sne er]; exact hK r hr hSr
          · have := q i hl
            rw [vi, e] at this
            exact absurd this (by decide)
    · rw [if_pos ((le_ (by omega) (by omega)).mpr (by omega))]
      exact ⟨u, rfl, h4, fun r _ => Or.inl rfl, fun S _ h r hr hS => h r hr hS, fun _ r a b => by omega⟩
def kcn (u : MU) : Nat := (List.range 6).countP (fun r => decide (u 7 r = 1))
theorem ko_l {u0 : MU} (hT : TX u0) : ∀ (d j F : Nat) (u : MU), 6 - j ≤ d → d < F → j ≤ 6 → only7 u0 u → (∀ r : Nat, r < 6 → mZ (u 7 r) = true) → (∀ r : Nat, r < 6 → u 7 r = 1 → flOf u0 r = none) → (∀ S : Nat → Prop, clS u0 S → ∀ r : Nat, r < 6 → S r → u 7 r = 1) → ((∀ r : Nat, r < 6 → u 7 r = 1 → ∀ s : Nat, cal u0 r s → u 7 s = 1) ∨ kcn u + j ≤ 6) → ∃ v : MU, l_X0_findKnown_38 F (nI j) u = some (0, v) ∧ only7 u0 v ∧ KN v := by
  have fin : ∀ u : MU, only7 u0 u → (∀ r : Nat, r < 6 → mZ (u 7 r) = true) → (∀ r : Nat, r < 6 → u 7 r = 1 → flOf u0 r = none) → (∀ S : Nat → Prop, clS u0 S → ∀ r : Nat, r < 6 → S r → u 7 r = 1) → (∀ r : Nat, r < 6 → u 7 r = 1 → ∀ s : Nat, cal u0 r s → u 7 s = 1) → KN u := by
    intro u h4 h5 h6 h7 h8
    obtain ⟨ss1, ss2⟩ := h4.ss
    unfold KN
    rw [ss1, ss2]
    refine ⟨h5, fun r hr hk => ⟨h6 r hr hk, fun st hst q3 => h8 r hr hk _ ⟨st, hst, q3, rfl⟩⟩, fun S hS r hr hSr => h7 S (fun r hr hSr => ⟨(hS r hr hSr).1, fun s hs => ?_⟩) r hr hSr⟩
    obtain ⟨st, a, b, rfl⟩ := hs
    exact (hS r hr hSr).2 st a b
  intro d
  induction d with
  | zero =>
    intro j F u h1 h2 h3 h4 h5 h6 h7 h8
    obtain ⟨F, rfl⟩ : ∃ g, F = g + 1 := ⟨F - 1, by omega⟩
    rw [l_X0_findKnown_38, b_X0_findKnown_38, if_pos ((le_ (by omega) (by omega)).mpr (by omega))]
    refine ⟨u, rfl, h4, fin u h4 h5 h6 h7 ?_⟩
    rcases h8 with h8 | h8
    · exact h8
    · intro r hr hk
      have : kcn u = 0 := by omega
      unfold kcn at this
      rw [List.countP_eq_zero] at this
      have := this r (List.mem_range.mpr hr)
      simp [hk] at this
  | succ d ih =>
    intro j F u h1 h2 h3 h4 h5 h6 h7 h8
    by_cases hj : j < 6
    · obtain ⟨F, rfl⟩ : ∃ g, F = g + 1 := ⟨F - 1, by omega⟩
      rw [l_X0_findKnown_38, b_X0_findKnown_38, if_neg (fun z => absurd ((le_ (by omega) (by omega)).mp z) (by omega))]
      obtain ⟨v, e1, e2, e3, e4, e5⟩ := kr_l hT (fun x2 u => l_X0_findKnown_38 F x2 u) (nI j) 6 0 FU u (by omega) (by unfold FU; omega) (by omega) h4 h5
      rw [show (0 : Int32) = nI 0 from rfl, e1, nI_1]
      have vz : ∀ r : Nat, r < 6 → mZ (v 7 r) = true := fun r hr => by
        rcases e3 r hr with q | q
        · rw [q]; exact h5 r hr
        · rw [q.2]; rfl
      refine ih (j + 1) F v (by omega) (by omega) (by omega) e2 vz (fun r hr hk => ?_) (fun S hS r hr hSr => e4 S hS (h7 S hS) r hr hSr) ?_
      · rcases e3 r hr with q | q
        · exact h6 r hr (q ▸ hk)
        · rw [q.2] at hk; exact absurd hk (by decide)
      · by_cases same : ∀ r : Nat, r < 6 → v 7 r = u 7 r
        · left
          intro r hr hk s hs
          rw [same s (cal_lt hT hr hs)]
          exact e5 same r (by omega) hr (by rw [← same r hr]; exact hk) s hs
        · rcases h8 with h8 | h8
          · exfalso
            apply same
            intro r hr
            rcases mZ_or (h5 r hr) with q | q
            · rcases e3 r hr with q2 | q2
              · exact q2
              · rw [q] at q2; exact absurd q2.1 (by decide)
            · rw [q]
              refine e4 (fun s => s < 6 ∧ u 7 s = 1) (fun r hr hSr => ⟨h6 r hr hSr.2, fun s hs => ⟨cal_lt hT hr hs, h8 r hr hSr.2 s hs⟩⟩) (fun r hr hSr => hSr.2) r hr ⟨hr, q⟩
          · right
            obtain ⟨r, hr⟩ := Classical.not_forall.mp same
            obtain ⟨hr6, hne⟩ := Classical.not_imp.mp hr
            have hrr := (e3 r hr6).resolve_left hne
            have : kcn v < kcn u := by
              unfold kcn
              refine countP_lt (j := r) (fun i hi hp => ?_) (List.mem_range.mpr hr6) ?_ ?_
              · rw [decide_eq_true_eq] at hp ⊢
                rcases e3 i (List.mem_range.mp hi) with q | q
                · rw [← q]; exact hp
                · exact q.1
              · rw [hrr.2]; decide
              · rw [hrr.1]; decide
            omega
    · obtain ⟨F, rfl⟩ : ∃ g, F = g + 1 := ⟨F - 1, by omega⟩
      rw [l_X0_findKnown_38, b_X0_findKnown_38, if_pos ((le_ (by omega) (by omega)).mpr (by omega))]
      refine ⟨u, rfl, h4, fin u h4 h5 h6 h7 ?_⟩
      rcases h8 with h8 | h8
      · exact h8
      · intro r hr hk
        have : kcn u = 0 := by omega
        unfold kcn at this
        rw [List.countP_eq_zero] at this
        have := this r (List.mem_range.mpr hr)
        simp [hk] at this
theorem kf_l {u0 : MU} (hT : TX u0) : ∀ (d i F : Nat) (u : MU), 6 - i ≤ d → d < F → i ≤ 6 → only7 u0 u → (∀ r : Nat, r < i → u 7 r = if flOf u0 r = none then 1 else 0) → ∃ v : MU, l_X0_findKnown_2 F (nI i) u = some (0, v) ∧ only7 u0 v ∧ KN v := by
  have fin : ∀ (F i : Nat) (u : MU), 0 < F → 6 ≤ i → i ≤ 6 → only7 u0 u → (∀ r : Nat, r < i → u 7 r = if flOf u0 r = none then 1 else 0) → ∃ v : MU, l_X0_findKnown_2 F (nI i) u = some (0, v) ∧ only7 u0 v ∧ KN v := by
    intro F i u hF h6 h6' h4 h5
    obtain ⟨F, rfl⟩ : ∃ g, F = g + 1 := ⟨F - 1, by omega⟩
    have k1 : ∀ r : Nat, r < 6 → u 7 r = 1 → flOf u0 r = none := fun r hr hk => by
      have := h5 r (by omega)
      by_cases c : flOf u0 r = none
      · exact c
      · rw [if_neg c, hk] at this; exact absurd this (by decide)
    rw [l_X0_findKnown_2, b_X0_findKnown_2, if_pos ((le_ (by omega) (by omega)).mpr (by omega))]
    refine ko_l hT 6 0 FU u (by omega) (by unfold FU; omega) (by omega) h4 (fun r hr => ?_) k1 (fun S hS r hr hSr => ?_) (Or.inr ?_)
    · rw [h5 r (by omega)]; split <;> rfl
    · rw [h5 r (by omega), if_pos (hS r hr hSr).1]
    · have : kcn u ≤ 6 := by
        unfold kcn
        have := List.countP_le_length (p := fun r => decide (u 7 r = 1)) (l := List.range 6)
        simpa using this
      omega
  intro d
  induction d with
  | zero => intro i F u h1 h2 h3 h4 h5; exact fin F i u (by omega) (by omega) h3 h4 h5
  | succ d ih =>
    intro i F u h1 h2 h3 h4 h5
    by_cases hl : i < 6
    · obtain ⟨F, rfl⟩ : ∃ g, F = g + 1 := ⟨F - 1, by omega⟩
      have hR := (hT.only7 h4 i hl).2.2
      have hf : u (30 + 8 * i) 2 = oF (flOf u0 i) := by
        rw [hR.2.1]
        show oF (flOf u i) = _
        rw [h4.ss.2]
      have hb : ¬ flOf u0 i = none → ¬ oF (flOf u0 i) = -6 := by
        intro q
        cases hc : flOf u0 i with
        | none => exact absurd hc q
        | some b =>
          have hb30 : b ≤ tN u0 i := pA_flt hc
          have := (hT i hl).1
          intro z
          have := congrArg Int32.toInt z
          rw [show oF (some b) = nI b from rfl, toInt_n (by omega), show (-6 : Int32).toInt = -6 from rfl] at this
          omega
      have go : ∀ z : Int32, mZ z = true → (z = if flOf u0 i = none then 1 else 0) → ∃ v : MU, b_X0_findKnown_29 (fun x2 u => l_X0_findKnown_2 F x2 u) (nI i) z (nI i) u = some (0, v) ∧ only7 u0 v ∧ KN v := by
        intro z hz he
        rw [b_X0_findKnown_29, gdt hz, gdt (ix_ hl (by omega)), mSe, nc_ (by omega), nI_1]
        refine ih (i + 1) F _ (by omega) (by omega) (by omega) (fun k hk => by rw [mup_ne hk]; exact h4 k hk) (fun r hr => ?_)
        by_cases er : r = i
        · subst er; rw [mup_self]; exact he
        · rw [mup_sne er]; exact h5 r (by omega)
      rw [l_X0_findKnown_2, b_X0_findKnown_2, if_neg (fun z => absurd ((le_ (by omega) (by omega)).mp z) (by omega)), gdt (ix_ hl (by omega)), rtn_n (by omega), hf]
      by_cases c : flOf u0 i = none
      · rw [if_pos (by rw [c]; rfl)]
        exact go 1 rfl (by rw [if_pos c])
      · rw [if_neg (hb c)]
        exact go 0 rfl (by rw [if_neg c])
    · exact fin F i u (by omega) (by omega) h3 h4 h5
theorem known_s {u : MU} (hT : TX u) : ∃ v : MU, f_X0_findKnown u = some (0, v) ∧ only7 u v ∧ KN v := by
  rw [f_X0_findKnown]
  exact kf_l hT 6 0 FU u (by omega) (by unfold FU; omega) (by omega) (fun _ _ => rfl) (fun r hr => by omega)
