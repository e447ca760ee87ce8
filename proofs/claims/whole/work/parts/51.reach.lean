/-- what the model's search of effects may change -/
def fE (u v : MU) : Prop := (∀ k : Nat, k ≠ 88 → (k < 94 ∨ 98 < k) → v k = u k) ∧ ∀ j : Nat, (j < 6 ∨ (13 < j ∧ j ≠ 20)) → v 88 j = u 88 j
theorem fE.rf (u : MU) : fE u u := ⟨fun _ _ _ => rfl, fun _ _ => rfl⟩
theorem fE.tr {u v t : MU} (h : fE u v) (g : fE v t) : fE u t := ⟨fun k a b => (g.1 k a b).trans (h.1 k a b), fun j a => (g.2 j a).trans (h.2 j a)⟩
theorem pf7.fE {u v : MU} (h : pf7 u v) : fE u v := ⟨fun k a _ => h.1 k a, fun j a => h.2 j (by omega)⟩
theorem fE.ss {u v : MU} (h : fE u v) : ssOf v = ssOf u ∧ flOf v = flOf u := ss_cong (h.1 89 (by decide) (by omega)) (h.1 90 (by decide) (by omega))
theorem fE.tx {u v : MU} (h : fE u v) (hT : TX u) : TX v := hT.cong (h.1 89 (by decide) (by omega)) (h.1 90 (by decide) (by omega)) (fun k a b => h.1 k (by omega) (by omega))
theorem fE.scr {u v : MU} (h : fE u v) : scr u v := ⟨fun k hk => h.1 k (by omega) (by omega), h.2 5 (by omega)⟩
theorem fE.up {u v : MU} {k j : Nat} {x : Int32} (h : fE u v) (hk : 94 ≤ k ∧ k ≤ 98) : fE u (mup v k j x) := h.tr ⟨fun a _ c => mup_ne (by omega), fun i _ => by rw [mup_ne (by omega)]⟩
theorem fE.u20 {u v : MU} {x : Int32} (h : fE u v) : fE u (mup v 88 20 x) := h.tr ⟨fun a b _ => mup_ne b, fun i hi => mup_sne (by omega)⟩
def cmk (u : MU) (r : Nat) : Int32 := (ssOf u r).foldl cbA 0
def dstep (C : Nat → Int32) (m : Int32) : Int32 := (List.range 6).foldl (fun a s => a ||| (if bt m s = true then C s else 0)) m
theorem ds_f {C : Nat → Int32} {m : Int32} {t : Nat} : ∀ (l : List Nat) (a : Int32), bt (l.foldl (fun a s => a ||| (if bt m s = true then C s else 0)) a) t = true ↔ bt a t = true ∨ ∃ s ∈ l, bt m s = true ∧ bt (C s) t = true := by
  intro l
  induction l with
  | nil => intro a; simp
  | cons x l ih =>
    intro a
    rw [List.foldl_cons, ih, b_or, Bool.or_eq_true]
    have e : bt (if bt m x = true then C x else 0) t = true ↔ (bt m x = true ∧ bt (C x) t = true) := by
      by_cases c : bt m x = true
      · rw [if_pos c]; simp [c]
      · rw [if_neg c, b_0]; simp [c]
    rw [e]
    simp only [List.mem_cons, exists_eq_or_imp]
    constructor
    · rintro ((q | q) | q)
      · exact Or.inl q
      · exact Or.inr (Or.inl q)
      · exact Or.inr (Or.inr q)
    · rintro (q | q | q)
      · exact Or.inl (Or.inl q)
      · exact Or.inl (Or.inr q)
      · exact Or.inr q
theorem ds_bt {C : Nat → Int32} {m : Int32} {t : Nat} : bt (dstep C m) t = true ↔ bt m t = true ∨ ∃ s : Nat, s < 6 ∧ bt m s = true ∧ bt (C s) t = true := by
  unfold dstep
  rw [ds_f]
  simp only [List.mem_range]
def itD (C : Nat → Int32) (r : Nat) : Nat → Int32
  | 0 => btI r
  | k + 1 => dstep C (itD C r k)
theorem it_mono {C : Nat → Int32} {r k : Nat} : isub (itD C r k) (itD C r (k + 1)) := isub_iff.mpr fun i _ h => by
  rw [itD]; exact ds_bt.mpr (Or.inl h)
theorem it_le {C : Nat → Int32} {r k : Nat} : ∀ d : Nat, isub (itD C r k) (itD C r (k + d)) := by
  intro d
  induction d with
  | zero => exact isub.rf _
  | succ d ih => exact ih.tr it_mono
theorem it_63 {C : Nat → Int32} {r : Nat} (hr : r < 6) (hC : ∀ s : Nat, s < 6 → isub (C s) (nI 63)) : ∀ k : Nat, isub (itD C r k) (nI 63) := by
  intro k
  induction k with
  | zero =>
    have : ∀ r : Nat, r < 6 → btI r ||| nI 63 = nI 63 := by decide +kernel
    exact this r hr
  | succ k ih =>
    refine isub_iff.mpr fun i hi h => ?_
    rw [itD] at h
    rcases ds_bt.mp h with q | ⟨s, hs, _, q⟩
    · exact isub_iff.mp ih i hi q
    · exact isub_iff.mp (hC s hs) i hi q
theorem it_st {C : Nat → Int32} {r : Nat} (hr : r < 6) (hC : ∀ s : Nat, s < 6 → isub (C s) (nI 63)) : itD C r 7 = itD C r 6 := by
  have stay : ∀ k : Nat, itD C r (k + 1) = itD C r k → itD C r (k + 1 + 1) = itD C r (k + 1) := by
    intro k h
    rw [itD, h, ← itD, h]
  have main : ∀ k : Nat, itD C r (k + 1) = itD C r k ∨ k + 1 ≤ pcn (itD C r (k + 1)) := by
    intro k
    induction k with
    | zero =>
      by_cases c : itD C r 0 = itD C r 1
      · exact Or.inl c.symm
      · have := pcn_lt it_mono c
        exact Or.inr (by omega)
    | succ k ih =>
      rcases ih with q | q
      · exact Or.inl (stay k q)
      · by_cases c : itD C r (k + 1) = itD C r (k + 1 + 1)
        · exact Or.inl c.symm
        · have := pcn_lt it_mono c
          exact Or.inr (by omega)
  rcases main 6 with q | q
  · exact q
  · have h1 := pcn_le (it_63 hr hC (6 + 1))
    have h2 : pcn (nI 63) = 6 := by decide +kernel
    omega
theorem cmk_63 {u : MU} (hT : TX u) {r : Nat} (hr : r < 6) : isub (cmk u r) (nI 63) := by
  unfold cmk
  have h1 : ∀ (ss : List pSt) (b : Int32), (∀ st ∈ ss, stOK st) → isub b (nI 63) → isub (ss.foldl cbA b) (nI 63) := by
    intro ss
    induction ss with
    | nil => intro b _ h; exact h
    | cons a ss ih =>
      intro b h g
      rw [List.foldl_cons]
      refine ih _ (fun st hst => h st (List.mem_cons_of_mem _ hst)) ?_
      unfold cbA
      by_cases c : a.1 = 3
      · rw [if_pos c]
        have q : ∀ r : Nat, r < 6 → btI r ||| nI 63 = nI 63 := by decide +kernel
        exact g.or (q _ (h a List.mem_cons_self).2.2.2.1)
      · rw [if_neg c]; exact g
  exact h1 _ _ (ssOf_ok hT hr) (isub.zero _)
/-- nothing is reached that need not be -/
def RS (u0 u : MU) : Prop := ∀ r : Nat, r < 6 → ∀ S : Nat → Prop, S r → (∀ s t : Nat, s < 6 → S s → cal u0 s t → S t) → ∀ s : Nat, s < 6 → bt (u 98 r) s = true → S s
def o98 (u v : MU) : Prop := ∀ k : Nat, k ≠ 98 → v k = u k
theorem o98.tr {u v t : MU} (h : o98 u v) (g : o98 v t) : o98 u t := fun k hk => (g k hk).trans (h k hk)
theorem o98.fE {u v : MU} (h : o98 u v) : fE u v := ⟨fun k _ b => h k (by omega), fun j _ => by rw [h 88 (by decide)]⟩
theorem re47 {u0 : MU} (k31 : Int32 → MU → mR) (k39 : Int32 → Int32 → MU → mR) (x1 : Int32) {r : Nat} (hr : r < 6) : ∀ (d i F : Nat) (u : MU), 6 - i ≤ d → d < F → i ≤ 6 → RS u0 u → ∃ v : MU, l_X7_findReaches_47 k31 k39 F x1 (nI r) (nI i) u = k39 x1 (nI (r + 1)) v ∧ o98 u v ∧ (∀ r' : Nat, r' ≠ r → v 98 r' = u 98 r') ∧ isub (u 98 r) (v 98 r) ∧ (∀ s : Nat, i ≤ s → s < 6 → bt (u 98 r) s = true → isub (u 98 s) (v 98 r)) ∧ RS u0 v := by
  intro d
  have exit : ∀ (i F : Nat) (u : MU), 0 < F → 6 ≤ i → i ≤ 6 → RS u0 u → ∃ v : MU, l_X7_findReaches_47 k31 k39 F x1 (nI r) (nI i) u = k39 x1 (nI (r + 1)) v ∧ o98 u v ∧ (∀ r' : Nat, r' ≠ r → v 98 r' = u 98 r') ∧ isub (u 98 r) (v 98 r) ∧ (∀ s : Nat, i ≤ s → s < 6 → bt (u 98 r) s = true → isub (u 98 s) (v 98 r)) ∧ RS u0 v := by
    intro i F u h1 h2 h3 h4
    obtain ⟨F, rfl⟩ : ∃ g, F = g + 1 := ⟨F - 1, by omega⟩
    rw [l_X7_findReaches_47, b_X7_findReaches_47, if_pos ((le_ (by omega) (by omega)).mpr (by omega)), nI_1]
    exact ⟨u, rfl, fun _ _ => rfl, fun _ _ => rfl, isub.rf _, fun s a b => by omega, h4⟩
  induction d with
  | zero => intro i F u h1 h2 h3 h4; exact exit i F u (by omega) (by omega) h3 h4
  | succ d ih =>
    intro i F u h1 h2 h3 h4
    by_cases hi : i < 6
    · obtain ⟨F, rfl⟩ : ∃ g, F = g + 1 := ⟨F - 1, by omega⟩
      rw [l_X7_findReaches_47, b_X7_findReaches_47, if_neg (fun q => absurd ((le_ (by omega) (by omega)).mp q) (by omega)), gdt (ix_ hr (by omega)), gdt (ix_ hr (by omega)), nc_ (by omega), nc_ (by omega)]
      have go : ∀ m : Int32, (m = 0 ∧ bt (u 98 r) i = false) ∨ (m = u 98 i ∧ bt (u 98 r) i = true) → ∃ v : MU, l_X7_findReaches_47 k31 k39 F x1 (nI r) (nI (i + 1)) (mup u 98 r (u 98 r ||| m)) = k39 x1 (nI (r + 1)) v ∧ o98 u v ∧ (∀ r' : Nat, r' ≠ r → v 98 r' = u 98 r') ∧ isub (u 98 r) (v 98 r) ∧ (∀ s : Nat, i ≤ s → s < 6 → bt (u 98 r) s = true → isub (u 98 s) (v 98 r)) ∧ RS u0 v := by
        intro m hm
        have hRS : RS u0 (mup u 98 r (u 98 r ||| m)) := by
          intro r' hr' S hS hcl s hs hb
          by_cases er : r' = r
          · subst er
            rw [mup_self, b_or, Bool.or_eq_true] at hb
            rcases hb with hb | hb
            · exact h4 r' hr' S hS hcl s hs hb
            · rcases hm with ⟨e, _⟩ | ⟨e, q⟩
              · rw [e, b_0] at hb; cases hb
              · rw [e] at hb
                exact h4 i hi S (h4 r' hr' S hS hcl i hi q) hcl s hs hb
          · rw [mup_sne er] at hb
            exact h4 r' hr' S hS hcl s hs hb
        obtain ⟨v, e1, e2, e3, e4, e5, e6⟩ := ih (i + 1) F (mup u 98 r (u 98 r ||| m)) (by omega) (by omega) (by omega) hRS
        rw [mup_self] at e4 e5
        refine ⟨v, e1, fun k hk => (e2 k hk).trans (mup_ne hk), fun r' h => (e3 r' h).trans (mup_sne h), (isub.left _ _).tr e4, fun s a b c => ?_, e6⟩
        by_cases es : s = i
        · subst es
          rcases hm with ⟨_, q⟩ | ⟨e, _⟩
          · rw [q] at c; cases c
          · rw [← e]; exact (isub.right _ _).tr e4
        · by_cases er : s = r
          · rw [er]; exact (isub.left _ _).tr e4
          · have := e5 s (by omega) b (by rw [b_or, c, Bool.true_or])
            rw [mup_sne er] at this
            exact this
      by_cases c : bt (u 98 r) i = true
      · rw [if_pos ((tb_sh1 (by omega)).mpr c), gdt (ix_ hi (by omega)), b_X7_findReaches_84, gdt (ix_ hr (by omega)), mSe, nc_ (by omega), nI_1]
        exact go _ (Or.inr ⟨rfl, c⟩)
      · rw [if_neg (fun q => c ((tb_sh1 (by omega)).mp q)), b_X7_findReaches_84, gdt (ix_ hr (by omega)), mSe, nc_ (by omega), nI_1]
        exact go _ (Or.inl ⟨rfl, by simpa using c⟩)
    · exact exit i F u (by omega) (by omega) h3 h4
theorem re39 {u0 : MU} (k31 : Int32 → MU → mR) (x1 : Int32) : ∀ (d i F : Nat) (u : MU), 6 - i ≤ d → d < F → i ≤ 6 → RS u0 u → ∃ v : MU, l_X7_findReaches_39 k31 F x1 (nI i) u = k31 (x1 + 1) v ∧ o98 u v ∧ (∀ r : Nat, isub (u 98 r) (v 98 r)) ∧ (∀ r : Nat, i ≤ r → r < 6 → ∀ s : Nat, s < 6 → bt (u 98 r) s = true → isub (u 98 s) (v 98 r)) ∧ RS u0 v := by
  intro d
  have exit : ∀ (i F : Nat) (u : MU), 0 < F → 6 ≤ i → i ≤ 6 → RS u0 u → ∃ v : MU, l_X7_findReaches_39 k31 F x1 (nI i) u = k31 (x1 + 1) v ∧ o98 u v ∧ (∀ r : Nat, isub (u 98 r) (v 98 r)) ∧ (∀ r : Nat, i ≤ r → r < 6 → ∀ s : Nat, s < 6 → bt (u 98 r) s = true → isub (u 98 s) (v 98 r)) ∧ RS u0 v := by
    intro i F u h1 h2 h3 h4
    obtain ⟨F, rfl⟩ : ∃ g, F = g + 1 := ⟨F - 1, by omega⟩
    rw [l_X7_findReaches_39, b_X7_findReaches_39, if_pos ((le_ (by omega) (by omega)).mpr (by omega))]
    exact ⟨u, rfl, fun _ _ => rfl, fun _ => isub.rf _, fun r a b => by omega, h4⟩
  induction d with
  | zero => intro i F u h1 h2 h3 h4; exact exit i F u (by omega) (by omega) h3 h4
  | succ d ih =>
    intro i F u h1 h2 h3 h4
    by_cases hi : i < 6
    · obtain ⟨F, rfl⟩ : ∃ g, F = g + 1 := ⟨F - 1, by omega⟩
      rw [l_X7_findReaches_39, b_X7_findReaches_39, if_neg (fun q => absurd ((le_ (by omega) (by omega)).mp q) (by omega))]
      obtain ⟨v, e1, e2, e3, e4, e5, e6⟩ := re47 (u0 := u0) k31 (fun x1 x2 u => l_X7_findReaches_39 k31 F x1 x2 u) x1 hi 6 0 FU u (by omega) (by unfold FU; omega) (by omega) h4
      rw [nI_0] at e1
      rw [e1]
      obtain ⟨t, g1, g2, g3, g4, g5⟩ := ih (i + 1) F v (by omega) (by omega) (by omega) e6
      have uv : ∀ r : Nat, isub (u 98 r) (v 98 r) := fun r => by
        by_cases er : r = i
        · subst er; exact e4
        · rw [e3 r er]; exact isub.rf _
      refine ⟨t, g1, e2.tr g2, fun r => (uv r).tr (g3 r), fun r a b s hs c => ?_, g5⟩
      by_cases er : r = i
      · subst er
        exact (e5 s (by omega) hs c).tr (g3 r)
      · exact (uv s).tr (g4 r (by omega) b s hs (isub_iff.mp (uv r) s (by omega) c))
    · exact exit i F u (by omega) (by omega) h3 h4
def RD (C : Nat → Int32) (k : Nat) (u : MU) : Prop := ∀ r : Nat, r < 6 → isub (itD C r k) (u 98 r)
theorem re31 {u0 : MU} {C : Nat → Int32} : ∀ (d i F : Nat) (u : MU), 6 - i ≤ d → d < F → i ≤ 6 → RS u0 u → RD C (i + 1) u → ∃ v : MU, l_X7_findReaches_31 F (nI i) u = some (0, v) ∧ o98 u v ∧ RS u0 v ∧ RD C 7 v := by
  intro d
  have exit : ∀ (i F : Nat) (u : MU), 0 < F → 6 ≤ i → i ≤ 6 → RS u0 u → RD C (i + 1) u → ∃ v : MU, l_X7_findReaches_31 F (nI i) u = some (0, v) ∧ o98 u v ∧ RS u0 v ∧ RD C 7 v := by
    intro i F u h1 h2 h3 h4 h5
    obtain ⟨F, rfl⟩ : ∃ g, F = g + 1 := ⟨F - 1, by omega⟩
    rw [l_X7_findReaches_31, b_X7_findReaches_31, if_pos ((le_ (by omega) (by omega)).mpr (by omega))]
    have : i = 6 := by omega
    subst this
    exact ⟨u, rfl, fun _ _ => rfl, h4, h5⟩
  induction d with
  | zero => intro i F u h1 h2 h3 h4; exact exit i F u (by omega) (by omega) h3 h4
  | succ d ih =>
    intro i F u h1 h2 h3 h4 h5
    by_cases hi : i < 6
    · obtain ⟨F, rfl⟩ : ∃ g, F = g + 1 := ⟨F - 1, by omega⟩
      rw [l_X7_findReaches_31, b_X7_findReaches_31, if_neg (fun q => absurd ((le_ (by omega) (by omega)).mp q) (by omega))]
      obtain ⟨v, e1, e2, e3, e4, e5⟩ := re39 (u0 := u0) (fun x1 u => l_X7_findReaches_31 F x1 u) (nI i) 6 0 FU u (by omega) (by unfold FU; omega) (by omega) h4
      rw [nI_0, nI_1] at e1
      rw [e1]
      have hD : RD C (i + 1 + 1) v := by
        intro r hr
        refine isub_iff.mpr fun t ht hb => ?_
        rw [itD] at hb
        rcases ds_bt.mp hb with q | ⟨s, hs, q1, q2⟩
        · exact isub_iff.mp ((h5 r hr).tr (e3 r)) t ht q
        · have hs' : bt (u 98 r) s = true := isub_iff.mp (h5 r hr) s (by omega) q1
          have h1' : isub (itD C s 1) (u 98 s) := by
            have := (it_le (C := C) (r := s) (k := 1) i).tr (by rw [Nat.add_comm 1 i]; exact h5 s hs)
            exact this
          have h2' : bt (itD C s 1) t = true := by
            rw [itD, itD]
            refine ds_bt.mpr (Or.inr ⟨s, hs, ?_, q2⟩)
            rw [btI_bt s (by omega) s (by omega)]; simp
          exact isub_iff.mp (h1'.tr (e4 r (by omega) hr s hs hs')) t ht h2'
      obtain ⟨t, g1, g2, g3, g4⟩ := ih (i + 1) F v (by omega) (by omega) (by omega) e5 hD
      exact ⟨t, g1, e2.tr g2, g3, g4⟩
    · exact exit i F u (by omega) (by omega) h3 h4 h5
/-- what is reached: all that must be, and nothing else -/
def RE (u : MU) : Prop := RS u u ∧ ∀ r : Nat, r < 6 → bt (u 98 r) r = true ∧ ∀ s : Nat, s < 6 → bt (u 98 r) s = true → ∀ t : Nat, cal u s t → bt (u 98 r) t = true
theorem re2 {u0 : MU} (hT : TX u0) : ∀ (d i F : Nat) (u : MU), 6 - i ≤ d → d < F → i ≤ 6 → fE u0 u → (∀ r : Nat, r < i → u 98 r = btI r ||| cmk u0 r) → ∃ v : MU, l_X7_findReaches_2 F (nI i) u = some (0, v) ∧ fE u0 v ∧ RE v := by
  intro d
  have calE : ∀ v : MU, fE u0 v → ∀ s t : Nat, cal v s t ↔ cal u0 s t := fun v hv s t => by unfold cal; rw [hv.ss.1]
  have exit : ∀ (i F : Nat) (u : MU), 0 < F → 6 ≤ i → i ≤ 6 → fE u0 u → (∀ r : Nat, r < i → u 98 r = btI r ||| cmk u0 r) → ∃ v : MU, l_X7_findReaches_2 F (nI i) u = some (0, v) ∧ fE u0 v ∧ RE v := by
    intro i F u h1 h2 h3 h4 h5
    obtain ⟨F, rfl⟩ : ∃ g, F = g + 1 := ⟨F - 1, by omega⟩
    rw [l_X7_findReaches_2, b_X7_findReaches_2, if_pos ((le_ (by omega) (by omega)).mpr (by omega))]
    have hRS : RS u0 u := by
      intro r hr S hS hcl s hs hb
      rw [h5 r (by omega), b_or, Bool.or_eq_true, btI_bt r (by omega) s (by omega), decide_eq_true_eq] at hb
      rcases hb with q | q
      · rw [← q]; exact hS
      · exact hcl r s hr hS ((cal_bt hT hr hs).mp q)
    have hD : RD (cmk u0) 1 u := by
      intro r hr
      refine isub_iff.mpr fun t ht hb => ?_
      rw [h5 r (by omega), b_or, Bool.or_eq_true]
      rw [itD, itD] at hb
      rcases ds_bt.mp hb with q | ⟨s, hs, q1, q2⟩
      · exact Or.inl q
      · rw [btI_bt r (by omega) s (by omega), decide_eq_true_eq] at q1
        rw [q1]; exact Or.inr q2
    obtain ⟨v, e1, e2, e3, e4⟩ := re31 (u0 := u0) (C := cmk u0) 6 0 FU u (by omega) (by unfold FU; omega) (by omega) hRS hD
    rw [nI_0] at e1
    have hf : fE u0 v := h4.tr e2.fE
    refine ⟨v, e1, hf, fun r hr S hS hcl => e3 r hr S hS (fun s t hs hSs hc => hcl s t hs hSs ((calE v hf s t).mpr hc)), fun r hr => ?_⟩
    have hC : ∀ s : Nat, s < 6 → isub (cmk u0 s) (nI 63) := fun s hs => cmk_63 hT hs
    have hst := it_st hr hC
    have hr0 : bt (itD (cmk u0) r 6) r = true := isub_iff.mp (it_le (C := cmk u0) (r := r) (k := 0) 6) r (by omega) (by rw [itD, btI_bt r (by omega) r (by omega)]; simp)
    have low : isub (itD (cmk u0) r 6) (v 98 r) := by rw [← hst]; exact e4 r hr
    have clo : ∀ s t : Nat, s < 6 → bt (itD (cmk u0) r 6) s = true → cal u0 s t → bt (itD (cmk u0) r 6) t = true := by
      intro s t hs hb hc
      rw [← hst, itD]
      exact ds_bt.mpr (Or.inr ⟨s, hs, hb, (cal_bt hT hs (cal_lt hT hs hc)).mpr hc⟩)
    refine ⟨isub_iff.mp low r (by omega) hr0, fun s hs hb t hc => ?_⟩
    have hc' := (calE v hf s t).mp hc
    have := e3 r hr (fun s => bt (itD (cmk u0) r 6) s = true) hr0 clo s hs hb
    exact isub_iff.mp low t (by have := cal_lt hT hs hc'; omega) (clo s t hs this hc')
  induction d with
  | zero => intro i F u h1 h2 h3 h4; exact exit i F u (by omega) (by omega) h3 h4
  | succ d ih =>
    intro i F u h1 h2 h3 h4 h5
    by_cases hi : i < 6
    · obtain ⟨F, rfl⟩ : ∃ g, F = g + 1 := ⟨F - 1, by omega⟩
      have hTu := h4.tx hT
      obtain ⟨v, e1, e2⟩ := callsOf_s (u := u) hi (hTu i hi).1 (hTu i hi).2.1 (hTu.text hi)
      rw [l_X7_findReaches_2, b_X7_findReaches_2, if_neg (fun q => absurd ((le_ (by omega) (by omega)).mp q) (by omega)), mBe e1, gdt (ix_ hi (by omega)), mSe, nc_ (by omega), nI_1]
      have ec : (pA (tW u i) (tN u i) 31 0).1.foldl cbA 0 = cmk u0 i := by
        unfold cmk
        rw [← h4.ss.1]; rfl
      rw [ec]
      refine ih (i + 1) F _ (by omega) (by omega) (by omega) ((h4.tr e2.fE).up (by omega)) (fun r hr => ?_)
      by_cases er : r = i
      · subst er; rw [mup_self]; rfl
      · rw [mup_sne er, e2.1 98 (by decide)]; exact h5 r (by omega)
    · exact exit i F u (by omega) (by omega) h3 h4 h5
theorem reach_s {u : MU} (hT : TX u) : ∃ v : MU, f_X7_findReaches u = some (0, v) ∧ fE u v ∧ RE v := by
  rw [f_X7_findReaches, ← nI_0]
  exact re2 hT 6 0 FU u (by omega) (by unfold FU; omega) (by omega) (fE.rf u) (fun r hr => by omega)
