def rF (u v : MU) : Prop := (∀ k : Nat, k ≠ 88 → k ≠ 99 → k ≠ 105 → k ≠ 106 → k ≠ 107 → v k = u k) ∧ ∀ j : Nat, (j < 6 ∨ (13 < j ∧ j ≠ 30 ∧ j ≠ 31)) → v 88 j = u 88 j
theorem rF.rf (u : MU) : rF u u := ⟨fun _ _ _ _ _ _ => rfl, fun _ _ => rfl⟩
theorem rF.tr {u v t : MU} (h : rF u v) (g : rF v t) : rF u t := ⟨fun k a b c d e => (g.1 k a b c d e).trans (h.1 k a b c d e), fun j a => (g.2 j a).trans (h.2 j a)⟩
theorem rF.u88 {u v : MU} {j : Nat} {x : Int32} (h : rF u v) (hj : (6 ≤ j ∧ j ≤ 13) ∨ j = 30 ∨ j = 31) : rF u (mup v 88 j x) := h.tr ⟨fun k a _ _ _ _ => mup_ne a, fun i hi => mup_sne (by omega)⟩
theorem rF.up {u v : MU} {k j : Nat} {x : Int32} (h : rF u v) (hk : k = 99 ∨ k = 105 ∨ k = 106 ∨ k = 107) : rF u (mup v k j x) := h.tr ⟨fun i _ b c d e => mup_ne (by omega), fun i _ => by rw [mup_ne (by omega)]⟩
theorem pf.rF {u v : MU} (h : pf u v) : rF u v := ⟨fun k a _ _ _ _ => h.1 k a, fun j hj => h.2 j (by omega)⟩
/-- the model's state between two statements -/
def mP (u0 u : MU) (p : Nat) (V : Nat → Nat) (s : Nat) : Prop := rF u0 u ∧ u 88 30 = nI p ∧ rwV u 99 V ∧ VOK V ∧ u 88 31 = nI s
def mO (u0 : MU) (p s : Nat) (u : MU) (R : rRS) : Prop :=
  (R.1 = 0 ∧ s ≤ R.2.2 ∧ R.2.2 ≤ 200 ∧ ∃ (k : Nat) (v : MU), k ≤ 2 * (R.2.2 - s) + 1 ∧ (∀ F : Nat, l_X7_doCall_26 (F + k) u = l_X7_doCall_26 F v) ∧ mP u0 v (p - 1) R.2.1 R.2.2 ∧ ∀ i : Nat, i + 1 < p → v 105 i = u 105 i ∧ v 106 i = u 106 i ∧ v 107 i = u 107 i) ∨
  (R.1 = 1 ∧ ∃ (k : Nat) (v : MU), k ≤ 2 * (202 - s) ∧ (∀ F : Nat, l_X7_doCall_26 (F + k) u = some (1, v)) ∧ rF u0 v ∧ rwV v 99 R.2.1 ∧ VOK R.2.1 ∧ v 88 31 = nI R.2.2 ∧ R.2.2 ≤ 200) ∨
  (R.1 = 2 ∧ ∃ (k : Nat) (v : MU), k ≤ 2 * (202 - s) ∧ (∀ F : Nat, l_X7_doCall_26 (F + k) u = some (nI 2, v)) ∧ rF u0 v)
/-- one more turn of the loop, one step counted -/
theorem mO.step {u0 u v : MU} {p s : Nat} {R : rRS} (hs : s < 200) (h1 : ∀ F : Nat, l_X7_doCall_26 (F + 1) u = l_X7_doCall_26 F v) (h2 : ∀ i : Nat, i + 1 < p → v 105 i = u 105 i ∧ v 106 i = u 106 i ∧ v 107 i = u 107 i) (h : mO u0 p (s + 1) v R) : mO u0 p s u R := by
  rcases h with ⟨a1, a2, a3, k, t, a4, a5, a6, a7⟩ | ⟨a1, k, t, a2, a3, a4⟩ | ⟨a1, k, t, a2, a3, a4⟩
  · exact Or.inl ⟨a1, by omega, a3, k + 1, t, by omega, fun F => by rw [← Nat.add_assoc, h1]; exact a5 F, a6, fun i hi => ⟨(a7 i hi).1.trans (h2 i hi).1, (a7 i hi).2.1.trans (h2 i hi).2.1, (a7 i hi).2.2.trans (h2 i hi).2.2⟩⟩
  · exact Or.inr (Or.inl ⟨a1, k + 1, t, by omega, fun F => by rw [← Nat.add_assoc, h1]; exact a3 F, a4⟩)
  · exact Or.inr (Or.inr ⟨a1, k + 1, t, by omega, fun F => by rw [← Nat.add_assoc, h1]; exact a3 F, a4⟩)
theorem lvl_n {now : Nat → Int32} {V : Nat → Nat} {x : Nat} {l : Nat × Nat} (h : ∀ j : Nat, j < 18 → now j = nI (V j)) (hl : lfOK l) : lvl now x l = nI (lvN V x l) := by
  unfold lvl lvN
  rcases hl with ⟨h1, h2⟩ | ⟨h1, h2⟩ | ⟨h1, h2⟩
  · rw [if_pos h1, if_pos h1]
  · rw [if_neg (by omega), if_pos h1, if_neg (by omega), if_pos h1]
  · rw [if_neg (by omega), if_neg (by omega), if_neg (by omega), if_neg (by omega)]
    exact h _ (plc_18 h2)
theorem fold_n {now : Nat → Int32} {V : Nat → Nat} {x : Nat} (h : ∀ j : Nat, j < 18 → now j = nI (V j)) : ∀ (ls : List (Nat × Nat)) (c : Nat), (∀ l ∈ ls, lfOK l) → ls.foldl (fun s l => s + lvl now x l) (nI c) = nI (sumF V x ls c) := by
  intro ls
  induction ls with
  | nil => intro c _; rfl
  | cons a ls ih =>
    intro c ho
    rw [List.foldl_cons, lvl_n h (ho a List.mem_cons_self), nI_add, ih _ (fun l hl => ho l (List.mem_cons_of_mem _ hl))]
    rfl
theorem thr_s {u : MU} {x : Nat} {V : Nat → Nat} {st : pSt} {now : Nat → Int32} (hs : sOK u x now st) (hnow : ∀ j : Nat, j < 18 → now j = nI (V j)) (h99 : rwV u 99 V) (hV : VOK V) (hx : x < 12) (ho : stOK st) (hlen : st.2.2.2.length ≤ 30) (hk : ¬ st.1 = 3) : f_X7_isThrowing u = if st.1 = 2 then (if V (plc st.2.1 x) = 0 then some (1, u) else some (0, u)) else if st.1 = 0 then some (0, mup u 99 (plc st.2.1 x) (nI (sumF V x st.2.2.2 0 % 100))) else some (0, mup u 99 (plc st.2.1 x) (nI ((V (plc st.2.1 x) + sumF V x st.2.2.2 0) % 100))) := by
  obtain ⟨s0, s1, s2, s3, s4, s5, s6⟩ := hs
  have hp := plc_18 (x := x) ho.2.1
  have ip := ix_ hp (show (18 : Nat) < 1000 by omega)
  have h11 := s4 (by have := ho.1; omega)
  have hVp := hV _ hp
  have hsle := sumF_le hV hx st.2.2.2 0 (fun l hl => ho.2.2.2.2 l hl)
  have h8 : st.1 < 2 → u 88 8 = nI (sumF V x st.2.2.2 0 % 100) := fun c => by
    rw [(s6 c).1, show (0 : Int32) = nI 0 from rfl, fold_n hnow st.2.2.2 0 (fun l hl => ho.2.2.2.2 l hl), irm_ (by omega) (by omega) (by omega)]
  rcases (show st.1 = 0 ∨ st.1 = 1 ∨ st.1 = 2 by have := ho.1; omega) with k | k | k
  · rw [if_neg (by omega), if_pos k]
    have hw : b_X7_isThrowing_53 (u 88 11) u = some (0, mup u 99 (plc st.2.1 x) (nI (sumF V x st.2.2.2 0 % 100))) := by
      rw [b_X7_isThrowing_53, b_X7_isThrowing_77, h11, gdt ip, mSe, nc_ (by omega), h8 (by omega)]
    rw [f_X7_isThrowing]
    rcases s0 k with q | q
    · rw [q, if_neg (by decide), if_pos rfl, hw]
    · rw [q, if_neg (by decide), if_neg (by decide), if_pos rfl, hw]
  · rw [if_neg (by omega), if_neg (by omega)]
    have hw : gd (mIx (u 88 11) 18) (b_X7_isThrowing_77 (irm ((u 99 (u 88 11).toNatClampNeg) + (u 88 8)) (nI 100)) (u 88 11) u) = some (0, mup u 99 (plc st.2.1 x) (nI ((V (plc st.2.1 x) + sumF V x st.2.2.2 0) % 100))) := by
      rw [b_X7_isThrowing_77, h11, gdt ip, gdt ip, mSe, nc_ (by omega), h8 (by omega), h99 _ hp, nI_add, irm_ (by omega) (by omega) (by omega), Nat.add_mod_mod]
    rw [f_X7_isThrowing]
    rcases s1 k with q | q
    · rw [q, if_neg (by decide), if_neg (by decide), if_neg (by decide), hw]
    · rw [q, if_neg (by decide), if_neg (by decide), if_neg (by decide), hw]
  · rw [if_pos k, f_X7_isThrowing, s2 k, if_pos rfl, h11, gdt ip, nc_ (by omega), h99 _ hp]
    by_cases c : V (plc st.2.1 x) = 0
    · rw [if_pos c, if_pos (by rw [c]; rfl)]
    · rw [if_neg c, if_neg (fun z => c ((e0_ (by omega)).mp z))]
theorem push_s {u : MU} {p r x : Nat} (hp : p < 20) (h : u 88 30 = nI p) : f_X7_push (nI r) (nI x) u = some (0, mup (mup (mup (mup u 105 p (nI r)) 106 p 0) 107 p (nI x)) 88 30 (nI (p + 1))) := by
  have ip := ix_ hp (show (20 : Nat) < 1000 by omega)
  have e1 : mup u 105 p (nI r) 88 30 = nI p := by rw [mup_ne (by decide)]; exact h
  have e2 : mup (mup u 105 p (nI r)) 106 p 0 88 30 = nI p := by rw [mup_ne (by decide)]; exact e1
  have e3 : mup (mup (mup u 105 p (nI r)) 106 p 0) 107 p (nI x) 88 30 = nI p := by rw [mup_ne (by decide)]; exact e2
  rw [f_X7_push, h, gdt ip, mSe, nc_ (by omega), e1, gdt ip, mSe, nc_ (by omega), e2, gdt ip, mSe, nc_ (by omega), e3, mSe, nI_1]
theorem mrL {u0 : MU} (hT : TX u0) {D p r x : Nat} (hp : 1 ≤ p) (hpD : p + D = 20) (hr : r < 6) (hx : x < 12) (hself : ∀ (r' x' : Nat) (V : Nat → Nat) (s : Nat) (u : MU), r' < 6 → u0 7 r' = 1 → x' < 12 → s ≤ 200 → 1 ≤ D → mP u0 u (p + 1) V s → u 105 p = nI r' → u 106 p = 0 → u 107 p = nI x' → mO u0 (p + 1) s u (rnR (ssOf u0) D r' x' V s)) : ∀ (d a f : Nat) (V : Nat → Nat) (s : Nat) (u : MU), tN u0 r - a ≤ d → d < f → a ≤ tN u0 r → s ≤ 200 → (pA (tW u0 r) (tN u0 r) f a).2 = none → (∀ st ∈ (pA (tW u0 r) (tN u0 r) f a).1, st.1 = 3 → u0 7 st.2.2.1 = 1) → mP u0 u p V s → u 105 (p - 1) = nI r → u 106 (p - 1) = nI a → u 107 (p - 1) = nI x → mO u0 p s u (rnL (rnR (ssOf u0) D) (pA (tW u0 r) (tN u0 r) f a).1 x V s) := by
  have hn30 := (hT r hr).1
  have ip := ix_ (show p - 1 < 20 by omega) (show (20 : Nat) < 1000 by omega)
  -- the top of the loop
  have top : ∀ (a : Nat) (V : Nat → Nat) (s : Nat) (u : MU), a ≤ tN u0 r → mP u0 u p V s → u 105 (p - 1) = nI r → u 106 (p - 1) = nI a → mT (mup (mup u 88 7 (nI r)) 88 6 (nI a)) r (tW u0 r) (tN u0 r) ∧ mup (mup u 88 7 (nI r)) 88 6 (nI a) 88 6 = nI a := by
    intro a V s u ha hm h1 h2
    refine ⟨⟨hr, hn30, by rw [mup_sne (by decide), mup_self], ?_, fun j hj => ?_⟩, mup_self⟩
    · rw [mup_ne (by decide), mup_ne (by decide), hm.1.1 90 (by decide) (by decide) (by decide) (by decide) (by decide)]
      exact (hT r hr).2.1
    · rw [mup_ne (by decide), mup_ne (by decide), hm.1.1 89 (by decide) (by decide) (by decide) (by decide) (by decide)]
      exact hT.text hr j hj
  have headE : ∀ (a : Nat) (V : Nat → Nat) (s : Nat) (u : MU) (F : Nat), mP u0 u p V s → u 105 (p - 1) = nI r → u 106 (p - 1) = nI a → l_X7_doCall_26 (F + 1) u = mB (f_X7_isMore (mup (mup u 88 7 (nI r)) 88 6 (nI a))) (fun r6 u6 => (if r6 = 0 then mS (mup u6 88 30 ((u6 88 30) - 1)) (fun u17 => b_X7_doCall_178 (fun u => l_X7_doCall_26 F u) u17) else (mB (f_X7_statement (u6 107 (p - 1)) u6) (fun r9 u9 => (mS (mup u9 106 (p - 1) (u9 88 6)) (fun u11 => mS (mup u11 88 31 ((u11 88 31) + 1)) (fun u12 => (if r9 = 0 then some (nI 2, u12) else (if (nI 200) < (u12 88 31) then some (nI 2, u12) else (if (u12 88 10) = (nI 99) then (if (u12 88 30) = (nI 20) then some (nI 2, u12) else b_X7_doCall_145 (fun u => l_X7_doCall_26 F u) u12) else b_X7_doCall_145 (fun u => l_X7_doCall_26 F u) u12)))))))))) := by
    intro a V s u F hm h1 h2
    have e30 : u 88 30 = nI p := hm.2.1
    have es : nI p - 1 = nI (p - 1) := sub1_ (by omega)
    have h2' : mup u 88 7 (nI r) 106 (p - 1) = nI a := by rw [mup_ne (by decide)]; exact h2
    rw [l_X7_doCall_26, b_X7_doCall_26, e30, if_neg (fun z => absurd ((z1_ (by omega)).mp z) (by omega)), es]
    simp only [gdt ip, nc_ (show p - 1 < 1000000 by omega), mSe, h1, h2']
  have pop : ∀ (a : Nat) (V : Nat → Nat) (s : Nat) (u : MU), a ≤ tN u0 r → ¬ a < tN u0 r → s ≤ 200 → mP u0 u p V s → u 105 (p - 1) = nI r → u 106 (p - 1) = nI a → mO u0 p s u (0, V, s) := by
    intro a V s u h3 hl h4 hm g1 g2
    obtain ⟨t1, t2⟩ := top a V s u h3 hm g1 g2
    obtain ⟨m1, m2, m3, m4, m5⟩ := hm
    have e30 : mup (mup u 88 7 (nI r)) 88 6 (nI a) 88 30 - 1 = nI (p - 1) := by rw [mup_sne (by decide), mup_sne (by decide), m2, sub1_ (by omega)]
    refine Or.inl ⟨rfl, Nat.le_refl _, h4, 1, mup (mup (mup u 88 7 (nI r)) 88 6 (nI a)) 88 30 (nI (p - 1)), by omega, fun F => ?_, ?_, fun i hi => ?_⟩
    · rw [headE a V s u F ⟨m1, m2, m3, m4, m5⟩ g1 g2, mBe (more_s t1 t2 (by omega)), if_neg hl, if_pos rfl, mSe, b_X7_doCall_178, e30]
    · refine ⟨((m1.u88 (by omega)).u88 (by omega)).u88 (by omega), mup_self, fun j hj => ?_, m4, ?_⟩
      · rw [mup_ne (by decide), mup_ne (by decide), mup_ne (by decide)]; exact m3 j hj
      · rw [mup_sne (by decide), mup_sne (by decide), mup_sne (by decide)]; exact m5
    · rw [mup_ne (by decide), mup_ne (by decide), mup_ne (by decide), mup_ne (by decide), mup_ne (by decide), mup_ne (by decide), mup_ne (by decide), mup_ne (by decide), mup_ne (by decide)]
      exact ⟨rfl, rfl, rfl⟩
  intro d
  induction d with
  | zero =>
    intro a f V s u h1 h2 h3 h4 h5 h6 hm g1 g2 g3
    obtain ⟨f, rfl⟩ : ∃ g, f = g + 1 := ⟨f - 1, by omega⟩
    rw [pA, if_neg (show ¬ a < tN u0 r by omega), rnL]
    exact pop a V s u h3 (by omega) h4 hm g1 g2
  | succ d ih =>
    intro a f V s u h1 h2 h3 h4 h5 h6 hm g1 g2 g3
    obtain ⟨f, rfl⟩ : ∃ g, f = g + 1 := ⟨f - 1, by omega⟩
    obtain ⟨t1, t2⟩ := top a V s u h3 hm g1 g2
    by_cases hl : a < tN u0 r
    · rw [pA, if_pos hl] at h5 h6 ⊢
      obtain ⟨v, e1, e2, e3, e4⟩ := stmt_s hx hl t1 t2
      obtain ⟨p1, p2, p3⟩ := pS_le (w := tW u0 r) hl
      cases hp' : pS (tW u0 r) (tN u0 r) a with
      | mk b o =>
        rw [hp'] at e1 e3 e4 p1 p2 p3 h5 h6
        cases o with
        | none => cases h5
        | some st =>
          obtain ⟨q1, q2, q3⟩ := p3 st rfl
          have hs := e4 st rfl
          dsimp only at e1 e3 p1 p2 q1 q2 h5 h6 ⊢
          obtain ⟨m1, m2, m3, m4, m5⟩ := hm
          -- the state after the statement was read
          have w107 : mup (mup u 88 7 (nI r)) 88 6 (nI a) 107 (p - 1) = nI x := by rw [mup_ne (by decide), mup_ne (by decide)]; exact g3
          have vk : ∀ k : Nat, k ≠ 88 → v k = u k := fun k hk => by rw [e2.1 k hk, mup_ne hk, mup_ne hk]
          have v88 : ∀ j : Nat, (j < 6 ∨ 13 < j) → v 88 j = u 88 j := fun j hj => by rw [e2.2 j (by omega), mup_sne (by omega), mup_sne (by omega)]
          have v31 : v 88 31 = nI s := by rw [v88 31 (by omega)]; exact m5
          have rv : rF u0 v := ⟨fun k a b c d e => by rw [vk k a]; exact m1.1 k a b c d e, fun j hj => by rw [v88 j (by omega)]; exact m1.2 j hj⟩
          generalize hw : mup (mup v 106 (p - 1) (nI b)) 88 31 (nI (s + 1)) = w
          have wk : ∀ k : Nat, k ≠ 88 → k ≠ 106 → w k = u k := fun k h1 h2 => by rw [← hw, mup_ne h1, mup_ne h2, vk k h1]
          have w106 : ∀ j : Nat, w 106 j = if j = p - 1 then nI b else u 106 j := fun j => by
            rw [← hw, mup_ne (by decide), mup_get, if_pos rfl, vk 106 (by decide)]
          have w88 : ∀ j : Nat, j ≠ 31 → w 88 j = v 88 j := fun j hj => by rw [← hw, mup_sne hj, mup_ne (by decide)]
          have w31 : w 88 31 = nI (s + 1) := by rw [← hw, mup_self]
          have w30 : w 88 30 = nI p := by rw [w88 30 (by decide), v88 30 (by omega)]; exact m2
          have rw' : rF u0 w := by rw [← hw]; exact (rv.up (by omega)).u88 (by omega)
          have w99 : rwV w 99 V := fun j hj => by rw [wk 99 (by decide) (by decide)]; exact m3 j hj
          have hsw : sOK w x (u 99) st := by
            have e99 : mup (mup u 88 7 (nI r)) 88 6 (nI a) 99 = u 99 := by rw [mup_ne (by decide), mup_ne (by decide)]
            rw [e99] at hs
            unfold sOK at hs ⊢
            rw [w88 8 (by decide), w88 9 (by decide), w88 10 (by decide), w88 11 (by decide), w88 12 (by decide), w88 13 (by decide)]
            exact hs
          have low : ∀ i : Nat, i + 1 < p → w 105 i = u 105 i ∧ w 106 i = u 106 i ∧ w 107 i = u 107 i := fun i hi => ⟨by rw [wk 105 (by decide) (by decide)], by rw [w106, if_neg (by omega)], by rw [wk 107 (by decide) (by decide)]⟩
          have body : ∀ F : Nat, l_X7_doCall_26 (F + 1) u = (if (nI 200) < nI (s + 1) then some (nI 2, w) else (if (w 88 10) = (nI 99) then (if nI p = (nI 20) then some (nI 2, w) else b_X7_doCall_145 (fun u => l_X7_doCall_26 F u) w) else b_X7_doCall_145 (fun u => l_X7_doCall_26 F u) w)) := by
            intro F
            have v31' : mup v 106 (p - 1) (nI b) 88 31 = nI s := by rw [mup_ne (by decide)]; exact v31
            rw [headE a V s u F ⟨m1, m2, m3, m4, m5⟩ g1 g2, mBe (more_s t1 t2 (by omega)), if_pos hl, if_neg (by decide), w107, mBe e1, e3, mSe, mSe, v31', nI_1, hw, if_neg (show ¬ oB (some st) = 0 from (by decide : ¬ (1 : Int32) = 0)), w31, w30]
          rw [rnL]
          by_cases h200 : s = 200
          · rw [if_pos (by omega)]
            refine Or.inr (Or.inr ⟨rfl, 1, w, by omega, fun F => ?_, rw'⟩)
            rw [body, if_pos ((lt_ (by omega) (by omega)).mpr (by omega))]
          · rw [if_neg (by omega)]
            have nlt : ¬ nI 200 < nI (s + 1) := fun z => absurd ((lt_ (by omega) (by omega)).mp z) (by omega)
            have next : ∀ (V' : Nat → Nat) (t : MU), mP u0 t p V' (s + 1) → (∀ k : Nat, k = 105 ∨ k = 106 ∨ k = 107 → t k = w k) → mO u0 p (s + 1) t (rnL (rnR (ssOf u0) D) (pA (tW u0 r) (tN u0 r) f b).1 x V' (s + 1)) := by
              intro V' t ht hk
              refine ih b f V' (s + 1) t (by omega) (by omega) (by omega) (by omega) h5 (fun st' hst' => h6 st' (List.mem_cons_of_mem _ hst')) ht ?_ ?_ ?_
              · rw [hk 105 (by omega), wk 105 (by decide) (by decide)]; exact g1
              · rw [hk 106 (by omega), w106, if_pos rfl]
              · rw [hk 107 (by omega), wk 107 (by decide) (by decide)]; exact g3
            by_cases c3 : st.1 = 3
            · rw [if_pos c3]
              have k99 : w 88 10 = nI 99 := hsw.2.2.2.1 c3
              have hp18 := plc_18 (x := x) q3.2.1
              by_cases D0 : D = 0
              · subst D0
                have hp20 : p = 20 := by omega
                rw [rnR, if_neg (show ¬ (2 : Nat) = 0 by decide)]
                refine Or.inr (Or.inr ⟨rfl, 1, w, by omega, fun F => ?_, rw'⟩)
                rw [body, if_neg nlt, if_pos k99, if_pos (by rw [hp20])]
              · have hp20 : p < 20 := by omega
                obtain ⟨k12, k13⟩ := hsw.2.2.2.2.2.1 c3
                have hpu := push_s (u := w) (r := st.2.2.1) (x := plc st.2.1 x - 6) hp20 w30
                generalize hz : mup (mup (mup (mup w 105 p (nI st.2.2.1)) 106 p 0) 107 p (nI (plc st.2.1 x - 6))) 88 30 (nI (p + 1)) = z at hpu
                have one : ∀ F : Nat, l_X7_doCall_26 (F + 1) u = l_X7_doCall_26 F z := by
                  intro F
                  rw [body, if_neg nlt, if_pos k99, if_neg (fun q => absurd ((eq_ (by omega) (by omega)).mp q) (by omega)), b_X7_doCall_145, if_pos k99, k12, k13, mBe hpu, b_X7_doCall_178]
                have zP : mP u0 z (p + 1) V (s + 1) := by
                  rw [← hz]
                  refine ⟨(((rw'.up (by omega)).up (by omega)).up (by omega)).u88 (by omega), mup_self, fun j hj => ?_, m4, ?_⟩
                  · rw [mup_ne (by decide), mup_ne (by decide), mup_ne (by decide), mup_ne (by decide)]; exact w99 j hj
                  · rw [mup_sne (by decide), mup_ne (by decide), mup_ne (by decide), mup_ne (by decide)]; exact w31
                have zl : ∀ i : Nat, i ≠ p → z 105 i = w 105 i ∧ z 106 i = w 106 i ∧ z 107 i = w 107 i := fun i hi => by
                  rw [← hz]
                  refine ⟨?_, ?_, ?_⟩
                  · rw [mup_ne (by decide), mup_ne (by decide), mup_ne (by decide), mup_sne hi]
                  · rw [mup_ne (by decide), mup_ne (by decide), mup_sne hi, mup_ne (by decide)]
                  · rw [mup_ne (by decide), mup_sne hi, mup_ne (by decide), mup_ne (by decide)]
                have hcall := hself st.2.2.1 (plc st.2.1 x - 6) V (s + 1) z q3.2.2.2.1 (h6 st List.mem_cons_self c3) (by omega) (by omega) (by omega) zP (by rw [← hz, mup_ne (by decide), mup_ne (by decide), mup_ne (by decide), mup_self]) (by rw [← hz, mup_ne (by decide), mup_ne (by decide), mup_self]) (by rw [← hz, mup_ne (by decide), mup_self])
                generalize rnR (ssOf u0) D st.2.2.1 (plc st.2.1 x - 6) V (s + 1) = R at hcall
                rcases hcall with ⟨a1, a2, a3, k, t, a4, a5, a6, a7⟩ | ⟨a1, k, t, a2, a3, a4⟩ | ⟨a1, k, t, a2, a3, a4⟩
                · rw [if_pos a1]
                  rw [show p + 1 - 1 = p by omega] at a6
                  have fr : ∀ i : Nat, i < p → t 105 i = w 105 i ∧ t 106 i = w 106 i ∧ t 107 i = w 107 i := fun i hi => by
                    obtain ⟨x1, x2, x3⟩ := a7 i (by omega)
                    obtain ⟨y1, y2, y3⟩ := zl i (by omega)
                    exact ⟨x1.trans y1, x2.trans y2, x3.trans y3⟩
                  obtain ⟨f1, f2, f3⟩ := fr (p - 1) (by omega)
                  have rest := ih b f R.2.1 R.2.2 t (by omega) (by omega) (by omega) a3 h5 (fun st' hst' => h6 st' (List.mem_cons_of_mem _ hst')) a6 (by rw [f1, wk 105 (by decide) (by decide)]; exact g1) (by rw [f2, w106, if_pos rfl]) (by rw [f3, wk 107 (by decide) (by decide)]; exact g3)
                  have two : ∀ F : Nat, l_X7_doCall_26 (F + (k + 1)) u = l_X7_doCall_26 F t := fun F => by rw [← Nat.add_assoc, one, a5]
                  rcases rest with ⟨b1, b2, b3, k', t', b4, b5, b6, b7⟩ | ⟨b1, k', t', b2, b3, b4⟩ | ⟨b1, k', t', b2, b3, b4⟩
                  · refine Or.inl ⟨b1, by omega, b3, k' + (k + 1), t', by omega, fun F => by rw [← Nat.add_assoc F k' (k + 1), two]; exact b5 F, b6, fun i hi => ?_⟩
                    obtain ⟨x1, x2, x3⟩ := b7 i hi
                    obtain ⟨y1, y2, y3⟩ := fr i (by omega)
                    obtain ⟨z1, z2, z3⟩ := low i hi
                    exact ⟨(x1.trans y1).trans z1, (x2.trans y2).trans z2, (x3.trans y3).trans z3⟩
                  · exact Or.inr (Or.inl ⟨b1, k' + (k + 1), t', by omega, fun F => by rw [← Nat.add_assoc F k' (k + 1), two]; exact b3 F, b4⟩)
                  · exact Or.inr (Or.inr ⟨b1, k' + (k + 1), t', by omega, fun F => by rw [← Nat.add_assoc F k' (k + 1), two]; exact b3 F, b4⟩)
                · rw [if_neg (by omega)]
                  exact Or.inr (Or.inl ⟨a1, k + 1, t, by omega, fun F => by rw [← Nat.add_assoc, one]; exact a3 F, a4⟩)
                · rw [if_neg (by omega)]
                  exact Or.inr (Or.inr ⟨a1, k + 1, t, by omega, fun F => by rw [← Nat.add_assoc, one]; exact a3 F, a4⟩)
            · rw [if_neg c3]
              have n99 : ¬ w 88 10 = nI 99 := fun q => c3 ((kind_call hsw q3.1).mp q)
              have hth := thr_s hsw m3 w99 m4 hx q3 (by omega) c3
              have body2 : ∀ F : Nat, l_X7_doCall_26 (F + 1) u = mB (f_X7_isThrowing w) (fun r2 u2 => (if r2 = 0 then b_X7_doCall_178 (fun u => l_X7_doCall_26 F u) u2 else some (1, u2))) := by
                intro F
                rw [body, if_neg nlt, if_neg n99, b_X7_doCall_145, if_neg n99]
              rw [hth] at body2
              by_cases c2 : st.1 = 2
              · rw [if_pos c2]
                rw [if_pos c2] at body2
                by_cases e0 : V (plc st.2.1 x) = 0
                · rw [if_pos e0]
                  rw [if_pos e0] at body2
                  refine Or.inr (Or.inl ⟨rfl, 1, w, by omega, fun F => ?_, rw', w99, m4, w31, by simp only; omega⟩)
                  rw [body2, mBs, if_neg (by decide)]
                · rw [if_neg e0]
                  rw [if_neg e0] at body2
                  exact mO.step (by omega) (fun F => by rw [body2, mBs, if_pos rfl, b_X7_doCall_178]) low (next V w ⟨rw', w30, w99, m4, w31⟩ (fun _ _ => rfl))
              · rw [if_neg c2]
                rw [if_neg c2] at body2
                have hm100 : ∀ y : Nat, y % 100 < 100 := fun y => Nat.mod_lt _ (by omega)
                have fin : ∀ y : Nat, mP u0 (mup w 99 (plc st.2.1 x) (nI (y % 100))) p (upN V (plc st.2.1 x) (y % 100)) (s + 1) := fun y => ⟨rw'.up (by omega), by rw [mup_ne (by decide)]; exact w30, w99.up, m4.up (hm100 y), by rw [mup_ne (by decide)]; exact w31⟩
                have fk : ∀ y : Nat, ∀ k : Nat, k = 105 ∨ k = 106 ∨ k = 107 → mup w 99 (plc st.2.1 x) (nI (y % 100)) k = w k := fun y k hk => mup_ne (by omega)
                have fl : ∀ y : Nat, ∀ i : Nat, i + 1 < p → mup w 99 (plc st.2.1 x) (nI (y % 100)) 105 i = u 105 i ∧ mup w 99 (plc st.2.1 x) (nI (y % 100)) 106 i = u 106 i ∧ mup w 99 (plc st.2.1 x) (nI (y % 100)) 107 i = u 107 i := fun y i hi => by
                  rw [mup_ne (by decide), mup_ne (by decide), mup_ne (by decide)]; exact low i hi
                by_cases c0 : st.1 = 0
                · rw [if_pos c0]
                  rw [if_pos c0] at body2
                  exact mO.step (by omega) (fun F => by rw [body2, mBs, if_pos rfl, b_X7_doCall_178]) (fl _) (next _ _ (fin _) (fk _))
                · rw [if_neg c0]
                  rw [if_neg c0] at body2
                  exact mO.step (by omega) (fun F => by rw [body2, mBs, if_pos rfl, b_X7_doCall_178]) (fl _) (next _ _ (fin _) (fk _))
    · rw [pA, if_neg hl, rnL]
      exact pop a V s u h3 hl h4 hm g1 g2
