abbrev rRS : Type := Nat × (Nat → Nat) × Nat
def lvN (V : Nat → Nat) (x : Nat) (l : Nat × Nat) : Nat := if l.1 = 0 then l.2 else if l.1 = 1 then x else V (plc l.2 x)
def sumF (V : Nat → Nat) (x : Nat) (ls : List (Nat × Nat)) (c : Nat) : Nat := ls.foldl (fun s l => s + lvN V x l) c
def upN (V : Nat → Nat) (p v : Nat) : Nat → Nat := fun j => if j = p then v else V j
/-- statements are done: end, places, steps -/
def rnL (self : Nat → Nat → (Nat → Nat) → Nat → rRS) : List pSt → Nat → (Nat → Nat) → Nat → rRS
  | [], _, V, n => (0, V, n)
  | st :: l, x, V, n => if 200 ≤ n then (2, V, n) else
    if st.1 = 3 then (if (self st.2.2.1 (plc st.2.1 x - 6) V (n + 1)).1 = 0 then rnL self l x (self st.2.2.1 (plc st.2.1 x - 6) V (n + 1)).2.1 (self st.2.2.1 (plc st.2.1 x - 6) V (n + 1)).2.2 else self st.2.2.1 (plc st.2.1 x - 6) V (n + 1))
    else if st.1 = 2 then (if V (plc st.2.1 x) = 0 then (1, V, n + 1) else rnL self l x V (n + 1))
    else if st.1 = 0 then rnL self l x (upN V (plc st.2.1 x) (sumF V x st.2.2.2 0 % 100)) (n + 1)
    else rnL self l x (upN V (plc st.2.1 x) ((V (plc st.2.1 x) + sumF V x st.2.2.2 0) % 100)) (n + 1)
def rnR (ss : Nat → List pSt) : Nat → Nat → Nat → (Nat → Nat) → Nat → rRS
  | 0, _, _, V, n => (2, V, n)
  | d + 1, r, x, V, n => rnL (rnR ss d) (ss r) x V n
def VOK (V : Nat → Nat) : Prop := ∀ j : Nat, j < 18 → V j < 100
theorem VOK.up {V : Nat → Nat} (h : VOK V) {p v : Nat} (hv : v < 100) : VOK (upN V p v) := by
  intro j hj
  unfold upN
  split
  · exact hv
  · exact h j hj
def rwV (u : MU) (k : Nat) (V : Nat → Nat) : Prop := ∀ j : Nat, j < 18 → u k j = nI (V j)
theorem rwV.up {u : MU} {k : Nat} {V : Nat → Nat} (h : rwV u k V) {p v : Nat} : rwV (mup u k p (nI v)) k (upN V p v) := by
  intro j hj
  unfold upN
  by_cases c : j = p
  · rw [if_pos c, c, mup_self]
  · rw [if_neg c, mup_sne c]; exact h j hj
theorem lvN_le {V : Nat → Nat} {x : Nat} {l : Nat × Nat} (hV : VOK V) (hx : x < 12) (hl : lfOK l) : lvN V x l ≤ 99 := by
  unfold lvN
  rcases hl with ⟨h1, h2⟩ | ⟨h1, h2⟩ | ⟨h1, h2⟩
  · rw [if_pos h1]; omega
  · rw [if_neg (by omega), if_pos h1]; omega
  · rw [if_neg (by omega), if_neg (by omega)]
    have := hV (plc l.2 x) (plc_18 h2)
    omega
theorem sumF_le {V : Nat → Nat} {x : Nat} (hV : VOK V) (hx : x < 12) : ∀ (ls : List (Nat × Nat)) (c : Nat), (∀ l ∈ ls, lfOK l) → sumF V x ls c ≤ c + 99 * ls.length := by
  intro ls
  induction ls with
  | nil => intro c _; simp [sumF]
  | cons a ls ih =>
    intro c h
    have h1 := ih (c + lvN V x a) (fun l hl => h l (List.mem_cons_of_mem _ hl))
    have h2 := lvN_le hV hx (h a List.mem_cons_self)
    unfold sumF at h1 ⊢
    rw [List.foldl_cons, List.length_cons]
    omega
theorem sum_s {u : MU} {q s x L : Nat} {ls : List (Nat × Nat)} {V : Nat → Nat} (hs : s < 15) (hx : x < 12) (hV : VOK V) (h28 : rwV u 28 V) (hlen : L + ls.length ≤ 30) (h5 : u (q + 5) s = nI (L + ls.length)) (hl : lvsAt u q L ls) (ho : ∀ l ∈ ls, lfOK l) : l_X3_sumOfLeaves_10 q (nI s) (nI x) FU 0 (nI L) u = some (nI (sumF V x ls 0), u) := by
  rw [show l_X3_sumOfLeaves_10 q (nI s) (nI x) FU 0 (nI L) u = l_X3_sumOfLeaves_10 q (nI s) (nI x) FU (nI 0) (nI (L + 0)) u from rfl]
  refine for_s (L := fun F i (c : Nat) u => l_X3_sumOfLeaves_10 q (nI s) (nI x) F (nI c) (nI (L + i)) u) (Q := fun r => r = some (nI (sumF V x ls 0), u)) (I := fun i c v => v = u ∧ c ≤ 99 * i ∧ sumF V x (ls.drop i) c = sumF V x ls 0) (m := ls.length) ?_ ?_ 0 0 u FU (by omega) ⟨rfl, by omega, by rw [List.drop_zero]⟩ (by unfold FU; omega)
  · rintro F i c v hi ⟨rfl, hc, hI⟩
    right
    have hg : ls[i]? = some ls[i] := List.getElem?_eq_getElem hi
    obtain ⟨k1, k2⟩ := hl i _ hg
    have hok := ho ls[i] (List.getElem_mem hi)
    have hle := lvN_le hV hx hok
    rw [List.drop_eq_getElem_cons hi] at hI
    have hI' : sumF V x (ls.drop (i + 1)) (c + lvN V x ls[i]) = sumF V x ls 0 := hI
    have ii := ix_ (show L + i < 30 by omega) (show (30 : Nat) < 1000 by omega)
    rw [l_X3_sumOfLeaves_10, b_X3_sumOfLeaves_10, gdt (ix_ hs (by omega)), nc_ (by omega), h5, if_neg (fun z => absurd ((le_ (by omega) (by omega)).mp z) (by omega)), gdt ii, gdt ii, nc_ (by omega), k1, k2, gdt ii]
    have go : ∀ y : Nat, y = lvN V x ls[i] → ∃ (a' : Nat) (u' : MU), l_X3_sumOfLeaves_10 q (nI s) (nI x) F (nI (c + y)) (nI (L + i + 1)) v = l_X3_sumOfLeaves_10 q (nI s) (nI x) F (nI a') (nI (L + (i + 1))) u' ∧ u' = v ∧ a' ≤ 99 * (i + 1) ∧ sumF V x (ls.drop (i + 1)) a' = sumF V x ls 0 := by
      intro y hy
      refine ⟨c + y, v, by rw [Nat.add_assoc], rfl, by omega, by rw [hy]; exact hI'⟩
    rcases hok with ⟨h1, h2⟩ | ⟨h1, h2⟩ | ⟨h1, h2⟩
    · rw [if_pos (show nI ls[i].1 = 0 by rw [h1]; rfl), b_X3_sumOfLeaves_86, nI_add, nI_1]
      exact go _ (by unfold lvN; rw [if_pos h1])
    · rw [if_neg (show ¬ nI ls[i].1 = 0 by rw [h1]; decide), if_pos (show nI ls[i].1 = 1 by rw [h1]; rfl), b_X3_sumOfLeaves_86, nI_add, nI_1]
      exact go _ (by unfold lvN; rw [if_neg (by omega), if_pos h1])
    · have hp := plc_18 (x := x) h2
      rw [if_neg (show ¬ nI ls[i].1 = 0 by rw [h1]; decide), if_neg (show ¬ nI ls[i].1 = 1 by rw [h1]; decide), mBe (place_s h2 hx v), gdt (ix_ hp (by omega)), nc_ (by omega), h28 _ hp, b_X3_sumOfLeaves_86, nI_add, nI_1]
      exact go _ (by unfold lvN; rw [if_neg (by omega), if_neg (by omega)])
  · rintro F c v ⟨rfl, hc, hI⟩
    rw [l_X3_sumOfLeaves_10, b_X3_sumOfLeaves_10, gdt (ix_ hs (by omega)), nc_ (by omega), h5, if_pos ((le_ (by omega) (by omega)).mpr (by omega))]
    rw [List.drop_of_length_le (by omega)] at hI
    rw [← hI]
    rfl
theorem lsum_take {ss : List pSt} : ∀ (i : Nat) (st : pSt), ss[i]? = some st → lsum (ss.take (i + 1)) = lsum (ss.take i) + st.2.2.2.length ∧ lsum (ss.take i) + st.2.2.2.length ≤ lsum ss := by
  induction ss with
  | nil => intro i st h; simp at h
  | cons a ss ih =>
    intro i st h
    cases i with
    | zero =>
      have e : a = st := by simpa using h
      subst e
      simp only [List.take_succ_cons, List.take_zero, lsum]
      omega
    | succ i =>
      obtain ⟨h1, h2⟩ := ih i st (by simpa using h)
      rw [List.take_succ_cons, List.take_succ_cons]
      simp only [lsum]
      omega
/-- what the machine's work may change -/
def cF (u v : MU) : Prop := (∀ k : Nat, k ≠ 27 → k ≠ 28 → v k = u k) ∧ ∀ j : Nat, j ≠ 4 → v 27 j = u 27 j
theorem cF.rf (u : MU) : cF u u := ⟨fun _ _ _ => rfl, fun _ _ => rfl⟩
theorem cF.tr {u v t : MU} (h : cF u v) (g : cF v t) : cF u t := ⟨fun k a b => (g.1 k a b).trans (h.1 k a b), fun j a => (g.2 j a).trans (h.2 j a)⟩
theorem cF.u28 {u v : MU} {j : Nat} {x : Int32} (h : cF u v) : cF u (mup v 28 j x) := h.tr ⟨fun k _ b => mup_ne b, fun j _ => by rw [mup_ne (by decide)]⟩
theorem cF.u4 {u v : MU} {x : Int32} (h : cF u v) : cF u (mup v 27 4 x) := h.tr ⟨fun k a _ => mup_ne a, fun j hj => mup_sne hj⟩
/-- a run's outcome, in the class's cells -/
def cO (u0 : MU) (R : rRS) (a : mR) : Prop := ∃ v : MU, a = some (nI R.1, v) ∧ R.1 ≤ 2 ∧ cF u0 v ∧ rwV v 28 R.2.1 ∧ VOK R.2.1 ∧ v 27 4 = nI R.2.2 ∧ R.2.2 ≤ 200
theorem simple_s {u : MU} {q i x p : Nat} {ss : List pSt} {st : pSt} {V : Nat → Nat} (hx : x < 12) (hV : VOK V) (h28 : rwV u 28 V) (he : encR u q 0 0 ss) (hi : ss[i]? = some st) (h15 : ss.length ≤ 15) (h30 : lsum ss ≤ 30) (ho : stOK st) (hp : p < 18) (hk : ¬ st.1 = 3) : f_X3_doSimple q (nI i) (nI p) (nI x) u = if st.1 = 2 then (if V p = 0 then some (1, u) else some (0, u)) else if st.1 = 0 then some (0, mup u 28 p (nI (sumF V x st.2.2.2 0 % 100))) else some (0, mup u 28 p (nI ((V p + sumF V x st.2.2.2 0) % 100))) := by
  have hil := (List.getElem?_eq_some_iff.mp hi).1
  obtain ⟨g1, g2, g3, g4, g5⟩ := encR_get ss 0 0 he i st hi
  rw [Nat.zero_add] at g1 g2 g3 g4
  rw [Nat.zero_add] at g4 g5
  obtain ⟨t1, t2⟩ := lsum_take i st hi
  have hVp := hV p hp
  have hsle := sumF_le hV hx st.2.2.2 0 (fun l hl => ho.2.2.2.2 l hl)
  have hsum : f_X3_sumOfLeaves q (nI i) (nI x) u = some (nI (sumF V x st.2.2.2 0), u) := by
    have hst : f_X5_leafStart q (nI i) u = some (nI (lsum (ss.take i)), u) := by
      rw [f_X5_leafStart]
      by_cases c : i = 0
      · subst c
        rw [if_pos (show nI 0 = 0 from rfl)]
        simp only [List.take_zero, lsum]
        rfl
      · obtain ⟨i', rfl⟩ : ∃ k, i = k + 1 := ⟨i - 1, by omega⟩
        have hg : ss[i']? = some (ss[i']'(by omega)) := List.getElem?_eq_getElem (by omega)
        obtain ⟨-, -, -, k4, -⟩ := encR_get ss 0 0 he i' _ hg
        rw [Nat.zero_add, Nat.zero_add] at k4
        rw [if_neg (fun z => absurd ((e0_ (by omega)).mp z) (by omega)), sub1_ (by omega), show i' + 1 - 1 = i' by omega, gdt (ix_ (by omega) (by omega)), nc_ (by omega), k4, (lsum_take i' _ hg).1]
    rw [f_X3_sumOfLeaves, mBe hst]
    exact sum_s (by omega) hx hV h28 (by omega) g4 g5 (fun l hl => ho.2.2.2.2 l hl)
  have i15 := ix_ (show i < 15 by omega) (show (15 : Nat) < 1000 by omega)
  have ip := ix_ hp (show (18 : Nat) < 1000 by omega)
  rw [f_X3_doSimple, gdt i15, nc_ (by omega), nc_ (by omega), g1, hsum, mBs, mBs, gdt ip, gdt ip, gdt ip, gdt ip, mSe, mSe, h28 p hp, irm_ (by omega) (by omega) (by omega), nI_add, irm_ (by omega) (by omega) (by omega)]
  have hk3 := ho.1
  rcases (show st.1 = 0 ∨ st.1 = 1 ∨ st.1 = 2 by omega) with k | k | k
  · rw [k, if_pos (show nI 0 = 0 from rfl), if_neg (show ¬ (0 : Nat) = 2 by decide), if_pos rfl]
  · rw [k, if_neg (show ¬ nI 1 = 0 by decide), if_pos (show nI 1 = 1 from rfl), if_neg (show ¬ (1 : Nat) = 2 by decide), if_neg (show ¬ (1 : Nat) = 0 by decide)]
  · rw [k, if_neg (show ¬ nI 2 = 0 by decide), if_neg (show ¬ nI 2 = 1 by decide), if_pos rfl]
    by_cases c : V p = 0
    · rw [if_pos (by rw [c]; rfl), if_pos c]
    · rw [if_neg (fun z => c ((e0_ (by omega)).mp z)), if_neg c]
theorem crL {u0 : MU} {q x nest D r : Nat} (hr : r < 6) (hq : q = 30 + 8 * r) (hx : x < 12) (hT : TX u0) (hfl : flOf u0 r = none) (hcal : ∀ st ∈ ssOf u0 r, st.1 = 3 → u0 7 st.2.2.1 = 1) (hnest : nest < 100) (self : Int32 → Int32 → Int32 → MU → mR) (hself : ∀ (r' x' : Nat) (V : Nat → Nat) (s : Nat) (u : MU), r' < 6 → u0 7 r' = 1 → x' < 12 → s ≤ 200 → cF u0 u → rwV u 28 V → VOK V → u 27 4 = nI s → cO u0 (rnR (ssOf u0) D r' x' V s) (self (nI r') (nI x') (nI (nest + 1)) u)) : ∀ (d i F : Nat) (V : Nat → Nat) (s : Nat) (u : MU), (ssOf u0 r).length - i ≤ d → d < F → i ≤ (ssOf u0 r).length → s ≤ 200 → cF u0 u → rwV u 28 V → VOK V → u 27 4 = nI s → cO u0 (rnL (rnR (ssOf u0) D) ((ssOf u0 r).drop i) x V s) (l_X3_doRoutine_17 self (nI x) (nI nest) F q (nI i) u) := by
  have hR0 := (hT r hr).2.2
  have hR : ∀ v : MU, cF u0 v → rOK v q (tW u0 r) (tN u0 r) := fun v hv => by
    rw [hq]
    exact hR0.cong (fun k a b => hv.1 k (by omega) (by omega))
  have exit : ∀ (i F : Nat) (V : Nat → Nat) (s : Nat) (u : MU), 0 < F → (ssOf u0 r).length ≤ i → i ≤ (ssOf u0 r).length → s ≤ 200 → cF u0 u → rwV u 28 V → VOK V → u 27 4 = nI s → cO u0 (rnL (rnR (ssOf u0) D) ((ssOf u0 r).drop i) x V s) (l_X3_doRoutine_17 self (nI x) (nI nest) F q (nI i) u) := by
    intro i F V s u h1 h2 h3 h4 h5 h6 h7 h8
    obtain ⟨F, rfl⟩ : ∃ g, F = g + 1 := ⟨F - 1, by omega⟩
    obtain ⟨-, -, r7, r15, -, -, -⟩ := hR u h5
    have r7' : u q 7 = nI (ssOf u0 r).length := r7
    have r15' : (ssOf u0 r).length ≤ 15 := r15
    rw [l_X3_doRoutine_17, b_X3_doRoutine_17, r7', if_pos ((le_ (by omega) (by omega)).mpr (by omega)), List.drop_of_length_le h2]
    exact ⟨u, rfl, by simp [rnL], h5, h6, h7, h8, h4⟩
  intro d
  induction d with
  | zero => intro i F V s u h1 h2 h3 h4 h5 h6 h7 h8; exact exit i F V s u (by omega) (by omega) h3 h4 h5 h6 h7 h8
  | succ d ih =>
    intro i F V s u h1 h2 h3 h4 h5 h6 h7 h8
    by_cases hl : i < (ssOf u0 r).length
    · obtain ⟨F, rfl⟩ : ∃ g, F = g + 1 := ⟨F - 1, by omega⟩
      have hRu := hR (mup u 27 4 (nI (s + 1))) h5.u4
      obtain ⟨-, -, -, r15, rE, r10, rO⟩ := hRu
      have r7' : u q 7 = nI (ssOf u0 r).length := (hR u h5).2.2.1
      have r15' : (ssOf u0 r).length ≤ 15 := r15
      have rE' : encR (mup u 27 4 (nI (s + 1))) q 0 0 (ssOf u0 r) := rE
      have r30 : lsum (ssOf u0 r) ≤ 30 := (r10 hfl).2
      have hg : (ssOf u0 r)[i]? = some (ssOf u0 r)[i] := List.getElem?_eq_getElem hl
      have hmem : (ssOf u0 r)[i] ∈ ssOf u0 r := List.getElem_mem hl
      have hok : stOK (ssOf u0 r)[i] := rO _ hmem
      generalize hst : (ssOf u0 r)[i] = st at hg hmem hok
      obtain ⟨g1, g2, g3, -⟩ := encR_get (ssOf u0 r) 0 0 rE' i st hg
      rw [Nat.zero_add] at g1 g2 g3
      rw [List.drop_eq_getElem_cons hl, hst, l_X3_doRoutine_17, b_X3_doRoutine_17, r7', if_neg (fun z => absurd ((le_ (by omega) (by omega)).mp z) (by omega)), h8]
      by_cases h200 : s = 200
      · rw [if_neg (fun z => absurd ((lt_ (by omega) (by omega)).mp z) (by omega)), rnL, if_pos (by omega)]
        exact ⟨u, rfl, by omega, h5, h6, h7, h8, h4⟩
      · rw [if_pos ((lt_ (by omega) (by omega)).mpr (by omega)), mSe, nI_1, gdt (ix_ (by omega) (by omega)), nc_ (by omega), g2, mBe (place_s hok.2.1 hx _), gdt (ix_ (by omega) (by omega)), g1, rnL, if_neg (by omega)]
        have h6' : rwV (mup u 27 4 (nI (s + 1))) 28 V := fun j hj => by rw [mup_ne (by decide)]; exact h6 j hj
        have hp18 := plc_18 (x := x) hok.2.1
        by_cases c3 : st.1 = 3
        · have h66 := hok.2.2.1 c3
          have hp6 : 6 ≤ plc st.2.1 x := by
            have := hok.2.1
            unfold plc; split <;> omega
          rw [if_pos (show nI st.1 = nI 3 by rw [c3]), gdt (ix_ (by omega) (by omega)), g3 c3, sub_ hp6, nI_1, if_pos c3]
          obtain ⟨v, v1, v2, v3, v4, v5, v6, v7⟩ := hself st.2.2.1 (plc st.2.1 x - 6) V (s + 1) (mup u 27 4 (nI (s + 1))) hok.2.2.2.1 (hcal st hmem c3) (by omega) (by omega) h5.u4 h6' h7 mup_self
          rw [mBe v1, b_X3_doRoutine_111]
          by_cases e0 : (rnR (ssOf u0) D st.2.2.1 (plc st.2.1 x - 6) V (s + 1)).1 = 0
          · rw [if_pos e0, e0, if_pos (show nI 0 = 0 from rfl), nI_1]
            exact ih (i + 1) F _ _ v (by omega) (by omega) (by omega) v7 v3 v4 v5 v6
          · rw [if_neg e0, if_neg (fun z => e0 ((e0_ (by omega)).mp z))]
            exact ⟨v, rfl, v2, v3, v4, v5, v6, v7⟩
        · rw [if_neg (fun z => c3 ((eq_ (by have := hok.1; omega) (by omega)).mp z)), simple_s hx h7 h6' rE' hg r15' r30 hok hp18 c3, if_neg c3]
          by_cases c2 : st.1 = 2
          · rw [if_pos c2, if_pos c2]
            by_cases e0 : V (plc st.2.1 x) = 0
            · rw [if_pos e0, if_pos e0, mBs, b_X3_doRoutine_111, if_neg (by decide)]
              exact ⟨_, rfl, by omega, h5.u4, h6', h7, mup_self, by simp only; omega⟩
            · rw [if_neg e0, if_neg e0, mBs, b_X3_doRoutine_111, if_pos rfl, nI_1]
              exact ih (i + 1) F V (s + 1) _ (by omega) (by omega) (by omega) (by omega) h5.u4 h6' h7 mup_self
          · rw [if_neg c2, if_neg c2]
            have hm : ∀ y : Nat, y % 100 < 100 := fun y => Nat.mod_lt _ (by omega)
            by_cases c0 : st.1 = 0
            · rw [if_pos c0, if_pos c0, mBs, b_X3_doRoutine_111, if_pos rfl, nI_1]
              exact ih (i + 1) F _ (s + 1) _ (by omega) (by omega) (by omega) (by omega) h5.u4.u28 h6'.up (h7.up (hm _)) (by rw [mup_ne (by decide)]; exact mup_self)
            · rw [if_neg c0, if_neg c0, mBs, b_X3_doRoutine_111, if_pos rfl, nI_1]
              exact ih (i + 1) F _ (s + 1) _ (by omega) (by omega) (by omega) (by omega) h5.u4.u28 h6'.up (h7.up (hm _)) (by rw [mup_ne (by decide)]; exact mup_self)
    · exact exit i F V s u (by omega) (by omega) h3 h4 h5 h6 h7 h8
theorem crun {u0 : MU} (hT : TX u0) (hK : KN u0) : ∀ (D : Nat), D ≤ 20 → ∀ (r x : Nat) (V : Nat → Nat) (s : Nat) (u : MU), r < 6 → u0 7 r = 1 → x < 12 → s ≤ 200 → cF u0 u → rwV u 28 V → VOK V → u 27 4 = nI s → cO u0 (rnR (ssOf u0) D r x V s) (f_X3_doRoutine (D + 1) (nI r) (nI x) (nI (21 - D)) u) := by
  intro D
  induction D with
  | zero =>
    intro hD r x V s u hr hk hx hs h5 h6 h7 h8
    rw [f_X3_doRoutine, g_X3_doRoutine, if_neg (fun z => absurd ((le_ (by omega) (by omega)).mp z) (by omega)), rnR]
    exact ⟨u, rfl, by omega, h5, h6, h7, h8, hs⟩
  | succ D ih =>
    intro hD r x V s u hr hk hx hs h5 h6 h7 h8
    rw [f_X3_doRoutine, g_X3_doRoutine, if_pos ((le_ (by omega) (by omega)).mpr (by omega)), gdt (ix_ hr (by omega)), rtn_n (by omega), rnR]
    have h15 : (ssOf u0 r).length ≤ 15 := (hT r hr).2.2.2.2.2.1
    have := crL (D := D) (nest := 21 - (D + 1)) hr rfl hx hT (hK.2.1 r hr hk).1 (hK.2.1 r hr hk).2 (by omega) (fun x2 x3 x4 u => f_X3_doRoutine (D + 1) x2 x3 x4 u) (fun r' x' V s u a1 a2 a3 a4 a5 a6 a7 a8 => by
      have := ih (by omega) r' x' V s u a1 a2 a3 a4 a5 a6 a7 a8
      rw [show 21 - (D + 1) + 1 = 21 - D by omega]
      exact this) 15 0 FU V s u (by omega) (by unfold FU; omega) (by omega) hs h5 h6 h7 h8
    rw [List.drop_zero] at this
    exact this
