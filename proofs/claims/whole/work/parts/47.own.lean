theorem pS_nil {w : Nat → Int32} {n a : Nat} (h : a < n) {st : pSt} (hs : (pS w n a).2 = some st) (h2 : 2 ≤ st.1) : st.2.2.2 = [] := by
  unfold pS at hs
  by_cases c1 : hr w n a = nI 61 ∨ hr w n a = nI 43
  · rw [if_pos c1] at hs
    by_cases c : isLet (hr w n (a + 1)) = true
    · have hl := let_lt c
      rw [if_pos c] at hs
      have := ((pTS_le (w := w) (n := n) (by omega)).2.2 st hs).1
      rw [this] at h2
      split at h2 <;> omega
    · rw [if_neg c] at hs; cases hs
  · rw [if_neg c1] at hs
    by_cases c2 : hr w n a = nI 35 ∨ hr w n a = nI 94
    · rw [if_pos c2] at hs
      obtain ⟨i1, i2, i3⟩ := pI_le (w := w) (n := n) (a := a + 1) (by omega)
      cases hp : pI w n (a + 1) with
      | mk b o =>
        rw [hp] at hs i1 i2
        cases o with
        | none => cases hs
        | some s =>
          dsimp only at hs i2
          have := ((pTS_le (w := w) (n := n) i2).2.2 st hs).1
          rw [this] at h2
          split at h2 <;> omega
    · rw [if_neg c2] at hs
      by_cases c3 : hr w n a = nI 63
      · rw [if_pos c3] at hs
        by_cases c : isLet (hr w n (a + 1)) = true
        · rw [if_pos c] at hs; cases hs; rfl
        · rw [if_neg c] at hs; cases hs
      · rw [if_neg c3] at hs
        by_cases c4 : hr w n a = nI 99
        · rw [if_pos c4] at hs
          by_cases c : ¬ hr w n (a + 1) < nI 48 ∧ hr w n (a + 1) < nI 54
          · rw [if_pos c] at hs
            cases hp : pI w n (a + 2) with
            | mk b o =>
              rw [hp] at hs
              cases o with
              | none => cases hs
              | some s => cases hs; rfl
          · rw [if_neg c] at hs; cases hs
        · rw [if_neg c4] at hs; cases hs
theorem pA_nil {w : Nat → Int32} {n : Nat} : ∀ (f a : Nat), ∀ st ∈ (pA w n f a).1, 2 ≤ st.1 → st.2.2.2 = [] := by
  intro f
  induction f with
  | zero => intro a st hst; cases hst
  | succ f ih =>
    intro a st hst h2
    rw [pA] at hst
    by_cases hl : a < n
    · rw [if_pos hl] at hst
      cases hp : pS w n a with
      | mk b o =>
        rw [hp] at hst
        cases o with
        | none => cases hst
        | some s =>
          dsimp only at hst
          rcases List.mem_cons.mp hst with rfl | hst
          · exact pS_nil hl (by rw [hp]) h2
          · exact ih b st hst h2
    · rw [if_neg hl] at hst; cases hst
def flat (ss : List pSt) : List (Nat × Nat) := match ss with
  | [] => []
  | st :: ss => st.2.2.2 ++ flat ss
theorem flat_len (ss : List pSt) : (flat ss).length = lsum ss := by
  induction ss with
  | nil => rfl
  | cons a ss ih => simp only [flat, lsum, List.length_append, ih]
theorem flat_mem {ss : List pSt} {l : Nat × Nat} : l ∈ flat ss ↔ ∃ st ∈ ss, l ∈ st.2.2.2 := by
  induction ss with
  | nil => simp [flat]
  | cons a ss ih =>
    simp only [flat, List.mem_append, ih]
    constructor
    · rintro (h | ⟨st, h1, h2⟩)
      · exact ⟨a, List.mem_cons_self, h⟩
      · exact ⟨st, List.mem_cons_of_mem _ h1, h2⟩
    · rintro ⟨st, h1, h2⟩
      rcases List.mem_cons.mp h1 with rfl | h1
      · exact Or.inl h2
      · exact Or.inr ⟨st, h1, h2⟩
theorem flat_enc {v : MU} {q : Nat} : ∀ (ss : List pSt) (s L : Nat), encR v q s L ss → lvsAt v q L (flat ss) := by
  intro ss
  induction ss with
  | nil => intro s L _ i l hl; simp [flat] at hl
  | cons a ss ih =>
    intro s L h i l hl
    obtain ⟨-, -, -, -, h5, h6⟩ := h
    simp only [flat] at hl
    by_cases c : i < a.2.2.2.length
    · rw [List.getElem?_append_left c] at hl
      exact h5 i l hl
    · rw [List.getElem?_append_right (by omega)] at hl
      have := ih (s + 1) (L + a.2.2.2.length) h6 (i - a.2.2.2.length) l hl
      rw [show L + a.2.2.2.length + (i - a.2.2.2.length) = L + i by omega] at this
      exact this
theorem place_s {s x : Nat} (hs : s < 30) (hx : x < 12) (u : MU) : f_X6_placeOf (nI s) (nI x) u = some (nI (plc s x), u) := by
  unfold f_X6_placeOf plc
  by_cases c : s < 18
  · rw [if_neg (fun z => absurd ((le_ (by omega) (by omega)).mp z) (by omega)), if_pos c]
  · rw [if_pos ((le_ (by omega) (by omega)).mpr (by omega)), if_neg c, sub_ (by omega), nI_add, irm_ (by omega) (by omega) (by omega), nI_add]
def eO (u v : MU) : Prop := ∀ k : Nat, (k < 3 ∨ 6 < k) → v k = u k
theorem eO.tr {u v t : MU} (h : eO u v) (g : eO v t) : eO u t := fun k hk => (g k hk).trans (h k hk)
theorem eO.up {u v : MU} {k j : Nat} {x : Int32} (h : eO u v) (hk : 3 ≤ k ∧ k ≤ 6) : eO u (mup v k j x) := fun a ha => by rw [mup_ne (by omega)]; exact h a ha
theorem lbits_sub {x : Nat} {l : Nat × Nat} : ∀ (ls : List (Nat × Nat)) (b : Int32), isub b (ls.foldl (fun s l => s ||| lbt x l) b) ∧ (l ∈ ls → isub (lbt x l) (ls.foldl (fun s l => s ||| lbt x l) b)) := by
  intro ls
  induction ls with
  | nil => intro b; exact ⟨isub.rf b, fun h => by cases h⟩
  | cons a ls ih =>
    intro b
    rw [List.foldl_cons]
    obtain ⟨h1, h2⟩ := ih (b ||| lbt x a)
    refine ⟨(isub.left b _).tr h1, fun h => ?_⟩
    rcases List.mem_cons.mp h with rfl | h
    · exact (isub.right b _).tr h1
    · exact h2 h
theorem lbits_le {x : Nat} {c : Int32} : ∀ (ls : List (Nat × Nat)) (b : Int32), isub b c → (∀ l ∈ ls, isub (lbt x l) c) → isub (ls.foldl (fun s l => s ||| lbt x l) b) c := by
  intro ls
  induction ls with
  | nil => intro b h _; exact h
  | cons a ls ih =>
    intro b h g
    rw [List.foldl_cons]
    exact ih _ (h.or (g a List.mem_cons_self)) (fun l hl => g l (List.mem_cons_of_mem _ hl))
/-- the entry e is all that changes -/
def atE (e : Nat) (u v : MU) : Prop := eO u v ∧ ∀ i : Nat, i < 4 → ∀ e' : Nat, e' ≠ e → v (3 + i) e' = u (3 + i) e'
theorem atE.rf (e : Nat) (u : MU) : atE e u u := ⟨fun _ _ => rfl, fun _ _ _ _ => rfl⟩
theorem atE.tr {e : Nat} {u v t : MU} (h : atE e u v) (g : atE e v t) : atE e u t := ⟨h.1.tr g.1, fun i hi e' he => (g.2 i hi e' he).trans (h.2 i hi e' he)⟩
theorem atE.up {e : Nat} {u v : MU} {k : Nat} {x : Int32} (h : atE e u v) (hk : 3 ≤ k ∧ k ≤ 6) : atE e u (mup v k e x) := ⟨h.1.up hk, fun i hi e' he => by rw [mup_j he]; exact h.2 i hi e' he⟩
theorem lvs_l {q e x : Nat} {ss : List pSt} (hx : x < 12) (he : e < 72) (hlen : (flat ss).length ≤ 30) (ho : ∀ l ∈ flat ss, lfOK l) : ∀ (d i F : Nat) (u : MU), (flat ss).length - i ≤ d → d < F → i ≤ (flat ss).length → lvsAt u q 0 (flat ss) → u q 10 = nI (flat ss).length → 7 < q → ∃ v : MU, l_X0_startWithOwn_174 q (nI x) F (nI e) (nI i) u = some (0, v) ∧ atE e u v ∧ isub (u 3 e) (v 3 e) ∧ v 4 e = u 4 e ∧ v 5 e = u 5 e ∧ v 6 e = u 6 e ∧ (∀ j : Nat, i ≤ j → ∀ l, (flat ss)[j]? = some l → isub (lbt x l) (v 3 e)) ∧ ∀ c : Int32, isub (u 3 e) c → (∀ l ∈ flat ss, isub (lbt x l) c) → isub (v 3 e) c := by
  intro d
  have exit : ∀ (i F : Nat) (u : MU), 0 < F → (flat ss).length ≤ i → i ≤ (flat ss).length → u q 10 = nI (flat ss).length → ∃ v : MU, l_X0_startWithOwn_174 q (nI x) F (nI e) (nI i) u = some (0, v) ∧ atE e u v ∧ isub (u 3 e) (v 3 e) ∧ v 4 e = u 4 e ∧ v 5 e = u 5 e ∧ v 6 e = u 6 e ∧ (∀ j : Nat, i ≤ j → ∀ l, (flat ss)[j]? = some l → isub (lbt x l) (v 3 e)) ∧ ∀ c : Int32, isub (u 3 e) c → (∀ l ∈ flat ss, isub (lbt x l) c) → isub (v 3 e) c := by
    intro i F u h1 h2 h3 h4
    obtain ⟨F, rfl⟩ : ∃ g, F = g + 1 := ⟨F - 1, by omega⟩
    rw [l_X0_startWithOwn_174, b_X0_startWithOwn_174, h4, if_pos ((le_ (by omega) (by omega)).mpr (by omega))]
    refine ⟨u, rfl, atE.rf e u, isub.rf _, rfl, rfl, rfl, fun j hj l hl => ?_, fun c h _ => h⟩
    have := (List.getElem?_eq_some_iff.mp hl).1
    omega
  induction d with
  | zero => intro i F u h1 h2 h3 h4 h5 hq; exact exit i F u (by omega) (by omega) h3 h5
  | succ d ih =>
    intro i F u h1 h2 h3 h4 h5 hq
    by_cases hl : i < (flat ss).length
    · obtain ⟨F, rfl⟩ : ∃ g, F = g + 1 := ⟨F - 1, by omega⟩
      have hg : (flat ss)[i]? = some (flat ss)[i] := List.getElem?_eq_getElem hl
      have hmem : (flat ss)[i] ∈ flat ss := List.getElem_mem hl
      obtain ⟨k1, k2⟩ := h4 i _ hg
      rw [Nat.zero_add] at k1 k2
      have hok := ho _ hmem
      rw [l_X0_startWithOwn_174, b_X0_startWithOwn_174, h5, if_neg (fun z => absurd ((le_ (by omega) (by omega)).mp z) (by omega)), gdt (ix_ (by omega) (by omega)), nc_ (by omega), k1]
      by_cases c2 : (flat ss)[i].1 = 2
      · have hlt : (flat ss)[i].2 < 30 := by
          rcases hok with h | h | h <;> omega
        rw [if_pos (by rw [c2]), gdt (ix_ he (by omega)), gdt (ix_ (by omega) (by omega)), k2, mBe (place_s hlt hx u), gdt (ix_ he (by omega)), mSe, nc_ (by omega), b_X0_startWithOwn_217, nI_1]
        have hb : lbt x (flat ss)[i] = btI (plc (flat ss)[i].2 x) := if_pos c2
        obtain ⟨v, e1, e2, e3, e4, e5, e6, e7, e8⟩ := ih (i + 1) F (mup u 3 e (u 3 e ||| 1 <<< (nI (plc (flat ss)[i].2 x) &&& 31))) (by omega) (by omega) (by omega) (fun j l hjl => by rw [mup_ne (by omega), mup_ne (by omega)]; exact h4 j l hjl) (by rw [mup_ne (by omega)]; exact h5) hq
        rw [mup_self] at e3 e8
        rw [mup_ne (by decide)] at e4 e5 e6
        refine ⟨v, e1, ((atE.rf e u).up (by omega)).tr e2, (isub.left _ _).tr e3, e4, e5, e6, fun j hj l hjl => ?_, fun c hc hall => e8 c (hc.or ?_) hall⟩
        · by_cases ej : j = i
          · subst ej
            rw [hg] at hjl
            have : (flat ss)[j] = l := Option.some.inj hjl
            rw [← this, hb]
            exact (isub.right _ _).tr e3
          · exact e7 j (by omega) l hjl
        · have := hall _ hmem
          rw [hb] at this
          exact this
      · have hne : (flat ss)[i].1 < 2 := by rcases hok with h | h | h <;> omega
        rw [if_neg (fun z => c2 ((eq_ (by omega) (by omega)).mp z)), b_X0_startWithOwn_217, nI_1]
        obtain ⟨v, e1, e2, e3, e4, e5, e6, e7, e8⟩ := ih (i + 1) F u (by omega) (by omega) (by omega) h4 h5 hq
        refine ⟨v, e1, e2, e3, e4, e5, e6, fun j hj l hjl => ?_, e8⟩
        by_cases ej : j = i
        · subst ej
          rw [hg] at hjl
          have : (flat ss)[j] = l := Option.some.inj hjl
          rw [← this, show lbt x (flat ss)[j] = 0 from if_neg c2]
          exact isub.zero _
        · exact e7 j (by omega) l hjl
    · exact exit i F u (by omega) (by omega) h3 h5
/-- what a statement itself does, but for its leaves -/
def ownN (i : Nat) (st : pSt) (x : Nat) : Int32 := match i with
  | 0 => if st.1 = 2 then btI (plc st.2.1 x) else 0
  | 1 => if st.1 = 0 then btI (plc st.2.1 x) else 0
  | 2 => if st.1 = 1 then btI (plc st.2.1 x) else 0
  | _ => if st.1 = 2 then 1 else 0
theorem own_l {q e x n : Nat} {w : Nat → Int32} {ss : List pSt} (hss : ss = (pA w n 31 0).1) (hfl : (pA w n 31 0).2 = none) (hx : x < 12) (he : e < 72) (hq : 7 < q) : ∀ (d j F : Nat) (u : MU), ss.length - j ≤ d → d < F → j ≤ ss.length → rOK u q w n → (∀ i : Nat, 3 < i → i < 4 → True) → (u 6 e = 0 ∨ u 6 e = 1) → ∃ v : MU, l_X0_startWithOwn_53 q (nI x) F (nI e) (nI j) u = some (0, v) ∧ atE e u v ∧ (∀ i : Nat, i < 4 → isub (u (3 + i) e) (v (3 + i) e)) ∧ (∀ k : Nat, j ≤ k → ∀ st, ss[k]? = some st → ∀ i : Nat, i < 4 → isub (ownN i st x) (v (3 + i) e)) ∧ (∀ l ∈ flat ss, isub (lbt x l) (v 3 e)) ∧ ∀ G : Nat → Int32, (∀ i : Nat, i < 4 → isub (u (3 + i) e) (G i)) → (∀ st ∈ ss, ∀ i : Nat, i < 4 → isub (ownN i st x) (G i)) → (∀ l ∈ flat ss, isub (lbt x l) (G 0)) → ∀ i : Nat, i < 4 → isub (v (3 + i) e) (G i) := by
  intro d
  have i4 : ∀ i : Nat, i < 4 → i = 0 ∨ i = 1 ∨ i = 2 ∨ i = 3 := fun i hi => by omega
  have exit : ∀ (j F : Nat) (u : MU), 0 < F → ss.length ≤ j → j ≤ ss.length → rOK u q w n → ∃ v : MU, l_X0_startWithOwn_53 q (nI x) F (nI e) (nI j) u = some (0, v) ∧ atE e u v ∧ (∀ i : Nat, i < 4 → isub (u (3 + i) e) (v (3 + i) e)) ∧ (∀ k : Nat, j ≤ k → ∀ st, ss[k]? = some st → ∀ i : Nat, i < 4 → isub (ownN i st x) (v (3 + i) e)) ∧ (∀ l ∈ flat ss, isub (lbt x l) (v 3 e)) ∧ ∀ G : Nat → Int32, (∀ i : Nat, i < 4 → isub (u (3 + i) e) (G i)) → (∀ st ∈ ss, ∀ i : Nat, i < 4 → isub (ownN i st x) (G i)) → (∀ l ∈ flat ss, isub (lbt x l) (G 0)) → ∀ i : Nat, i < 4 → isub (v (3 + i) e) (G i) := by
    intro j F u h1 h2 h3 hR
    obtain ⟨F, rfl⟩ : ∃ g, F = g + 1 := ⟨F - 1, by omega⟩
    obtain ⟨-, -, r7, r15, rE, r10, rO⟩ := hR
    rw [← hss] at r7 r15 rE r10 rO
    obtain ⟨r10, r30⟩ := r10 hfl
    rw [l_X0_startWithOwn_53, b_X0_startWithOwn_53, r7, if_pos ((le_ (by omega) (by omega)).mpr (by omega))]
    obtain ⟨v, e1, e2, e3, e4, e5, e6, e7, e8⟩ := lvs_l (q := q) (ss := ss) hx he (by rw [flat_len]; exact r30) (fun l hl => by obtain ⟨st, a, b⟩ := flat_mem.mp hl; exact (rO st a).2.2.2.2 l b) 31 0 FU u (by rw [flat_len]; omega) (by unfold FU; omega) (by omega) (flat_enc ss 0 0 rE) (by rw [flat_len]; exact r10) hq
    refine ⟨v, e1, e2, fun i hi => ?_, fun k hk st hst => ?_, fun l hl => ?_, fun G g1 g2 g3 i hi => ?_⟩
    · rcases i4 i hi with rfl | rfl | rfl | rfl
      · exact e3
      · show isub (u 4 e) (v 4 e); rw [e4]; exact isub.rf _
      · show isub (u 5 e) (v 5 e); rw [e5]; exact isub.rf _
      · show isub (u 6 e) (v 6 e); rw [e6]; exact isub.rf _
    · have := (List.getElem?_eq_some_iff.mp hst).1
      omega
    · obtain ⟨j', hj'⟩ := List.getElem?_of_mem hl
      exact e7 j' (by omega) l hj'
    · rcases i4 i hi with rfl | rfl | rfl | rfl
      · exact e8 (G 0) (g1 0 (by omega)) g3
      · show isub (v 4 e) (G 1); rw [e4]; exact g1 1 (by omega)
      · show isub (v 5 e) (G 2); rw [e5]; exact g1 2 (by omega)
      · show isub (v 6 e) (G 3); rw [e6]; exact g1 3 (by omega)
  induction d with
  | zero => intro j F u h1 h2 h3 hR _ _; exact exit j F u (by omega) (by omega) h3 hR
  | succ d ih =>
    intro j F u h1 h2 h3 hR _ h6
    by_cases hl : j < ss.length
    · obtain ⟨F, rfl⟩ : ∃ g, F = g + 1 := ⟨F - 1, by omega⟩
      have hR' := hR
      obtain ⟨-, -, r7, r15, rE, r10, rO⟩ := hR
      rw [← hss] at r7 r15 rE r10 rO
      have hg : ss[j]? = some ss[j] := List.getElem?_eq_getElem hl
      have hmem : ss[j] ∈ ss := List.getElem_mem hl
      obtain ⟨g1, g2, -⟩ := encR_get ss 0 0 rE j ss[j] hg
      rw [Nat.zero_add] at g1 g2
      have hok := rO ss[j] hmem
      have cong : ∀ v : MU, eO u v → rOK v q w n := fun v hv => hR'.cong (fun k a b => hv k (by omega))
      -- the rest, from a state v that grew at e by what the statement does
      have go : ∀ v : MU, atE e u v → (v 6 e = 0 ∨ v 6 e = 1) → (∀ i : Nat, i < 4 → isub (u (3 + i) e) (v (3 + i) e)) → (∀ i : Nat, i < 4 → isub (ownN i ss[j] x) (v (3 + i) e)) → (∀ G : Nat → Int32, (∀ i : Nat, i < 4 → isub (u (3 + i) e) (G i)) → (∀ i : Nat, i < 4 → isub (ownN i ss[j] x) (G i)) → ∀ i : Nat, i < 4 → isub (v (3 + i) e) (G i)) → ∃ v' : MU, l_X0_startWithOwn_53 q (nI x) F (nI e) (nI (j + 1)) v = some (0, v') ∧ atE e u v' ∧ (∀ i : Nat, i < 4 → isub (u (3 + i) e) (v' (3 + i) e)) ∧ (∀ k : Nat, j ≤ k → ∀ st, ss[k]? = some st → ∀ i : Nat, i < 4 → isub (ownN i st x) (v' (3 + i) e)) ∧ (∀ l ∈ flat ss, isub (lbt x l) (v' 3 e)) ∧ ∀ G : Nat → Int32, (∀ i : Nat, i < 4 → isub (u (3 + i) e) (G i)) → (∀ st ∈ ss, ∀ i : Nat, i < 4 → isub (ownN i st x) (G i)) → (∀ l ∈ flat ss, isub (lbt x l) (G 0)) → ∀ i : Nat, i < 4 → isub (v' (3 + i) e) (G i) := by
        intro v a1 a2 a3 a4 a5
        obtain ⟨v', e1, e2, e3, e4, e5, e6⟩ := ih (j + 1) F v (by omega) (by omega) (by omega) (cong v a1.1) (fun _ _ _ => trivial) a2
        refine ⟨v', e1, a1.tr e2, fun i hi => (a3 i hi).tr (e3 i hi), fun k hk st hst i hi => ?_, e5, fun G b1 b2 b3 => e6 G (a5 G b1 (b2 _ hmem)) b2 b3⟩
        by_cases ek : k = j
        · subst ek
          rw [hg] at hst
          have : ss[k] = st := Option.some.inj hst
          rw [← this]
          exact (a4 i hi).tr (e3 i hi)
        · exact e4 k (by omega) st hst i hi
      rw [l_X0_startWithOwn_53, b_X0_startWithOwn_53, r7, if_neg (fun z => absurd ((le_ (by omega) (by omega)).mp z) (by omega)), gdt (ix_ (by omega) (by omega)), nc_ (by omega), g2, mBe (place_s hok.2.1 hx u), gdt (ix_ (by omega) (by omega)), g1]
      rcases (show ss[j].1 = 0 ∨ ss[j].1 = 1 ∨ ss[j].1 = 2 ∨ ss[j].1 = 3 by have := hok.1; omega) with k | k | k | k
      · rw [k, if_pos (show nI 0 = 0 from rfl), gdt (ix_ he (by omega)), gdt (ix_ he (by omega)), mSe, nc_ (by omega), b_X0_startWithOwn_165, nI_1]
        refine go _ ((atE.rf e u).up (by omega)) (by rw [mup_ne (by decide)]; exact h6) (fun i hi => ?_) (fun i hi => ?_) (fun G b1 b2 i hi => ?_)
        · rcases i4 i hi with rfl | rfl | rfl | rfl
          · show isub (u 3 e) (mup _ 4 _ _ 3 e); rw [mup_ne (by decide)]; exact isub.rf _
          · show isub (u 4 e) (mup _ 4 _ _ 4 e); rw [mup_self]; exact isub.left _ _
          · show isub (u 5 e) (mup _ 4 _ _ 5 e); rw [mup_ne (by decide)]; exact isub.rf _
          · show isub (u 6 e) (mup _ 4 _ _ 6 e); rw [mup_ne (by decide)]; exact isub.rf _
        · rcases i4 i hi with rfl | rfl | rfl | rfl
          · simp only [ownN, k]; exact isub.zero _
          · show isub (ownN 1 ss[j] x) (mup _ 4 _ _ 4 e); rw [mup_self]; simp only [ownN, k]; exact isub.right _ _
          · simp only [ownN, k]; exact isub.zero _
          · simp only [ownN, k]; exact isub.zero _
        · rcases i4 i hi with rfl | rfl | rfl | rfl
          · show isub (mup _ 4 _ _ 3 e) (G 0); rw [mup_ne (by decide)]; exact b1 0 (by omega)
          · show isub (mup _ 4 _ _ 4 e) (G 1); rw [mup_self]
            have := b2 1 (by omega)
            simp only [ownN, k] at this
            exact (b1 1 (by omega)).or this
          · show isub (mup _ 4 _ _ 5 e) (G 2); rw [mup_ne (by decide)]; exact b1 2 (by omega)
          · show isub (mup _ 4 _ _ 6 e) (G 3); rw [mup_ne (by decide)]; exact b1 3 (by omega)
      · rw [k, if_neg (show ¬ nI 1 = 0 by decide), if_pos (show nI 1 = 1 from rfl), gdt (ix_ he (by omega)), gdt (ix_ he (by omega)), mSe, nc_ (by omega), b_X0_startWithOwn_165, nI_1]
        refine go _ ((atE.rf e u).up (by omega)) (by rw [mup_ne (by decide)]; exact h6) (fun i hi => ?_) (fun i hi => ?_) (fun G b1 b2 i hi => ?_)
        · rcases i4 i hi with rfl | rfl | rfl | rfl
          · show isub (u 3 e) (mup _ 5 _ _ 3 e); rw [mup_ne (by decide)]; exact isub.rf _
          · show isub (u 4 e) (mup _ 5 _ _ 4 e); rw [mup_ne (by decide)]; exact isub.rf _
          · show isub (u 5 e) (mup _ 5 _ _ 5 e); rw [mup_self]; exact isub.left _ _
          · show isub (u 6 e) (mup _ 5 _ _ 6 e); rw [mup_ne (by decide)]; exact isub.rf _
        · rcases i4 i hi with rfl | rfl | rfl | rfl
          · simp only [ownN, k]; exact isub.zero _
          · simp only [ownN, k]; exact isub.zero _
          · show isub (ownN 2 ss[j] x) (mup _ 5 _ _ 5 e); rw [mup_self]; simp only [ownN, k]; exact isub.right _ _
          · simp only [ownN, k]; exact isub.zero _
        · rcases i4 i hi with rfl | rfl | rfl | rfl
          · show isub (mup _ 5 _ _ 3 e) (G 0); rw [mup_ne (by decide)]; exact b1 0 (by omega)
          · show isub (mup _ 5 _ _ 4 e) (G 1); rw [mup_ne (by decide)]; exact b1 1 (by omega)
          · show isub (mup _ 5 _ _ 5 e) (G 2); rw [mup_self]
            have := b2 2 (by omega)
            simp only [ownN, k] at this
            exact (b1 2 (by omega)).or this
          · show isub (mup _ 5 _ _ 6 e) (G 3); rw [mup_ne (by decide)]; exact b1 3 (by omega)
      · rw [k, if_neg (show ¬ nI 2 = 0 by decide), if_neg (show ¬ nI 2 = 1 by decide), if_pos rfl, gdt (ix_ he (by omega)), gdt (ix_ he (by omega)), mSe, nc_ (by omega), gdt (ix_ he (by omega)), mSe, b_X0_startWithOwn_165, nI_1]
        refine go _ (((atE.rf e u).up (by omega)).up (by omega)) (Or.inr mup_self) (fun i hi => ?_) (fun i hi => ?_) (fun G b1 b2 i hi => ?_)
        · rcases i4 i hi with rfl | rfl | rfl | rfl
          · show isub (u 3 e) (mup _ 6 _ _ 3 e); rw [mup_ne (by decide), mup_self]; exact isub.left _ _
          · show isub (u 4 e) (mup _ 6 _ _ 4 e); rw [mup_ne (by decide), mup_ne (by decide)]; exact isub.rf _
          · show isub (u 5 e) (mup _ 6 _ _ 5 e); rw [mup_ne (by decide), mup_ne (by decide)]; exact isub.rf _
          · show isub (u 6 e) (mup _ 6 _ _ 6 e); rw [mup_self]
            rcases h6 with q | q <;> rw [q]
            · exact isub.zero _
            · exact isub.rf _
        · rcases i4 i hi with rfl | rfl | rfl | rfl
          · show isub (ownN 0 ss[j] x) (mup _ 6 _ _ 3 e); rw [mup_ne (by decide), mup_self]; simp only [ownN, k]; exact isub.right _ _
          · simp only [ownN, k]; exact isub.zero _
          · simp only [ownN, k]; exact isub.zero _
          · show isub (ownN 3 ss[j] x) (mup _ 6 _ _ 6 e); rw [mup_self]; simp only [ownN, k]; exact isub.rf _
        · rcases i4 i hi with rfl | rfl | rfl | rfl
          · show isub (mup _ 6 _ _ 3 e) (G 0); rw [mup_ne (by decide), mup_self]
            have := b2 0 (by omega)
            simp only [ownN, k] at this
            exact (b1 0 (by omega)).or this
          · show isub (mup _ 6 _ _ 4 e) (G 1); rw [mup_ne (by decide), mup_ne (by decide)]; exact b1 1 (by omega)
          · show isub (mup _ 6 _ _ 5 e) (G 2); rw [mup_ne (by decide), mup_ne (by decide)]; exact b1 2 (by omega)
          · show isub (mup _ 6 _ _ 6 e) (G 3); rw [mup_self]
            have := b2 3 (by omega)
            simp only [ownN, k] at this
            exact this
      · rw [k, if_neg (show ¬ nI 3 = 0 by decide), if_neg (show ¬ nI 3 = 1 by decide), if_neg (by decide), b_X0_startWithOwn_165, nI_1]
        refine go u (atE.rf e u) h6 (fun i _ => isub.rf _) (fun i hi => ?_) (fun G b1 b2 => b1)
        rcases i4 i hi with rfl | rfl | rfl | rfl <;> · simp only [ownN, k]; exact isub.zero _
    · exact exit j F u (by omega) (by omega) h3 hR
