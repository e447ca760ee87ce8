theorem mmore_s {u : MU} (a b : Int32) (hz : mZ (u 88 20) = true) : f_X7_more a b u = some (a ||| b, mup u 88 20 (if a ||| b = a then u 88 20 else 1)) := by
  rw [f_X7_more]
  rcases mZ_or hz with q | q
  · rw [if_pos q]
    by_cases c : a ||| b = a
    · rw [if_pos c, b_X7_more_20, gdt z_zero, mSe, if_pos c, q]
    · rw [if_neg c, b_X7_more_15, b_X7_more_20, gdt z_one, mSe, if_neg c]
  · rw [if_neg (by rw [q]; decide), b_X7_more_15, b_X7_more_20, gdt z_one, mSe]
    by_cases c : a ||| b = a
    · rw [if_pos c, q]
    · rw [if_neg c]
/-- one row of an entry takes bits in -/
def tk (u : MU) (k e : Nat) (m : Int32) : MU := mup (mup u 88 20 (if u k e ||| m = u k e then u 88 20 else 1)) k e (u k e ||| m)
theorem tk_z {u : MU} {k e : Nat} {m : Int32} (hk : 94 ≤ k) (hz : mZ (u 88 20) = true) : mZ (tk u k e m 88 20) = true := by
  unfold tk
  rw [mup_ne (by omega), mup_self]
  by_cases c : u k e ||| m = u k e
  · rw [if_pos c]; exact hz
  · rw [if_neg c]; rfl
theorem or_sub {a m : Int32} : a ||| m = a ↔ isub m a := by
  constructor
  · intro h; rw [← h]; exact isub.right _ _
  · intro h; exact ((isub.rf a).or h).antisymm (isub.left _ _)
theorem tk_f {u : MU} {k e : Nat} {m : Int32} (hk : 94 ≤ k) : (isub m (u k e) ∧ tk u k e m 88 20 = u 88 20) ∨ (¬ isub m (u k e) ∧ tk u k e m 88 20 = 1) := by
  unfold tk
  rw [mup_ne (by omega), mup_self]
  by_cases c : u k e ||| m = u k e
  · rw [if_pos c]; exact Or.inl ⟨or_sub.mp c, rfl⟩
  · rw [if_neg c]; exact Or.inr ⟨fun h => c (or_sub.mpr h), rfl⟩
theorem tk_ne {u : MU} {k e a : Nat} {m : Int32} (h1 : a ≠ k) (h2 : a ≠ 88) : tk u k e m a = u a := by
  unfold tk
  rw [mup_ne h1, mup_ne h2]
theorem tk_88 {u : MU} {k e j : Nat} {m : Int32} (hk : 94 ≤ k) (h : j ≠ 20) : tk u k e m 88 j = u 88 j := by
  unfold tk
  rw [mup_ne (by omega), mup_sne h]
theorem tk_self {u : MU} {k e : Nat} {m : Int32} : tk u k e m k e = u k e ||| m := by
  unfold tk
  rw [mup_self]
theorem tk_sne {u : MU} {k e e' : Nat} {m : Int32} (hk : 94 ≤ k) (h : e' ≠ e) : tk u k e m k e' = u k e' := by
  unfold tk
  rw [mup_sne h, mup_ne (by omega)]
def atM (e : Nat) (u v : MU) : Prop := (∀ k : Nat, k ≠ 88 → (k < 94 ∨ 97 < k) → v k = u k) ∧ (∀ j : Nat, (j < 6 ∨ j = 7 ∨ (13 < j ∧ j ≠ 20)) → v 88 j = u 88 j) ∧ ∀ i : Nat, i < 4 → ∀ e' : Nat, e' ≠ e → v (94 + i) e' = u (94 + i) e'
theorem atM.rf (e : Nat) (u : MU) : atM e u u := ⟨fun _ _ _ => rfl, fun _ _ => rfl, fun _ _ _ _ => rfl⟩
theorem atM.tr {e : Nat} {u v t : MU} (h : atM e u v) (g : atM e v t) : atM e u t := ⟨fun k a b => (g.1 k a b).trans (h.1 k a b), fun j a => (g.2.1 j a).trans (h.2.1 j a), fun i hi e' he => (g.2.2 i hi e' he).trans (h.2.2 i hi e' he)⟩
theorem atM.fE {e : Nat} {u v : MU} (h : atM e u v) : fE u v := ⟨fun k a b => h.1 k a (by omega), fun j a => h.2.1 j (by omega)⟩
theorem pf.atM {e : Nat} {u v : MU} (h : pf u v) : atM e u v := ⟨fun k a _ => h.1 k a, fun j a => h.2 j (by omega), fun i hi e' _ => by rw [h.1 (94 + i) (by omega)]⟩
theorem atM.mT {e : Nat} {u v : MU} (g : atM e u v) {r n : Nat} {w : Nat → Int32} (h : mT u r w n) : mT v r w n := by
  obtain ⟨h1, h2, h3, h4, h5⟩ := h
  exact ⟨h1, h2, by rw [g.2.1 7 (by omega)]; exact h3, by rw [g.1 90 (by decide) (by omega)]; exact h4, fun j hj => by rw [g.1 89 (by decide) (by omega)]; exact h5 j hj⟩
theorem takeIn_s {u : MU} {e : Nat} (he : e < 72) (m : Nat → Int32) (hz : mZ (u 88 20) = true) : ∃ v : MU, f_X7_takeIn (nI e) (m 0) (m 1) (m 2) (m 3) u = some (0, v) ∧ atM e u v ∧ v 88 6 = u 88 6 ∧ mZ (v 88 20) = true ∧ (∀ i : Nat, i < 4 → v (94 + i) e = u (94 + i) e ||| m i) ∧ ((v 88 20 = u 88 20 ∧ ∀ i : Nat, i < 4 → isub (m i) (u (94 + i) e)) ∨ (v 88 20 = 1 ∧ ∃ i : Nat, i < 4 ∧ ¬ isub (m i) (u (94 + i) e))) := by
  have ix := ix_ he (show (72 : Nat) < 1000 by omega)
  refine ⟨tk (tk (tk (tk u 94 e (m 0)) 95 e (m 1)) 96 e (m 2)) 97 e (m 3), ?_, ⟨fun k a b => ?_, fun j a => ?_, fun i hi e' h => ?_⟩, ?_, ?_, fun i hi => ?_, ?_⟩
  · have z1 := tk_z (k := 94) (e := e) (m := m 0) (by omega) hz
    have z2 := tk_z (k := 95) (e := e) (m := m 1) (by omega) z1
    have z3 := tk_z (k := 96) (e := e) (m := m 2) (by omega) z2
    rw [f_X7_takeIn, gdt ix, nc_ (by omega), mBe (mmore_s _ _ hz), gdt ix, mSe, gdt ix]
    rw [show mup (mup u 88 20 (if u 94 e ||| m 0 = u 94 e then u 88 20 else 1)) 94 e (u 94 e ||| m 0) = tk u 94 e (m 0) from rfl]
    rw [mBe (mmore_s _ _ z1), gdt ix, mSe, gdt ix]
    generalize tk u 94 e (m 0) = u1 at z1 z2 z3
    rw [show mup (mup u1 88 20 (if u1 95 e ||| m 1 = u1 95 e then u1 88 20 else 1)) 95 e (u1 95 e ||| m 1) = tk u1 95 e (m 1) from rfl]
    rw [mBe (mmore_s _ _ z2), gdt ix, mSe, gdt ix]
    generalize tk u1 95 e (m 1) = u2 at z2 z3
    rw [show mup (mup u2 88 20 (if u2 96 e ||| m 2 = u2 96 e then u2 88 20 else 1)) 96 e (u2 96 e ||| m 2) = tk u2 96 e (m 2) from rfl]
    rw [mBe (mmore_s _ _ z3), gdt ix, mSe]
    rfl
  · rw [tk_ne (by omega) a, tk_ne (by omega) a, tk_ne (by omega) a, tk_ne (by omega) a]
  · rw [tk_88 (by omega) (by omega), tk_88 (by omega) (by omega), tk_88 (by omega) (by omega), tk_88 (by omega) (by omega)]
  · rcases i4 hi with rfl | rfl | rfl | rfl
    · show tk _ 97 e _ 94 e' = u 94 e'; rw [tk_ne (by omega) (by omega), tk_ne (by omega) (by omega), tk_ne (by omega) (by omega), tk_sne (by omega) h]
    · show tk _ 97 e _ 95 e' = u 95 e'; rw [tk_ne (by omega) (by omega), tk_ne (by omega) (by omega), tk_sne (by omega) h, tk_ne (by omega) (by omega)]
    · show tk _ 97 e _ 96 e' = u 96 e'; rw [tk_ne (by omega) (by omega), tk_sne (by omega) h, tk_ne (by omega) (by omega), tk_ne (by omega) (by omega)]
    · show tk _ 97 e _ 97 e' = u 97 e'; rw [tk_sne (by omega) h, tk_ne (by omega) (by omega), tk_ne (by omega) (by omega), tk_ne (by omega) (by omega)]
  · rw [tk_88 (by omega) (by omega), tk_88 (by omega) (by omega), tk_88 (by omega) (by omega), tk_88 (by omega) (by omega)]
  · exact tk_z (by omega) (tk_z (by omega) (tk_z (by omega) (tk_z (by omega) hz)))
  · rcases i4 hi with rfl | rfl | rfl | rfl
    · show tk _ 97 e _ 94 e = _; rw [tk_ne (by omega) (by omega), tk_ne (by omega) (by omega), tk_ne (by omega) (by omega), tk_self]
    · show tk _ 97 e _ 95 e = _; rw [tk_ne (by omega) (by omega), tk_ne (by omega) (by omega), tk_self, tk_ne (by omega) (by omega)]
    · show tk _ 97 e _ 96 e = _; rw [tk_ne (by omega) (by omega), tk_self, tk_ne (by omega) (by omega), tk_ne (by omega) (by omega)]
    · show tk _ 97 e _ 97 e = _; rw [tk_self, tk_ne (by omega) (by omega), tk_ne (by omega) (by omega), tk_ne (by omega) (by omega)]
  · have f0 := tk_f (u := u) (k := 94) (e := e) (m := m 0) (by omega)
    have f1 := tk_f (u := tk u 94 e (m 0)) (k := 95) (e := e) (m := m 1) (by omega)
    have f2 := tk_f (u := tk (tk u 94 e (m 0)) 95 e (m 1)) (k := 96) (e := e) (m := m 2) (by omega)
    have f3 := tk_f (u := tk (tk (tk u 94 e (m 0)) 95 e (m 1)) 96 e (m 2)) (k := 97) (e := e) (m := m 3) (by omega)
    have w1 : tk u 94 e (m 0) 95 e = u 95 e := by rw [tk_ne (by omega) (by omega)]
    have w2 : tk (tk u 94 e (m 0)) 95 e (m 1) 96 e = u 96 e := by rw [tk_ne (by omega) (by omega), tk_ne (by omega) (by omega)]
    have w3 : tk (tk (tk u 94 e (m 0)) 95 e (m 1)) 96 e (m 2) 97 e = u 97 e := by rw [tk_ne (by omega) (by omega), tk_ne (by omega) (by omega), tk_ne (by omega) (by omega)]
    rw [w1] at f1
    rw [w2] at f2
    rw [w3] at f3
    rcases f3 with ⟨a3, b3⟩ | ⟨a3, b3⟩
    · rw [b3]
      rcases f2 with ⟨a2, b2⟩ | ⟨a2, b2⟩
      · rw [b2]
        rcases f1 with ⟨a1, b1⟩ | ⟨a1, b1⟩
        · rw [b1]
          rcases f0 with ⟨a0, b0⟩ | ⟨a0, b0⟩
          · refine Or.inl ⟨b0, fun i hi => ?_⟩
            rcases i4 hi with rfl | rfl | rfl | rfl
            · exact a0
            · exact a1
            · exact a2
            · exact a3
          · exact Or.inr ⟨b0, 0, by omega, a0⟩
        · exact Or.inr ⟨b1, 1, by omega, a1⟩
      · exact Or.inr ⟨b2, 2, by omega, a2⟩
    · exact Or.inr ⟨b3, 3, by omega, a3⟩
/-- the model's rows, where the class's lie -/
def mv (u : MU) : MU := fun k => if k < 7 then u (k + 91) else u k
theorem mv_i {u : MU} {i : Nat} (hi : i < 4) : mv u (3 + i) = u (94 + i) := by
  unfold mv
  rw [if_pos (by omega), show 3 + i + 91 = 94 + i by omega]
def mG (u : MU) : Nat → Nat → Int32 := fun i e => u (94 + i) e
def aeP (e x : Nat) (ss : List pSt) (u v : MU) : Prop := atM e u v ∧ mZ (v 88 20) = true ∧ (∀ i : Nat, i < 4 → isub (u (94 + i) e) (v (94 + i) e)) ∧ (∀ G : Nat → Int32, (∀ i : Nat, i < 4 → isub (u (94 + i) e) (G i)) → (∀ st ∈ ss, ∀ i : Nat, i < 4 → isub (ownM i st x) (G i) ∧ (st.1 = 3 → isub (u (94 + i) (12 * st.2.2.1 + (plc st.2.1 x - 6))) (G i))) → ∀ i : Nat, i < 4 → isub (v (94 + i) e) (G i)) ∧ ((v 88 20 = u 88 20 ∧ (∀ i : Nat, i < 4 → v (94 + i) e = u (94 + i) e) ∧ closedAt ss (mG u) e x) ∨ (v 88 20 = 1 ∧ pce (mv u) e < pce (mv v) e))
theorem aeP.nil {e x : Nat} {u v : MU} (h : pf u v) (hz : mZ (u 88 20) = true) : aeP e x [] u v := by
  have e2 : ∀ i : Nat, v (94 + i) = u (94 + i) := fun i => h.1 (94 + i) (by omega)
  have e3 : v 88 20 = u 88 20 := h.2 20 (by omega)
  exact ⟨h.atM, by rw [e3]; exact hz, fun i _ => by rw [e2]; exact isub.rf _, fun G g _ i hi => by rw [e2]; exact g i hi, Or.inl ⟨e3, fun i _ => by rw [e2], fun st hst => by cases hst⟩⟩
theorem ownM_3 {st : pSt} {x i : Nat} (hi : i < 4) (h : st.1 = 3) : ownM i st x = 0 := by
  rcases i4 hi with rfl | rfl | rfl | rfl <;> simp only [ownM, h] <;> rfl
/-- one statement taken in, then the rest -/
theorem aeP.cons {e x : Nat} {st : pSt} {ss : List pSt} {u u3 v t : MU} {m : Nat → Int32} (hu : pf u u3) (ha : atM e u3 v) (hzv : mZ (v 88 20) = true) (hv : ∀ i : Nat, i < 4 → v (94 + i) e = u3 (94 + i) e ||| m i) (hf : (v 88 20 = u3 88 20 ∧ ∀ i : Nat, i < 4 → isub (m i) (u3 (94 + i) e)) ∨ (v 88 20 = 1 ∧ ∃ i : Nat, i < 4 ∧ ¬ isub (m i) (u3 (94 + i) e))) (hm : ∀ i : Nat, i < 4 → m i = if st.1 = 3 then u3 (94 + i) (12 * st.2.2.1 + (plc st.2.1 x - 6)) else ownM i st x) (h : aeP e x ss v t) : aeP e x (st :: ss) u t := by
  obtain ⟨h1, h2, h3, h4, h5⟩ := h
  have e2 : ∀ i : Nat, u3 (94 + i) = u (94 + i) := fun i => hu.1 (94 + i) (by omega)
  have e3 : u3 88 20 = u 88 20 := hu.2 20 (by omega)
  have uv : ∀ i : Nat, i < 4 → isub (u (94 + i) e) (v (94 + i) e) := fun i hi => by rw [hv i hi, e2]; exact isub.left _ _
  refine ⟨(hu.atM.tr ha).tr h1, h2, fun i hi => (uv i hi).tr (h3 i hi), fun G g1 g2 => ?_, ?_⟩
  · have gm : ∀ i : Nat, i < 4 → isub (m i) (G i) := by
      intro i hi
      rw [hm i hi]
      have := g2 st List.mem_cons_self i hi
      by_cases c : st.1 = 3
      · rw [if_pos c, e2]; exact this.2 c
      · rw [if_neg c]; exact this.1
    have gv : ∀ i : Nat, i < 4 → isub (v (94 + i) e) (G i) := fun i hi => by
      rw [hv i hi, e2]; exact (g1 i hi).or (gm i hi)
    refine h4 G gv (fun st' hst i hi => ?_)
    have := g2 st' (List.mem_cons_of_mem _ hst) i hi
    refine ⟨this.1, fun q3 => ?_⟩
    by_cases ee : 12 * st'.2.2.1 + (plc st'.2.1 x - 6) = e
    · rw [ee]; exact gv i hi
    · rw [ha.2.2 i hi _ ee, e2]; exact this.2 q3
  · rcases hf with ⟨f1, f2⟩ | ⟨f1, i0, hi0, f2⟩
    · have vu : ∀ i : Nat, i < 4 → v (94 + i) e = u (94 + i) e := fun i hi => by
        rw [hv i hi, or_sub.mpr (f2 i hi), e2]
      have vall : ∀ i : Nat, i < 4 → ∀ e' : Nat, v (94 + i) e' = u (94 + i) e' := fun i hi e' => by
        by_cases ee : e' = e
        · subst ee; exact vu i hi
        · rw [ha.2.2 i hi e' ee, e2]
      rcases h5 with ⟨p1, p2, p3⟩ | ⟨p1, p2⟩
      · refine Or.inl ⟨by rw [p1, f1, e3], fun i hi => (p2 i hi).trans (vu i hi), fun st' hst i hi => ?_⟩
        rcases List.mem_cons.mp hst with rfl | hst
        · have fm := f2 i hi
          rw [hm i hi, e2] at fm
          by_cases c : st'.1 = 3
          · rw [if_pos c] at fm
            exact ⟨by rw [ownM_3 hi c]; exact isub.zero _, fun _ => fm⟩
          · rw [if_neg c] at fm
            exact ⟨fm, fun q => absurd q c⟩
        · have := p3 st' hst i hi
          unfold mG at this ⊢
          rw [vall i hi, vall i hi] at this
          exact this
      · refine Or.inr ⟨p1, ?_⟩
        have : pce (mv v) e = pce (mv u) e := by
          unfold pce
          rw [show mv v 3 = v 94 from rfl, show mv v 4 = v 95 from rfl, show mv v 5 = v 96 from rfl, show mv v 6 = v 97 from rfl, show mv u 3 = u 94 from rfl, show mv u 4 = u 95 from rfl, show mv u 5 = u 96 from rfl, show mv u 6 = u 97 from rfl]
          rw [show v 94 e = u 94 e from vu 0 (by omega), show v 95 e = u 95 e from vu 1 (by omega), show v 96 e = u 96 e from vu 2 (by omega), show v 97 e = u 97 e from vu 3 (by omega)]
        omega
    · have lt : pce (mv u) e < pce (mv v) e := by
        refine pce_lt (i := i0) (fun i hi => by rw [mv_i hi, mv_i hi]; exact uv i hi) hi0 ?_
        rw [mv_i hi0, mv_i hi0, hv i0 hi0, ← e2]
        intro q
        exact f2 (or_sub.mp q.symm)
      have le : pce (mv v) e ≤ pce (mv t) e := pce_le (fun i hi => by rw [mv_i hi, mv_i hi]; exact h3 i hi)
      refine Or.inr ⟨?_, by omega⟩
      rcases h5 with ⟨p1, -⟩ | ⟨p1, -⟩
      · rw [p1, f1]
      · exact p1
