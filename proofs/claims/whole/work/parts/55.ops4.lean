theorem KN.cong {u v : MU} (h : KN u) (e7 : v 7 = u 7) (e2 : v 89 = u 89) (e3 : v 90 = u 90) : KN v := by
  obtain ⟨s1, s2⟩ := ss_cong e2 e3
  unfold KN
  rw [s1, s2, e7]
  exact h
theorem CE.cong {u v : MU} (h : CE u) (e : ∀ k : Nat, 2 ≤ k → k ≤ 7 → v k = u k) (e2 : v 89 = u 89) (e3 : v 90 = u 90) : CE v := by
  obtain ⟨s1, s2⟩ := ss_cong e2 e3
  unfold CE
  rw [s1, e 7 (by omega) (by omega)]
  refine ⟨fun r hr hk x hx st hst i hi => ?_, fun G hG r hr hk x hx i hi => ?_⟩
  · dsimp only
    rw [e (3 + i) (by omega) (by omega)]
    exact h.1 r hr hk x hx st hst i hi
  · rw [e (3 + i) (by omega) (by omega)]
    exact h.2 G hG r hr hk x hx i hi
theorem ME.cong {u v : MU} (h : ME u) (e : ∀ k : Nat, 2 ≤ k → k ≤ 7 → v k = u k) (e2 : v 89 = u 89) (e3 : v 90 = u 90) (e4 : ∀ k : Nat, 94 ≤ k → k ≤ 98 → v k = u k) : ME v := by
  obtain ⟨s1, s2⟩ := ss_cong e2 e3
  obtain ⟨⟨h1, h2⟩, h3⟩ := h
  have calE : ∀ s t : Nat, cal v s t ↔ cal u s t := fun s t => by unfold cal; rw [s1]
  refine ⟨⟨fun r hr S hS hcl s hs hb => ?_, fun r hr => ?_⟩, fun r hr hk x hx i hi => ?_⟩
  · rw [e4 98 (by omega) (by omega)] at hb
    exact h1 r hr S hS (fun s t a b c => hcl s t a b ((calE s t).mpr c)) s hs hb
  · rw [e4 98 (by omega) (by omega)]
    exact ⟨(h2 r hr).1, fun s hs hb t hc => (h2 r hr).2 s hs hb t ((calE s t).mp hc)⟩
  · rw [e 7 (by omega) (by omega)] at hk
    rw [e4 (94 + i) (by omega) (by omega), e (3 + i) (by omega) (by omega)]
    exact h3 r hr hk x hx i hi
/-- all is known of the effects, on both sides -/
def MK (u : MU) : Prop := TX u ∧ KN u ∧ CE u ∧ ME u
theorem MK.cong {u v : MU} (h : MK u) (e : ∀ k : Nat, ((2 ≤ k ∧ k ≤ 7) ∨ (30 ≤ k ∧ k ≤ 77) ∨ k = 89 ∨ k = 90 ∨ (94 ≤ k ∧ k ≤ 98)) → v k = u k) : MK v := by
  obtain ⟨h1, h2, h3, h4⟩ := h
  exact ⟨h1.cong (e 89 (by omega)) (e 90 (by omega)) (fun k a b => e k (by omega)), h2.cong (e 7 (by omega)) (e 89 (by omega)) (e 90 (by omega)), h3.cong (fun k a b => e k (by omega)) (e 89 (by omega)) (e 90 (by omega)), h4.cong (fun k a b => e k (by omega)) (e 89 (by omega)) (e 90 (by omega)) (fun k a b => e k (by omega))⟩
theorem MK.p7 {u v : MU} (h : MK u) (g : pf7 u v) : MK v := h.cong (fun k hk => g.1 k (by omega))
theorem MK.known {u : MU} (h : MK u) {r : Nat} (hr : r < 6) : ∃ v : MU, f_X7_isKnown (nI r) u = some (u 7 r, v) ∧ pf7 u v := mknown_s h.1 h.2.2.2.1 h.2.1 hr
theorem fnd_s {u : MU} (hT : TX u) (hK : KN u) (hC : CE u) : ∃ v : MU, f_X7_findEffects u = some (0, v) ∧ fE u v ∧ MK v := by
  obtain ⟨v, e1, e2, e3, e4, e5⟩ := meff_s hT hK hC
  exact ⟨v, e1, e2, e2.tx hT, e4, e5, e3⟩
theorem part_s {u : MU} {r x k : Nat} (hr : r < 6) (hx : x < 12) (hk : k < 4) : f_X0_part (nI r) (nI x) (nI k) u = some (u (3 + k) (12 * r + x), u) := by
  have e0 : nI r * nI 12 + nI x = nI (12 * r + x) := by rw [mul_, nI_add, Nat.mul_comm]
  have ix := ix_ (show 12 * r + x < 72 by omega) (show (72 : Nat) < 1000 by omega)
  rw [f_X0_part, e0, gdt ix, gdt ix, gdt ix, gdt ix, nc_ (by omega)]
  rcases i4 hk with rfl | rfl | rfl | rfl
  · rw [if_pos (show nI 0 = 0 from rfl)]
  · rw [if_neg (by decide), if_pos (show nI 1 = 1 from rfl)]
  · rw [if_neg (by decide), if_neg (by decide), if_pos rfl]
  · rw [if_neg (by decide), if_neg (by decide), if_neg (by decide), if_pos rfl]
theorem op_effect (x y z : Int32) : Same (f_X6_effect x y z) (f_X7_effect x y z) := by
  intro u h
  rcases rg x 6 (by omega) with hx | ⟨r, hr, rfl⟩
  · refine ⟨-1, u, u, ?_, ?_, h⟩
    · rw [f_X6_effect, mBe (wi_out hx u), if_pos rfl]
    · rw [f_X7_effect, mBe (isR_out hx u), if_pos rfl]
  · rcases rg y 12 (by omega) with hy | ⟨g, hg, rfl⟩
    · refine ⟨-2, u, u, ?_, ?_, h⟩
      · rw [f_X6_effect, mBe (wi_in hr (by omega) u), if_neg (by decide), mBe (wi_out hy u), if_pos rfl]
      · rw [f_X7_effect, mBe (isR_in hr u), if_neg (by decide), mBe (isG_out hy u), if_pos rfl]
    · rcases rg z 4 (by omega) with hz | ⟨k, hk, rfl⟩
      · refine ⟨-2, u, u, ?_, ?_, h⟩
        · rw [f_X6_effect, mBe (wi_in hr (by omega) u), if_neg (by decide), mBe (wi_in hg (by omega) u), if_neg (by decide), mBe (wi_out hz u), if_pos rfl]
        · rw [f_X7_effect, mBe (isR_in hr u), if_neg (by decide), mBe (isG_in hg u), if_neg (by decide), mBe (inZ (n := 3) (by omega) (by decide) (by decide) u hz (by omega)), if_pos rfl]
      · obtain ⟨v, e1, e2, e3, e4, e5⟩ := find_s h
        obtain ⟨t, f1, f2, f3⟩ := fnd_s e2.1 e3 e4
        obtain ⟨s, g1, g2⟩ := f3.known hr
        have t7 : t 7 = v 7 := f2.1 7 (by decide) (by omega)
        have hs : Inv s := (e2.scr f2.scr).scr g2.scr
        have ix := ix_ (show 12 * r + g < 72 by omega) (show (72 : Nat) < 1000 by omega)
        rcases mZ_or (e3.1 r hr) with q | q
        · refine ⟨-5, v, s, ?_, ?_, hs⟩
          · rw [f_X6_effect, mBe (wi_in hr (by omega) u), if_neg (by decide), mBe (wi_in hg (by omega) u), if_neg (by decide), mBe (wi_in hk (by omega) u), if_neg (by decide), mBe e1, gdt (ix_ hr (by omega)), nc_ (by omega), if_pos q]
          · rw [f_X7_effect, mBe (isR_in hr v), if_neg (by decide), mBe (isG_in hg v), if_neg (by decide), mBe (inO (n := 3) (by omega) (by decide) (by decide) v hk), if_neg (by decide), mBe f1, mBe g1, if_pos (by rw [t7]; exact q)]
        · have q0 : ¬ v 7 r = 0 := by rw [q]; decide
          refine ⟨v (3 + k) (12 * r + g), v, s, ?_, ?_, hs⟩
          · rw [f_X6_effect, mBe (wi_in hr (by omega) u), if_neg (by decide), mBe (wi_in hg (by omega) u), if_neg (by decide), mBe (wi_in hk (by omega) u), if_neg (by decide), mBe e1, gdt (ix_ hr (by omega)), nc_ (by omega), if_neg q0, mBe (part_s hr hg hk)]
          · have em : ∀ i : Nat, i < 4 → s (94 + i) (12 * r + g) = v (3 + i) (12 * r + g) := fun i hi => by
              rw [g2.1 (94 + i) (by omega), f3.2.2.2.2 r hr (by rw [t7]; exact q) g hg i hi, f2.1 (3 + i) (by omega) (by omega)]
            rw [f_X7_effect, mBe (isR_in hr v), if_neg (by decide), mBe (isG_in hg v), if_neg (by decide), mBe (inO (n := 3) (by omega) (by decide) (by decide) v hk), if_neg (by decide), mBe f1, mBe g1, if_neg (by rw [t7]; exact q0), mul_, nI_add, gdt ix, gdt ix, gdt ix, gdt ix, nc_ (by omega)]
            rcases i4 hk with rfl | rfl | rfl | rfl
            · rw [if_pos (show nI 0 = 0 from rfl), show s 94 (12 * r + g) = v 3 (12 * r + g) from em 0 (by omega)]
            · rw [if_neg (by decide), if_pos (show nI 1 = 1 from rfl), show s 95 (12 * r + g) = v 4 (12 * r + g) from em 1 (by omega)]
            · rw [if_neg (by decide), if_neg (by decide), if_pos rfl, show s 96 (12 * r + g) = v 5 (12 * r + g) from em 2 (by omega)]
            · rw [if_neg (by decide), if_neg (by decide), if_neg (by decide), show s 97 (12 * r + g) = v 6 (12 * r + g) from em 3 (by omega)]
/-- why two entries are bound -/
def cau (M : Nat → Nat → Int32) (p q : Nat) : Int32 := ((if (M 1 p &&& (M 1 q ||| M 2 q)) = 0 ∧ (M 1 q &&& (M 1 p ||| M 2 p)) = 0 then 0 else 1) ||| (if (M 0 p &&& (M 1 q ||| M 2 q)) = 0 ∧ (M 0 q &&& (M 1 p ||| M 2 p)) = 0 then 0 else nI 2)) ||| (if M 3 p = 1 ∧ M 3 q = 1 then nI 4 else 0)
def cG (u : MU) : Nat → Nat → Int32 := fun i e => u (3 + i) e
theorem cau_eq {M N : Nat → Nat → Int32} {p q : Nat} (hp : ∀ i : Nat, i < 4 → M i p = N i p) (hq : ∀ i : Nat, i < 4 → M i q = N i q) : cau M p q = cau N p q := by
  unfold cau
  rw [hp 0 (by omega), hp 1 (by omega), hp 2 (by omega), hp 3 (by omega), hq 0 (by omega), hq 1 (by omega), hq 2 (by omega), hq 3 (by omega)]
theorem between_s {u : MU} {r x r' x' : Nat} (hr : r < 6) (hx : x < 12) (hr' : r' < 6) (hx' : x' < 12) : f_X0_between (nI r) (nI x) (nI r') (nI x') u = some (cau (cG u) (12 * r + x) (12 * r' + x'), u) := by
  have e0 : nI r * nI 12 + nI x = nI (12 * r + x) := by rw [mul_, nI_add, Nat.mul_comm]
  have e1 : nI r' * nI 12 + nI x' = nI (12 * r' + x') := by rw [mul_, nI_add, Nat.mul_comm]
  have hp : 12 * r + x < 72 := by omega
  have hq : 12 * r' + x' < 72 := by omega
  have ip := ix_ hp (show (72 : Nat) < 1000 by omega)
  have iq := ix_ hq (show (72 : Nat) < 1000 by omega)
  rw [f_X0_between, e0, e1]
  generalize 12 * r + x = p at ip hp
  generalize 12 * r' + x' = q at iq hq
  rw [gdt ip, gdt ip, gdt iq, gdt iq, gdt ip, gdt iq, nc_ (by omega), nc_ (by omega)]
  unfold cau cG
  have h84 : ∀ z : Int32, b_X0_between_84 (nI p) (nI q) (u 4 p ||| u 5 p) (u 4 q ||| u 5 q) z u = some ((z ||| (if (u 3 p &&& (u 4 q ||| u 5 q)) = 0 ∧ (u 3 q &&& (u 4 p ||| u 5 p)) = 0 then 0 else nI 2)) ||| (if u 6 p = 1 ∧ u 6 q = 1 then nI 4 else 0), u) := by
    intro z
    have h114 : ∀ z : Int32, b_X0_between_114 (nI p) (nI q) z u = some (z ||| (if u 6 p = 1 ∧ u 6 q = 1 then nI 4 else 0), u) := by
      intro z
      rw [b_X0_between_114, gdt ip, gdt iq, nc_ (by omega), nc_ (by omega)]
      by_cases c1 : u 6 p = 1
      · by_cases c2 : u 6 q = 1
        · rw [if_pos c1, if_pos c2, if_pos ⟨c1, c2⟩]
        · rw [if_pos c1, if_neg c2, if_neg (fun h => c2 h.2), Int32.or_zero]
      · rw [if_neg c1, if_neg (fun h => c1 h.1), Int32.or_zero]
    rw [b_X0_between_84, gdt ip, gdt iq, nc_ (by omega), nc_ (by omega)]
    by_cases c : (u 3 p &&& (u 4 q ||| u 5 q)) ||| (u 3 q &&& (u 4 p ||| u 5 p)) = 0
    · rw [if_pos c, h114, if_pos (or_zero.mp c), Int32.or_zero]
    · rw [if_neg c, h114, if_neg (fun h => c (or_zero.mpr h))]
  by_cases c : (u 4 p &&& (u 4 q ||| u 5 q)) ||| (u 4 q &&& (u 4 p ||| u 5 p)) = 0
  · rw [if_pos c, h84, if_pos (or_zero.mp c)]
  · rw [if_neg c, h84, if_neg (fun h => c (or_zero.mpr h)), show (0 : Int32) ||| 1 = 1 by decide]
theorem causesOf_s {u : MU} {p q : Nat} (hp : p < 72) (hq : q < 72) : f_X7_causesOf (nI p) (nI q) u = some (cau (mG u) p q, u) := by
  have ip := ix_ hp (show (72 : Nat) < 1000 by omega)
  have iq := ix_ hq (show (72 : Nat) < 1000 by omega)
  have h57 : ∀ z : Int32, b_X7_causesOf_57 (nI p) (nI q) (u 95 p ||| u 96 p) (u 95 q ||| u 96 q) z u = some ((z ||| (if (u 94 p &&& (u 95 q ||| u 96 q)) = 0 ∧ (u 94 q &&& (u 95 p ||| u 96 p)) = 0 then 0 else nI 2)) ||| (if u 97 p = 1 ∧ u 97 q = 1 then nI 4 else 0), u) := by
    intro z
    have h89 : ∀ y : Int32, b_X7_causesOf_89 (nI p) (nI q) y z u = some ((z ||| y) ||| (if u 97 p = 1 ∧ u 97 q = 1 then nI 4 else 0), u) := by
      intro y
      rw [b_X7_causesOf_89, gdt ip, gdt iq, nc_ (by omega), nc_ (by omega)]
      by_cases c1 : u 97 p = 1
      · by_cases c2 : u 97 q = 1
        · rw [if_pos c1, if_pos c2, if_pos ⟨c1, c2⟩]
        · rw [if_pos c1, if_neg c2, if_neg (fun h => c2 h.2)]
      · rw [if_neg c1, if_neg (fun h => c1 h.1)]
    rw [b_X7_causesOf_57, gdt ip, gdt iq, nc_ (by omega), nc_ (by omega), b_X7_causesOf_84, h89, h89]
    by_cases c1 : (u 94 p &&& (u 95 q ||| u 96 q)) = 0
    · by_cases c2 : (u 94 q &&& (u 95 p ||| u 96 p)) = 0
      · rw [if_pos c1, if_pos c2, if_pos (show (u 94 p &&& (u 95 q ||| u 96 q)) = 0 ∧ (u 94 q &&& (u 95 p ||| u 96 p)) = 0 from ⟨c1, c2⟩)]
      · rw [if_pos c1, if_neg c2, if_neg (show ¬ ((u 94 p &&& (u 95 q ||| u 96 q)) = 0 ∧ (u 94 q &&& (u 95 p ||| u 96 p)) = 0) from fun h => c2 h.2)]
    · rw [if_neg c1, if_neg (show ¬ ((u 94 p &&& (u 95 q ||| u 96 q)) = 0 ∧ (u 94 q &&& (u 95 p ||| u 96 p)) = 0) from fun h => c1 h.1)]
  rw [f_X7_causesOf, gdt ip, gdt ip, gdt iq, gdt iq, gdt ip, gdt iq, nc_ (by omega), nc_ (by omega), b_X7_causesOf_52, h57, h57]
  unfold cau mG
  by_cases c1 : (u 95 p &&& (u 95 q ||| u 96 q)) = 0
  · by_cases c2 : (u 95 q &&& (u 95 p ||| u 96 p)) = 0
    · rw [if_pos c1, if_pos c2, if_pos (show (u 95 p &&& (u 95 q ||| u 96 q)) = 0 ∧ (u 95 q &&& (u 95 p ||| u 96 p)) = 0 from ⟨c1, c2⟩)]
    · rw [if_pos c1, if_neg c2, if_neg (show ¬ ((u 95 p &&& (u 95 q ||| u 96 q)) = 0 ∧ (u 95 q &&& (u 95 p ||| u 96 p)) = 0) from fun h => c2 h.2)]
  · rw [if_neg c1, if_neg (show ¬ ((u 95 p &&& (u 95 q ||| u 96 q)) = 0 ∧ (u 95 q &&& (u 95 p ||| u 96 p)) = 0) from fun h => c1 h.1)]
theorem MK.cauE {u : MU} (h : MK u) {r x r' x' : Nat} (hr : r < 6) (hx : x < 12) (hr' : r' < 6) (hx' : x' < 12) (k : u 7 r = 1) (k' : u 7 r' = 1) : cau (mG u) (12 * r + x) (12 * r' + x') = cau (cG u) (12 * r + x) (12 * r' + x') := cau_eq (fun i hi => h.2.2.2.2 r hr k x hx i hi) (fun i hi => h.2.2.2.2 r' hr' k' x' hx' i hi)
theorem op_causes (x y z w : Int32) : Same (f_X6_causes x y z w) (f_X7_causes x y z w) := by
  intro u h
  rcases rg x 6 (by omega) with hx | ⟨r, hr, rfl⟩
  · refine ⟨-1, u, u, ?_, ?_, h⟩
    · rw [f_X6_causes, mBe (wi_out hx u), if_pos rfl]
    · rw [f_X7_causes, mBe (isR_out hx u), if_pos rfl]
  rcases rg z 6 (by omega) with hz | ⟨r', hr', rfl⟩
  · refine ⟨-1, u, u, ?_, ?_, h⟩
    · rw [f_X6_causes, mBe (wi_in hr (by omega) u), if_neg (by decide), mBe (wi_out hz u), if_pos rfl]
    · rw [f_X7_causes, mBe (isR_in hr u), if_neg (by decide), mBe (isR_out hz u), if_pos rfl]
  rcases rg y 12 (by omega) with hy | ⟨g, hg, rfl⟩
  · refine ⟨-2, u, u, ?_, ?_, h⟩
    · rw [f_X6_causes, mBe (wi_in hr (by omega) u), if_neg (by decide), mBe (wi_in hr' (by omega) u), if_neg (by decide), mBe (wi_out hy u), if_pos rfl]
    · rw [f_X7_causes, mBe (isR_in hr u), if_neg (by decide), mBe (isR_in hr' u), if_neg (by decide), mBe (isG_out hy u), if_pos rfl]
  rcases rg w 12 (by omega) with hw | ⟨g', hg', rfl⟩
  · refine ⟨-2, u, u, ?_, ?_, h⟩
    · rw [f_X6_causes, mBe (wi_in hr (by omega) u), if_neg (by decide), mBe (wi_in hr' (by omega) u), if_neg (by decide), mBe (wi_in hg (by omega) u), if_neg (by decide), mBe (wi_out hw u), if_pos rfl]
    · rw [f_X7_causes, mBe (isR_in hr u), if_neg (by decide), mBe (isR_in hr' u), if_neg (by decide), mBe (isG_in hg u), if_neg (by decide), mBe (isG_out hw u), if_pos rfl]
  obtain ⟨v, e1, e2, e3, e4, e5⟩ := find_s h
  obtain ⟨t, f1, f2, f3⟩ := fnd_s e2.1 e3 e4
  obtain ⟨s, g1, g2⟩ := f3.known hr
  obtain ⟨s', k1, k2⟩ := (f3.p7 g2).known hr'
  have t7 : t 7 = v 7 := f2.1 7 (by decide) (by omega)
  have s7 : s 7 = v 7 := by rw [g2.1 7 (by decide), t7]
  have hs : Inv s := (e2.scr f2.scr).scr g2.scr
  have hs' : Inv s' := hs.scr k2.scr
  have cls : ∀ (a : Int32) (b : MU), (gd (mIx (nI r) 6) (if (v 7 (nI r).toNatClampNeg) = 0 then some ((-5), v) else gd (mIx (nI r') 6) (if (v 7 (nI r').toNatClampNeg) = 0 then some ((-5), v) else mB (f_X0_between (nI r) (nI g) (nI r') (nI g') v) (fun r14 u14 => some (r14, u14))))) = some (a, b) → f_X6_causes (nI r) (nI g) (nI r') (nI g') u = some (a, b) := by
    intro a b q
    rw [f_X6_causes, mBe (wi_in hr (by omega) u), if_neg (by decide), mBe (wi_in hr' (by omega) u), if_neg (by decide), mBe (wi_in hg (by omega) u), if_neg (by decide), mBe (wi_in hg' (by omega) u), if_neg (by decide), mBe e1]
    exact q
  rw [gdt (ix_ hr (by omega)), gdt (ix_ hr' (by omega)), nc_ (by omega), nc_ (by omega), mBe (between_s hr hg hr' hg')] at cls
  have mdl : ∀ (a : Int32) (b : MU), (if t 7 r = 0 then some ((-5), s) else mB (f_X7_isKnown (nI r') s) (fun r12 u12 => (if r12 = 0 then some ((-5), u12) else mB (f_X7_causesOf (nI 12 * nI r + nI g) (nI 12 * nI r' + nI g') u12) (fun r14 u14 => some (r14, u14))))) = some (a, b) → f_X7_causes (nI r) (nI g) (nI r') (nI g') v = some (a, b) := by
    intro a b q
    rw [f_X7_causes, mBe (isR_in hr v), if_neg (by decide), mBe (isR_in hr' v), if_neg (by decide), mBe (isG_in hg v), if_neg (by decide), mBe (isG_in hg' v), if_neg (by decide), mBe f1, mBe g1]
    exact q
  rw [mBe k1, mul_, nI_add, mul_, nI_add, mBe (causesOf_s (by omega) (by omega)), t7, s7] at mdl
  rcases mZ_or (e3.1 r hr) with q | q
  · exact ⟨-5, v, s, cls _ _ (if_pos q), mdl _ _ (if_pos q), hs⟩
  · have q0 : ¬ v 7 r = 0 := by rw [q]; decide
    rw [if_neg q0] at mdl
    rw [if_neg q0] at cls
    rcases mZ_or (e3.1 r' hr') with p | p
    · exact ⟨-5, v, s', cls _ _ (if_pos p), mdl _ _ (if_pos p), hs'⟩
    · have p0 : ¬ v 7 r' = 0 := by rw [p]; decide
      refine ⟨_, v, s', cls _ _ (if_neg p0), ?_, hs'⟩
      refine mdl _ _ ?_
      rw [if_neg p0]
      have e : cau (mG s') (12 * r + g) (12 * r' + g') = cau (cG v) (12 * r + g) (12 * r' + g') := by
        rw [((f3.p7 g2).p7 k2).cauE hr hg hr' hg' (by rw [k2.1 7 (by decide), s7]; exact q) (by rw [k2.1 7 (by decide), s7]; exact p)]
        exact cau_eq (fun i hi => by unfold cG; rw [k2.1 (3 + i) (by omega), g2.1 (3 + i) (by omega), f2.1 (3 + i) (by omega) (by omega)]) (fun i hi => by unfold cG; rw [k2.1 (3 + i) (by omega), g2.1 (3 + i) (by omega), f2.1 (3 + i) (by omega) (by omega)])
      rw [e]
