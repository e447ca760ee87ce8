def tW (u : MU) (r : Nat) : Nat → Int32 := fun j => if j < 30 then u 89 (30 * r + j) else 0
def tN (u : MU) (r : Nat) : Nat := (u 90 r).toNatClampNeg
def ssOf (u : MU) (r : Nat) : List pSt := (pA (tW u r) (tN u r) 31 0).1
def flOf (u : MU) (r : Nat) : Option Nat := (pA (tW u r) (tN u r) 31 0).2
def TX (u : MU) : Prop := ∀ r : Nat, r < 6 → tN u r ≤ 30 ∧ u 90 r = nI (tN u r) ∧ rOK u (30 + 8 * r) (tW u r) (tN u r)
theorem TX.text {u : MU} (h : TX u) {r : Nat} (hr : r < 6) : ∀ j : Nat, j < tN u r → u 89 (30 * r + j) = tW u r j := by
  intro j hj
  have := (h r hr).1
  unfold tW
  rw [if_pos (by omega)]
def PL (u : MU) : Prop := ∀ j : Nat, j < 18 → u 8 j = u 91 j ∧ ∃ v : Nat, v < 100 ∧ u 8 j = nI v
def prOK (k : Int32) (a b : Nat → Int32) : Prop := (∃ m : Nat, m ≤ 16 ∧ k = nI m) ∧ ∀ j : Nat, j < 16 → (∃ v : Nat, v < 6 ∧ a j = nI v) ∧ ∃ v : Nat, v < 12 ∧ b j = nI v
def PR (u : MU) : Prop := u 9 2 = u 88 5 ∧ prOK (u 9 2) (u 10) (u 11) ∧ ∀ j : Nat, j < 16 → u 10 j = u 92 j ∧ u 11 j = u 93 j
def IM (u : MU) : Prop := ∀ k : Nat, k < 2 → mZ (u 110 k) = true ∧ u (78 + 5 * k) 2 = u 110 k ∧ (∀ j : Nat, j < 18 → u (79 + 5 * k) j = u 109 (51 * k + j) ∧ ∃ v : Nat, v < 100 ∧ u (79 + 5 * k) j = nI v) ∧ u (80 + 5 * k) 2 = u 109 (51 * k + 50) ∧ prOK (u (80 + 5 * k) 2) (u (81 + 5 * k)) (u (82 + 5 * k)) ∧ ∀ j : Nat, j < 16 → u (81 + 5 * k) j = u 109 (51 * k + 18 + j) ∧ u (82 + 5 * k) j = u 109 (51 * k + 34 + j)
def isub (a b : Int32) : Prop := a ||| b = b
def lbits (x : Nat) (ls : List (Nat × Nat)) : Int32 := ls.foldl (fun s l => s ||| lbt x l) 0
def ownM (i : Nat) (st : pSt) (x : Nat) : Int32 := match i with
  | 0 => if st.1 = 2 then btI (plc st.2.1 x) else if st.1 < 2 then lbits x st.2.2.2 else 0
  | 1 => if st.1 = 0 then btI (plc st.2.1 x) else 0
  | 2 => if st.1 = 1 then btI (plc st.2.1 x) else 0
  | _ => if st.1 = 2 then 1 else 0
def closedAt (ss : List pSt) (G : Nat → Nat → Int32) (e x : Nat) : Prop := ∀ st ∈ ss, ∀ i : Nat, i < 4 → isub (ownM i st x) (G i e) ∧ (st.1 = 3 → isub (G i (12 * st.2.2.1 + (plc st.2.1 x - 6))) (G i e))
def KN (u : MU) : Prop := (∀ r : Nat, r < 6 → mZ (u 7 r) = true) ∧ (∀ r : Nat, r < 6 → u 7 r = 1 → flOf u r = none ∧ ∀ st ∈ ssOf u r, st.1 = 3 → u 7 st.2.2.1 = 1) ∧ ∀ S : Nat → Prop, (∀ r : Nat, r < 6 → S r → flOf u r = none ∧ ∀ st ∈ ssOf u r, st.1 = 3 → S st.2.2.1) → ∀ r : Nat, r < 6 → S r → u 7 r = 1
def CE (u : MU) : Prop := (∀ r : Nat, r < 6 → u 7 r = 1 → ∀ x : Nat, x < 12 → closedAt (ssOf u r) (fun i e => u (3 + i) e) (12 * r + x) x) ∧ ∀ G : Nat → Nat → Int32, (∀ r : Nat, r < 6 → u 7 r = 1 → ∀ x : Nat, x < 12 → closedAt (ssOf u r) G (12 * r + x) x) → ∀ r : Nat, r < 6 → u 7 r = 1 → ∀ x : Nat, x < 12 → ∀ i : Nat, i < 4 → isub (u (3 + i) (12 * r + x)) (G i (12 * r + x))
def EF (u : MU) : Prop := u 2 5 = 0 ∨ (u 2 5 = 1 ∧ KN u ∧ CE u)
def Inv (u : MU) : Prop := TX u ∧ PL u ∧ PR u ∧ IM u ∧ EF u
theorem rOK.cong {u v : MU} {q n : Nat} {w : Nat → Int32} (h : rOK u q w n) (e : ∀ k : Nat, q ≤ k → k ≤ q + 7 → v k = u k) : rOK v q w n := by
  obtain ⟨⟨h1, h2, h3⟩, h4, h5, h6, h7, h8, h9⟩ := h
  have e0 := e q (by omega) (by omega)
  have lv : ∀ (L : Nat) (ls : List (Nat × Nat)), lvsAt u q L ls → lvsAt v q L ls := fun L ls g i l hl => by
    rw [e (q + 6) (by omega) (by omega), e (q + 7) (by omega) (by omega)]; exact g i l hl
  have en : ∀ (ss : List pSt) (s L : Nat), encR u q s L ss → encR v q s L ss := by
    intro ss
    induction ss with
    | nil => intro s L _; trivial
    | cons a ss ih =>
      intro s L g
      obtain ⟨g1, g2, g3, g4, g5, g6⟩ := g
      refine ⟨?_, ?_, fun q3 => ?_, ?_, lv _ _ g5, ih _ _ g6⟩
      · rw [e (q + 2) (by omega) (by omega)]; exact g1
      · rw [e (q + 3) (by omega) (by omega)]; exact g2
      · rw [e (q + 4) (by omega) (by omega)]; exact g3 q3
      · rw [e (q + 5) (by omega) (by omega)]; exact g4
  refine ⟨⟨h1, by rw [e0]; exact h2, fun j hj => by rw [e (q + 1) (by omega) (by omega)]; exact h3 j hj⟩, by rw [e0]; exact h4, by rw [e0]; exact h5, h6, en _ _ _ h7, fun q => by rw [e0]; exact h8 q, h9⟩
theorem tW_cong {u v : MU} (e : v 89 = u 89) : tW v = tW u := by funext r j; unfold tW; rw [e]
theorem tN_cong {u v : MU} (e : v 90 = u 90) : tN v = tN u := by funext r; unfold tN; rw [e]
theorem ss_cong {u v : MU} (e : v 89 = u 89) (e2 : v 90 = u 90) : ssOf v = ssOf u ∧ flOf v = flOf u := by
  constructor
  · funext r; unfold ssOf; rw [tW_cong e, tN_cong e2]
  · funext r; unfold flOf; rw [tW_cong e, tN_cong e2]
theorem TX.cong {u v : MU} (h : TX u) (e : v 89 = u 89) (e2 : v 90 = u 90) (e3 : ∀ k : Nat, 30 ≤ k → k ≤ 77 → v k = u k) : TX v := by
  intro r hr
  rw [tW_cong e, tN_cong e2, e2]
  obtain ⟨h1, h2, h3⟩ := h r hr
  exact ⟨h1, h2, h3.cong (fun k a b => e3 k (by omega) (by omega))⟩
theorem PL.cong {u v : MU} (h : PL u) (e : v 8 = u 8) (e2 : v 91 = u 91) : PL v := by
  intro j hj
  rw [e, e2]
  exact h j hj
theorem PR.cong {u v : MU} (h : PR u) (e : v 9 2 = u 9 2) (e1 : v 88 5 = u 88 5) (e2 : v 10 = u 10) (e3 : v 11 = u 11) (e4 : v 92 = u 92) (e5 : v 93 = u 93) : PR v := by
  unfold PR
  rw [e, e1, e2, e3, e4, e5]
  exact h
theorem IM.cong {u v : MU} (h : IM u) (e : ∀ k : Nat, 78 ≤ k → k ≤ 87 → v k = u k) (e2 : v 109 = u 109) (e3 : v 110 = u 110) : IM v := by
  intro k hk
  rw [e (78 + 5 * k) (by omega) (by omega), e (79 + 5 * k) (by omega) (by omega), e (80 + 5 * k) (by omega) (by omega), e (81 + 5 * k) (by omega) (by omega), e (82 + 5 * k) (by omega) (by omega), e2, e3]
  exact h k hk
theorem EF.cong {u v : MU} (h : EF u) (e : ∀ k : Nat, 2 ≤ k → k ≤ 7 → v k = u k) (e2 : v 89 = u 89) (e3 : v 90 = u 90) : EF v := by
  obtain ⟨s1, s2⟩ := ss_cong e2 e3
  unfold EF KN CE
  rw [s1, s2, e 2 (by omega) (by omega), e 7 (by omega) (by omega)]
  rcases h with h | ⟨h1, h2, h3⟩
  · exact Or.inl h
  · refine Or.inr ⟨h1, h2, fun r hr hk x hx st hst i hi => ?_, fun G hG r hr hk x hx i hi => ?_⟩
    · simp only
      rw [e (3 + i) (by omega) (by omega)]
      exact h3.1 r hr hk x hx st hst i hi
    · rw [e (3 + i) (by omega) (by omega)]
      exact h3.2 G hG r hr hk x hx i hi
/-- only what nobody keeps has changed -/
def scr (u v : MU) : Prop := (∀ k : Nat, (2 ≤ k ∧ k ≤ 11) ∨ (30 ≤ k ∧ k ≤ 87) ∨ (89 ≤ k ∧ k ≤ 93) ∨ k = 109 ∨ k = 110 → v k = u k) ∧ v 88 5 = u 88 5
theorem scr.rf (u : MU) : scr u u := ⟨fun _ _ => rfl, rfl⟩
theorem scr.tr {u v t : MU} (h : scr u v) (g : scr v t) : scr u t := ⟨fun k hk => (g.1 k hk).trans (h.1 k hk), g.2.trans h.2⟩
theorem Inv.scr {u v : MU} (h : Inv u) (g : scr u v) : Inv v := by
  obtain ⟨h1, h2, h3, h4, h5⟩ := h
  refine ⟨h1.cong (g.1 89 (by omega)) (g.1 90 (by omega)) (fun k a b => g.1 k (by omega)), h2.cong (g.1 8 (by omega)) (g.1 91 (by omega)), h3.cong (by rw [g.1 9 (by omega)]) g.2 (g.1 10 (by omega)) (g.1 11 (by omega)) (g.1 92 (by omega)) (g.1 93 (by omega)), h4.cong (fun k a b => g.1 k (by omega)) (g.1 109 (by omega)) (g.1 110 (by omega)), h5.cong (fun k a b => g.1 k (by omega)) (g.1 89 (by omega)) (g.1 90 (by omega))⟩
theorem pf7.scr {u v : MU} (h : pf7 u v) : scr u v := ⟨fun k hk => h.1 k (by omega), h.2 5 (by omega)⟩
/-- one call of the class, then the same of the model: one answer, and the state stands -/
def Same (f g : MU → mR) : Prop := ∀ u : MU, Inv u → ∃ (r : Int32) (v t : MU), f u = some (r, v) ∧ g v = some (r, t) ∧ Inv t
theorem rtn_n {r : Nat} (h : r < 1000) : rtn (nI r) = 30 + 8 * r := by unfold rtn; rw [nc_ (by omega)]
theorem img_n {r : Nat} (h : r < 1000) : img (nI r) = 78 + 5 * r := by unfold img; rw [nc_ (by omega)]
theorem isR_in {k : Nat} (h : k < 6) (u : MU) : f_X7_isRoutine (nI k) u = some (1, u) := by
  rw [isR_s, toInt_n (by omega), if_pos (by omega)]
theorem isR_out {x : Int32} (h : x < 0 ∨ nI 6 ≤ x) (u : MU) : f_X7_isRoutine x u = some (0, u) := by
  have := out_toInt (n := 6) (by omega) h
  rw [isR_s, if_neg (by omega)]
theorem isG_in {k : Nat} (h : k < 12) (u : MU) : f_X7_isGiven (nI k) u = some (1, u) := by
  rw [f_X7_isGiven, mBe (inO (n := 11) (by omega) (by decide) (by decide) u h), gdt z_one]
theorem isG_out {x : Int32} (h : x < 0 ∨ nI 12 ≤ x) (u : MU) : f_X7_isGiven x u = some (0, u) := by
  rw [f_X7_isGiven, mBe (inZ (n := 11) (by omega) (by decide) (by decide) u h (by omega)), gdt z_zero]
theorem isP_in {k : Nat} (h : k < 18) (u : MU) : f_X7_isPlace (nI k) u = some (1, u) := by
  rw [f_X7_isPlace, mBe (inO (n := 17) (by omega) (by decide) (by decide) u h), gdt z_one]
theorem isP_out {x : Int32} (h : x < 0 ∨ nI 18 ≤ x) (u : MU) : f_X7_isPlace x u = some (0, u) := by
  rw [f_X7_isPlace, mBe (inZ (n := 17) (by omega) (by decide) (by decide) u h (by omega)), gdt z_zero]
theorem rg (x : Int32) (n : Nat) (hn : n < 1000000) : (x < 0 ∨ nI n ≤ x) ∨ ∃ k : Nat, k < n ∧ x = nI k := by
  rcases ranged x hn with h | h | h
  · exact Or.inl (Or.inl h)
  · exact Or.inl (Or.inr h)
  · exact Or.inr h
theorem op_get (x : Int32) : Same (f_X6_get x) (f_X7_get x) := by
  intro u h
  rcases rg x 18 (by omega) with hx | ⟨k, hk, rfl⟩
  · refine ⟨-1, u, u, ?_, ?_, h⟩
    · rw [f_X6_get, mBe (wi_out hx u), if_pos rfl]
    · rw [f_X7_get, mBe (isP_out hx u), if_pos rfl]
  · refine ⟨u 8 k, u, u, ?_, ?_, h⟩
    · rw [f_X6_get, mBe (wi_in hk (by omega) u), if_neg (by decide), gdt (ix_ hk (by omega)), nc_ (by omega)]
    · rw [f_X7_get, mBe (isP_in hk u), if_neg (by decide), gdt (ix_ hk (by omega)), nc_ (by omega), (h.2.1 k hk).1]
theorem op_set (x y : Int32) : Same (f_X6_set x y) (f_X7_set x y) := by
  intro u h
  rcases rg x 18 (by omega) with hx | ⟨k, hk, rfl⟩
  · refine ⟨-1, u, u, ?_, ?_, h⟩
    · rw [f_X6_set, mBe (wi_out hx u), if_pos rfl]
    · rw [f_X7_set, mBe (isP_out hx u), if_pos rfl]
  · rcases rg y 100 (by omega) with hy | ⟨m, hm, rfl⟩
    · refine ⟨-2, u, u, ?_, ?_, h⟩
      · rw [f_X6_set, mBe (wi_in hk (by omega) u), if_neg (by decide), mBe (wi_out hy u), if_pos rfl]
      · rw [f_X7_set, mBe (isP_in hk u), if_neg (by decide), mBe (inZ (n := 99) (by omega) (by decide) (by decide) u hy (by omega)), if_pos rfl]
    · have hp := (h.2.1 k hk).1
      refine ⟨u 8 k, mup u 8 k (nI m), mup (mup u 8 k (nI m)) 91 k (nI m), ?_, ?_, ?_⟩
      · rw [f_X6_set, mBe (wi_in hk (by omega) u), if_neg (by decide), mBe (wi_in hm (by omega) u), if_neg (by decide), gdt (ix_ hk (by omega)), gdt (ix_ hk (by omega)), mSe, nc_ (by omega)]
      · rw [f_X7_set, mBe (isP_in hk _), if_neg (by decide), mBe (inO (n := 99) (by omega) (by decide) (by decide) _ hm), if_neg (by decide), gdt (ix_ hk (by omega)), gdt (ix_ hk (by omega)), mSe, nc_ (by omega), mup_ne (by decide), hp]
      · obtain ⟨h1, h2, h3, h4, h5⟩ := h
        have e : ∀ a : Nat, a ≠ 8 → a ≠ 91 → mup (mup u 8 k (nI m)) 91 k (nI m) a = u a := fun a a1 a2 => by rw [mup_ne a2, mup_ne a1]
        refine ⟨h1.cong (e 89 (by decide) (by decide)) (e 90 (by decide) (by decide)) (fun a _ _ => e a (by omega) (by omega)), fun j hj => ?_, h3.cong (by rw [e 9 (by decide) (by decide)]) (by rw [e 88 (by decide) (by decide)]) (e 10 (by decide) (by decide)) (e 11 (by decide) (by decide)) (e 92 (by decide) (by decide)) (e 93 (by decide) (by decide)), h4.cong (fun a _ _ => e a (by omega) (by omega)) (e 109 (by decide) (by decide)) (e 110 (by decide) (by decide)), h5.cong (fun a _ _ => e a (by omega) (by omega)) (e 89 (by decide) (by decide)) (e 90 (by decide) (by decide))⟩
        rw [mup_ne (show (8 : Nat) ≠ 91 by decide)]
        by_cases hjk : j = k
        · subst hjk
          rw [mup_self, mup_self]
          exact ⟨rfl, m, hm, rfl⟩
        · rw [mup_sne hjk, mup_sne hjk, mup_ne (by decide)]
          exact h2 j hj
theorem op_fault (x : Int32) : Same (f_X6_fault x) (f_X7_fault x) := by
  intro u h
  rcases rg x 6 (by omega) with hx | ⟨k, hk, rfl⟩
  · refine ⟨-1, u, u, ?_, ?_, h⟩
    · rw [f_X6_fault, mBe (wi_out hx u), if_pos rfl]
    · rw [f_X7_fault, mBe (isR_out hx u), if_pos rfl]
  · obtain ⟨g1, g2, g3⟩ := h.1 k hk
    obtain ⟨v, e1, e2⟩ := faultOf_s hk g1 g2 (h.1.text hk)
    refine ⟨oF (flOf u k), u, v, ?_, ?_, h.scr e2.scr⟩
    · rw [f_X6_fault, mBe (wi_in hk (by omega) u), if_neg (by decide), gdt (ix_ hk (by omega)), rtn_n (by omega), g3.2.1]
      rfl
    · rw [f_X7_fault, mBe (isR_in hk u), if_neg (by decide), mBe e1]
      rfl
