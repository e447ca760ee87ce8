theorem Inv.mk2 {u v : MU} (h : Inv u) (hT : TX v) (hE : EF v) (e : ∀ k : Nat, (k = 8 ∨ k = 9 ∨ k = 10 ∨ k = 11 ∨ (78 ≤ k ∧ k ≤ 87) ∨ k = 88 ∨ k = 91 ∨ k = 92 ∨ k = 93 ∨ k = 109 ∨ k = 110) → v k = u k) : Inv v := by
  obtain ⟨h1, h2, h3, h4, h5⟩ := h
  exact ⟨hT, h2.cong (e 8 (by omega)) (e 91 (by omega)), h3.cong (by rw [e 9 (by omega)]) (by rw [e 88 (by omega)]) (e 10 (by omega)) (e 11 (by omega)) (e 92 (by omega)) (e 93 (by omega)), h4.cong (fun k a b => e k (by omega)) (e 109 (by omega)) (e 110 (by omega)), hE⟩
theorem sign_out {y : Int32} : (y < nI 33 ∨ ¬ y ≤ nI 126) ↔ ¬ (33 ≤ y.toInt ∧ y.toInt ≤ 126) := by
  rw [Int32.lt_iff_toInt_lt, Int32.le_iff_toInt_le, toInt_n (by omega), toInt_n (by omega)]
  omega
/-- a text of routine r has become w, n; what the class read of it stands -/
theorem TX.new {u v t : MU} {r n : Nat} {w : Nat → Int32} (h : TX u) (hr : r < 6) (hn : n ≤ 30) (hv : rOK v (30 + 8 * r) w n) (hf : ∀ k : Nat, (30 ≤ k ∧ k ≤ 77) → (k < 30 + 8 * r ∨ 30 + 8 * r + 7 < k) → v k = u k) (ht : ∀ k : Nat, 30 ≤ k ∧ k ≤ 77 → t k = v k) (hw : tW t r = w) (hN : t 90 r = nI n) (h90 : ∀ s : Nat, s < 6 → s ≠ r → t 90 s = u 90 s) (h89 : ∀ s : Nat, s < 6 → s ≠ r → tW t s = tW u s) : TX t := by
  intro s hs
  by_cases hsr : s = r
  · subst hsr
    have e : tN t s = n := by unfold tN; rw [hN, nc_ (by omega)]
    rw [e, hw]
    exact ⟨hn, hN, hv.cong (fun k a b => ht k (by omega))⟩
  · have e : tN t s = tN u s := by unfold tN; rw [h90 s hs hsr]
    obtain ⟨g1, g2, g3⟩ := h s hs
    rw [e, h89 s hs hsr, h90 s hs hsr]
    exact ⟨g1, g2, g3.cong (fun k a b => by rw [ht k (by omega), hf k (by omega) (by omega)])⟩
theorem op_say (x y : Int32) : Same (f_X6_say x y) (f_X7_say x y) := by
  intro u h
  rcases rg x 6 (by omega) with hx | ⟨r, hr, rfl⟩
  · refine ⟨-1, u, u, ?_, ?_, h⟩
    · rw [f_X6_say, mBe (wi_out hx u), if_pos rfl]
    · rw [f_X7_say, mBe (isR_out hx u), if_pos rfl]
  · obtain ⟨g1, g2, g3⟩ := h.1 r hr
    by_cases hy : 33 ≤ y.toInt ∧ y.toInt ≤ 126
    · have hy1 : ¬ y < nI 33 := fun q => (sign_out.mp (Or.inl q)) hy
      have hy2 : y ≤ nI 126 := Classical.byContradiction fun q => (sign_out.mp (Or.inr q)) hy
      have hin : ∀ v : MU, f_X7_in y.toInt64 33 126 v = some (1, v) := fun v => by rw [in_s y 33 126 33 126 (by decide) (by decide), if_pos hy]
      by_cases hf : tN u r = 30
      · refine ⟨-4, u, u, ?_, ?_, h⟩
        · rw [f_X6_say, mBe (wi_in hr (by omega) u), if_neg (by decide), if_neg hy1, if_pos hy2, gdt (ix_ hr (by omega)), rtn_n (by omega), g3.1.2.1, hf, if_neg (by decide)]
        · rw [f_X7_say, mBe (isR_in hr u), if_neg (by decide), mBe (hin u), if_neg (by decide), gdt (ix_ hr (by omega)), nc_ (by omega), g2, hf, if_pos rfl]
      · have hn : tN u r < 30 := by omega
        generalize hq : 30 + 8 * r = q at g3
        have hcT : cT (mup (mup u (q + 1) (tN u r) y) q 1 (nI (tN u r + 1))) q (upd (tW u r) (tN u r) y) (tN u r + 1) := by
          refine ⟨by omega, mup_self, fun j hj => ?_⟩
          rw [mup_ne (by omega)]
          by_cases e : j = tN u r
          · subst e; rw [mup_self, pk_us]
          · rw [mup_sne e, pk_un e]; exact g3.1.2.2 j (by omega)
        obtain ⟨v, e1, e2, e3⟩ := readT_s hcT
        have a1 : u q 1 = nI (tN u r) := g3.1.2.1
        have ea : f_X5_append q y u = some (0, v) := by
          rw [f_X5_append, a1, if_neg (fun z => absurd ((le_ (by omega) (by omega)).mp z) (by omega)), gdt (ix_ hn (by omega)), nc_ (by omega), mSe, mup_ne (by omega), a1, nI_1, mSe, mBe e1]
        have vk : ∀ k : Nat, (k < q ∨ q + 7 < k) → v k = u k := fun k hk => by rw [e2 k (by omega), mup_ne (by omega), mup_ne (by omega)]
        refine ⟨nI (tN u r + 1), mup v 2 5 0, mup (mup (mup v 2 5 0) 89 (30 * r + tN u r) y) 90 r (nI (tN u r + 1)), ?_, ?_, ?_⟩
        · rw [f_X6_say, mBe (wi_in hr (by omega) u), if_neg (by decide), if_neg hy1, if_pos hy2, gdt (ix_ hr (by omega)), rtn_n (by omega), hq, a1, if_pos ((lt_ (by omega) (by omega)).mpr hn), gdt (ix_ hr (by omega)), mBe ea]
          rw [mBe (show f_X0_forget v = some (0, mup v 2 5 0) from rfl), gdt (ix_ hr (by omega)), mup_ne (by omega), e3.1.2.1]
        · have b1 : mup v 2 5 0 90 r = nI (tN u r) := by rw [mup_ne (by decide), vk 90 (by omega)]; exact g2
          have b2 : mup (mup v 2 5 0) 89 (30 * r + tN u r) y 90 r = nI (tN u r) := by rw [mup_ne (by decide)]; exact b1
          rw [f_X7_say, mBe (isR_in hr _), if_neg (by decide), mBe (hin _), if_neg (by decide), gdt (ix_ hr (by omega)), nc_ (by omega), b1, if_neg (fun z => hf ((eq_ (by omega) (by omega)).mp z)), gdt (ix_ hr (by omega)), mul_, nI_add, gdt (ix_ (by omega) (by omega)), mSe, nc_ (by omega), gdt (ix_ hr (by omega)), gdt (ix_ hr (by omega)), b2, nI_1, mSe, gdt (ix_ hr (by omega)), mup_self]
        · have ek : ∀ k : Nat, k ≠ 2 → k ≠ 89 → k ≠ 90 → mup (mup (mup v 2 5 0) 89 (30 * r + tN u r) y) 90 r (nI (tN u r + 1)) k = v k := fun k k1 k2 k3 => by rw [mup_ne k3, mup_ne k2, mup_ne k1]
          have e89 : ∀ i : Nat, mup (mup (mup v 2 5 0) 89 (30 * r + tN u r) y) 90 r (nI (tN u r + 1)) 89 i = if i = 30 * r + tN u r then y else u 89 i := fun i => by
            rw [mup_ne (by decide), mup_get, if_pos rfl, mup_ne (by decide), vk 89 (by omega)]
          refine h.mk2 (h.1.new hr (n := tN u r + 1) (by omega) (hq ▸ e3) (fun k _ k2 => vk k (by omega)) (fun k hk => ek k (by omega) (by omega) (by omega)) ?_ mup_self ?_ ?_) (Or.inl ?_) ?_
          · funext j
            show (if j < 30 then _ else _) = _
            rw [e89]
            by_cases j30 : j < 30
            · rw [if_pos j30]
              by_cases e : j = tN u r
              · subst e; rw [if_pos rfl, pk_us]
              · rw [if_neg (by omega), pk_un e]; unfold tW; rw [if_pos j30]
            · rw [if_neg j30, pk_un (by omega)]; unfold tW; rw [if_neg j30]
          · intro s hs hsr
            rw [mup_sne hsr, mup_ne (by decide), mup_ne (by decide), vk 90 (by omega)]
          · intro s hs hsr
            funext j
            show (if j < 30 then _ else _) = _
            unfold tW
            rw [e89]
            by_cases j30 : j < 30
            · rw [if_pos j30, if_pos j30, if_neg (by omega)]
            · rw [if_neg j30, if_neg j30]
          · rw [mup_ne (by decide), mup_ne (by decide), mup_self]
          · intro k hk
            rw [ek k (by omega) (by omega) (by omega), vk k (by omega)]
    · refine ⟨-2, u, u, ?_, ?_, h⟩
      · rw [f_X6_say, mBe (wi_in hr (by omega) u), if_neg (by decide)]
        rcases sign_out.mpr hy with q | q
        · rw [if_pos q]
        · by_cases q1 : y < nI 33
          · rw [if_pos q1]
          · rw [if_neg q1, if_neg q]
      · rw [f_X7_say, mBe (isR_in hr u), if_neg (by decide), mBe (in_s y 33 126 33 126 (by decide) (by decide) u), if_neg hy, if_pos rfl]
theorem op_wipe (x : Int32) : Same (f_X6_wipe x) (f_X7_wipe x) := by
  intro u h
  rcases rg x 6 (by omega) with hx | ⟨r, hr, rfl⟩
  · refine ⟨-1, u, u, ?_, ?_, h⟩
    · rw [f_X6_wipe, mBe (wi_out hx u), if_pos rfl]
    · rw [f_X7_wipe, mBe (isR_out hx u), if_pos rfl]
  · obtain ⟨g1, g2, g3⟩ := h.1 r hr
    generalize hq : 30 + 8 * r = q at g3
    have hcT : cT (mup u q 1 0) q (tW u r) 0 := ⟨by omega, mup_self, fun j hj => absurd hj (by omega)⟩
    obtain ⟨v, e1, e2, e3⟩ := readT_s hcT
    have ea : f_X5_empty q u = some (0, v) := by rw [f_X5_empty, mSe, mBe e1]
    have vk : ∀ k : Nat, (k < q ∨ q + 7 < k) → v k = u k := fun k hk => by rw [e2 k (by omega), mup_ne (by omega)]
    refine ⟨nI (tN u r), mup v 2 5 0, mup (mup v 2 5 0) 90 r 0, ?_, ?_, ?_⟩
    · rw [f_X6_wipe, mBe (wi_in hr (by omega) u), if_neg (by decide), gdt (ix_ hr (by omega)), gdt (ix_ hr (by omega)), rtn_n (by omega), hq, mBe ea, mBe (show f_X0_forget v = some (0, mup v 2 5 0) from rfl), g3.1.2.1]
    · have b1 : mup v 2 5 0 90 r = nI (tN u r) := by rw [mup_ne (by decide), vk 90 (by omega)]; exact g2
      rw [f_X7_wipe, mBe (isR_in hr _), if_neg (by decide), gdt (ix_ hr (by omega)), gdt (ix_ hr (by omega)), mSe, nc_ (by omega), b1]
    · have ek : ∀ k : Nat, k ≠ 2 → k ≠ 90 → mup (mup v 2 5 0) 90 r 0 k = v k := fun k k1 k3 => by rw [mup_ne k3, mup_ne k1]
      have e89 : mup (mup v 2 5 0) 90 r 0 89 = u 89 := by rw [ek 89 (by decide) (by decide), vk 89 (by omega)]
      refine h.mk2 (h.1.new hr (n := 0) (by omega) (hq ▸ e3) (fun k _ k2 => vk k (by omega)) (fun k hk => ek k (by omega) (by omega)) (by rw [tW_cong e89]) mup_self ?_ (fun s _ _ => by rw [tW_cong e89])) (Or.inl ?_) ?_
      · intro s hs hsr
        rw [mup_sne hsr, mup_ne (by decide), vk 90 (by omega)]
      · rw [mup_ne (by decide), mup_self]
      · intro k hk
        rw [ek k (by omega) (by omega), vk k (by omega)]
theorem fmod_s (x : Int32) (u : MU) : ∃ r : Int32, f_J9_floorMod_7cf53 x (nI 10) u = some (r, u) := by
  rw [f_J9_floorMod_7cf53, gdt (by decide)]
  by_cases c : 0 ≤ x ^^^ nI 10
  · rw [if_pos c]; exact ⟨_, rfl⟩
  · rw [if_neg c]
    by_cases c2 : irm x (nI 10) = 0
    · rw [if_pos c2]; exact ⟨_, rfl⟩
    · rw [if_neg c2]; exact ⟨_, rfl⟩
theorem fmod_n {k : Nat} (h : k < 40) (u : MU) : f_J9_floorMod_7cf53 (nI k) (nI 10) u = some (nI (k % 10), u) := by
  have e : ∀ k : Nat, k < 40 → 0 ≤ nI k ^^^ nI 10 := by decide +kernel
  rw [f_J9_floorMod_7cf53, gdt (by decide), if_pos (e k h), irm_ (by omega) (by omega) (by omega)]
theorem pA_flt {w : Nat → Int32} {n b : Nat} (h : (pA w n 31 0).2 = some b) : b ≤ n := by
  have : ∀ (f a : Nat), a ≤ n → (pA w n f a).2 = some b → b ≤ n := by
    intro f
    induction f with
    | zero => intro a _ q; cases q
    | succ f ih =>
      intro a ha q
      rw [pA] at q
      by_cases hl : a < n
      · rw [if_pos hl] at q
        obtain ⟨p1, p2, -⟩ := pS_le (w := w) hl
        cases hp : pS w n a with
        | mk b' o =>
          rw [hp] at q p1 p2
          cases o with
          | none => cases q; exact p2
          | some st => exact ih b' p2 q
      · rw [if_neg hl] at q; cases q
  exact this 31 0 (Nat.zero_le _) h
theorem op_count (x : Int32) : Same (f_X6_count x) (f_X7_count x) := by
  intro u h
  by_cases h0 : x = 0
  · refine ⟨u 9 2, u, u, ?_, ?_, h⟩
    · rw [f_X6_count, if_pos h0]
    · rw [f_X7_count, if_pos h0, h.2.2.1.1]
  · by_cases hx : 10 ≤ x.toInt ∧ x.toInt ≤ 39
    · obtain ⟨k, hk, rfl⟩ := nI_of (x := x) (fun q => by have q2 := Int32.lt_iff_toInt_lt.mp q; rw [show (0 : Int32).toInt = 0 from rfl] at q2; omega)
      rw [nI_toInt hk] at hx
      have e1 : ¬ nI k < nI 10 := by rw [lt_ (by omega) (by omega)]; omega
      have e2 : ¬ nI 40 ≤ nI k := by rw [le_ (by omega) (by omega)]; omega
      by_cases hr : k % 10 < 6
      · have hin : ∀ v : MU, f_X7_in (nI k).toInt64 10 35 v = some (1, v) := fun v => by rw [in_s _ 10 35 10 35 (by decide) (by decide), toInt_n (by omega), if_pos (by omega)]
        obtain ⟨g1, g2, g3⟩ := h.1 (k % 10) hr
        have c0 : f_X6_count (nI k) u = gd (mIx (nI (k % 10)) 6) (if nI 20 ≤ nI k then (if u (30 + 8 * (k % 10)) 2 = -6 then (if nI 30 ≤ nI k then mB (f_X5_calleeBits (30 + 8 * (k % 10)) u) (fun r10 u10 => some (r10, u10)) else some (u (30 + 8 * (k % 10)) 7, u)) else some (-6, u)) else some (u (30 + 8 * (k % 10)) 1, u)) := by
          rw [f_X6_count, if_neg h0, mBe (fmod_n (by omega) u), if_neg e1, if_neg e2, if_pos ((lt_ (by omega) (by omega)).mpr hr), rtn_n (by omega)]
        have d0 : f_X7_count (nI k) u = (if nI 20 ≤ nI k then (if nI 30 ≤ nI k then mB (f_X7_faultOf (nI (k % 10)) u) (fun r8 u8 => if 0 ≤ r8 then some (-6, u8) else mB (f_X7_callsOf (nI (k % 10)) u8) (fun r10 u10 => some (r10, u10))) else mB (f_X7_statementsOf (nI (k % 10)) u) (fun r11 u11 => some (r11, u11))) else gd (mIx (nI (k % 10)) 6) (some (u 90 (k % 10), u))) := by
          rw [f_X7_count, if_neg h0, mBe (hin u), if_neg (by decide), irm_ (by omega) (by omega) (by omega), mBe (isR_in hr u), if_neg (by decide), nc_ (by omega)]
        rw [gdt (ix_ hr (by omega))] at c0
        by_cases k20 : 20 ≤ k
        · rw [if_pos ((le_ (by omega) (by omega)).mpr k20)] at c0 d0
          by_cases k30 : 30 ≤ k
          · rw [if_pos ((le_ (by omega) (by omega)).mpr k30)] at c0 d0
            obtain ⟨v, m1, m2⟩ := faultOf_s hr g1 g2 (h.1.text hr)
            obtain ⟨t, n1, n2⟩ := callsOf_s (u := v) (r := k % 10) (w := tW u (k % 10)) hr g1 (by rw [m2.1 90 (by decide)]; exact g2) (fun j hj => by rw [m2.1 89 (by decide)]; exact h.1.text hr j hj)
            rw [mBe m1] at d0
            rw [g3.2.1, cbits_s g3] at c0
            cases hf : (pA (tW u (k % 10)) (tN u (k % 10)) 31 0).2 with
            | none =>
              rw [hf] at c0 d0
              rw [if_pos (show oF none = -6 from rfl), mBs] at c0
              rw [if_neg (by decide), mBe n1] at d0
              exact ⟨_, u, t, c0, d0, h.scr (m2.scr.tr n2.scr)⟩
            | some b =>
              rw [hf] at c0 d0
              have hb : ¬ oF (some b) = -6 ∧ (0 ≤ oF (some b)) := by
                have hb30 : b < 1000000 := by
                  have := pA_flt hf
                  omega
                constructor
                · intro q
                  have := congrArg Int32.toInt q
                  rw [show oF (some b) = nI b from rfl, toInt_n hb30, show (-6 : Int32).toInt = -6 from rfl] at this
                  omega
                · exact (z0_ hb30).mpr trivial
              rw [if_neg hb.1] at c0
              rw [if_pos hb.2] at d0
              exact ⟨_, u, v, c0, d0, h.scr m2.scr⟩
          · rw [if_neg (fun q => k30 ((le_ (by omega) (by omega)).mp q))] at c0 d0
            obtain ⟨v, m1, m2⟩ := manyOf_s hr g1 g2 (h.1.text hr)
            rw [mBe m1] at d0
            rw [g3.2.1] at c0
            cases hf : (pA (tW u (k % 10)) (tN u (k % 10)) 31 0).2 with
            | none =>
              rw [hf] at c0 d0
              rw [if_pos (show oF none = -6 from rfl), g3.2.2.1] at c0
              exact ⟨_, u, v, c0, d0, h.scr m2.scr⟩
            | some b =>
              rw [hf] at c0 d0
              by_cases hq : oF (some b) = -6
              · have := congrArg Int32.toInt hq
                exfalso
                have hb30 : b < 1000000 := by
                  have := pA_flt hf
                  omega
                rw [show oF (some b) = nI b from rfl, toInt_n hb30, show (-6 : Int32).toInt = -6 from rfl] at this
                omega
              · rw [if_neg hq] at c0
                exact ⟨_, u, v, c0, d0, h.scr m2.scr⟩
        · rw [if_neg (fun q => k20 ((le_ (by omega) (by omega)).mp q))] at c0 d0
          rw [gdt (ix_ hr (by omega)), g2] at d0
          rw [g3.1.2.1] at c0
          exact ⟨_, u, u, c0, d0, h⟩
      · refine ⟨-2, u, u, ?_, ?_, h⟩
        · rw [f_X6_count, if_neg h0, mBe (fmod_n (by omega) u), if_neg e1, if_neg e2, if_neg (fun q => hr ((lt_ (by omega) (by omega)).mp q))]
        · rw [f_X7_count, if_neg h0, mBe (in_s _ 10 35 10 35 (by decide) (by decide) u), toInt_n (by omega)]
          by_cases k35 : k ≤ 35
          · rw [if_pos (show (10 : Int) ≤ (k : Int) ∧ (k : Int) ≤ 35 by omega), if_neg (by decide), irm_ (by omega) (by omega) (by omega), mBe (isR_out (Or.inr ((le_ (by omega) (by omega)).mpr (by omega))) u), if_pos rfl]
          · rw [if_neg (show ¬ ((10 : Int) ≤ (k : Int) ∧ (k : Int) ≤ 35) by omega), if_pos rfl]
    · refine ⟨-2, u, u, ?_, ?_, h⟩
      · obtain ⟨r, hr⟩ := fmod_s x u
        rw [f_X6_count, if_neg h0, mBe hr]
        by_cases c1 : x < nI 10
        · rw [if_pos c1]
        · rw [if_neg c1, if_pos]
          rw [Int32.lt_iff_toInt_lt, toInt_n (by omega)] at c1
          rw [Int32.le_iff_toInt_le, toInt_n (by omega)]
          omega
      · rw [f_X7_count, if_neg h0, mBe (in_s _ 10 35 10 35 (by decide) (by decide) u), if_neg (show ¬ (10 ≤ x.toInt ∧ x.toInt ≤ 35) by omega), if_pos rfl]
