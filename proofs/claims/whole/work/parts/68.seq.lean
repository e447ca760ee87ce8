theorem mrun {u0 : MU} (hT : TX u0) (hK : KN u0) : ∀ (D p : Nat), 1 ≤ p → p + D = 20 → ∀ (r x : Nat) (V : Nat → Nat) (s : Nat) (u : MU), r < 6 → u0 7 r = 1 → x < 12 → s ≤ 200 → mP u0 u p V s → u 105 (p - 1) = nI r → u 106 (p - 1) = 0 → u 107 (p - 1) = nI x → mO u0 p s u (rnR (ssOf u0) (D + 1) r x V s) := by
  intro D
  induction D with
  | zero =>
    intro p hp hD r x V s u hr hk hx hs hm g1 g2 g3
    have hn := (hT r hr).1
    rw [rnR]
    exact mrL (D := 0) hT hp hD hr hx (fun _ _ _ _ _ _ _ _ _ h => by omega) 30 0 31 V s u (by omega) (by omega) (by omega) hs (hK.2.1 r hr hk).1 (hK.2.1 r hr hk).2 hm g1 g2 g3
  | succ D ih =>
    intro p hp hD r x V s u hr hk hx hs hm g1 g2 g3
    have hn := (hT r hr).1
    rw [rnR]
    exact mrL (D := D + 1) hT hp hD hr hx (fun r' x' V s u a1 a2 a3 a4 _ a6 a7 a8 a9 => ih (p + 1) (by omega) (by omega) r' x' V s u a1 a2 a3 a4 a6 a7 a8 a9) 30 0 31 V s u (by omega) (by omega) (by omega) hs (hK.2.1 r hr hk).1 (hK.2.1 r hr hk).2 hm g1 g2 g3
theorem doCall_s {u : MU} (hT : TX u) (hK : KN u) {c r x : Nat} {V : Nat → Nat} (hc : c < 16) (h92 : u 92 c = nI r) (h93 : u 93 c = nI x) (hr : r < 6) (hx : x < 12) (hk : u 7 r = 1) (h99 : rwV u 99 V) (hV : VOK V) : ∃ v : MU, f_X7_doCall (nI c) u = some (nI (rnR (ssOf u) 20 r x V 0).1, v) ∧ (rnR (ssOf u) 20 r x V 0).1 ≤ 2 ∧ rF u v ∧ (¬ (rnR (ssOf u) 20 r x V 0).1 = 2 → rwV v 99 (rnR (ssOf u) 20 r x V 0).2.1 ∧ VOK (rnR (ssOf u) 20 r x V 0).2.1 ∧ v 88 31 = nI (rnR (ssOf u) 20 r x V 0).2.2 ∧ (rnR (ssOf u) 20 r x V 0).2.2 ≤ 200) := by
  have ic := ix_ hc (show (16 : Nat) < 1000 by omega)
  have e30 : mup (mup u 88 30 0) 88 31 0 88 30 = nI 0 := by rw [mup_sne (by decide), mup_self]; rfl
  rw [f_X7_doCall, mSe, mSe, gdt ic, gdt ic, nc_ (by omega), mup_ne (by decide), mup_ne (by decide), mup_ne (by decide), mup_ne (by decide), h92, h93, mBe (push_s (by omega) e30)]
  generalize hz : mup (mup (mup (mup (mup (mup u 88 30 0) 88 31 0) 105 0 (nI r)) 106 0 0) 107 0 (nI x)) 88 30 (nI (0 + 1)) = z
  have hP : mP u z 1 V 0 := by
    rw [← hz]
    refine ⟨((((((rF.rf u).u88 (by omega)).u88 (by omega)).up (by omega)).up (by omega)).up (by omega)).u88 (by omega), mup_self, fun j hj => ?_, hV, ?_⟩
    · rw [mup_ne (by decide), mup_ne (by decide), mup_ne (by decide), mup_ne (by decide), mup_ne (by decide), mup_ne (by decide)]; exact h99 j hj
    · rw [mup_sne (by decide), mup_ne (by decide), mup_ne (by decide), mup_ne (by decide), mup_self]; rfl
  have hrun := mrun hT hK 19 1 (by omega) (by omega) r x V 0 z hr hk hx (by omega) hP (by rw [← hz, mup_ne (by decide), mup_ne (by decide), mup_ne (by decide), mup_self]) (by rw [← hz, mup_ne (by decide), mup_ne (by decide), mup_self]) (by rw [← hz, mup_ne (by decide), mup_self])
  rw [show 19 + 1 = 20 from rfl] at hrun
  generalize rnR (ssOf u) 20 r x V 0 = R at hrun
  rcases hrun with ⟨a1, a2, a3, k, v, a4, a5, a6, a7⟩ | ⟨a1, k, v, a2, a3, a4, a5, a6, a7, a8⟩ | ⟨a1, k, v, a2, a3, a4⟩
  · refine ⟨v, ?_, by omega, a6.1, fun _ => ⟨a6.2.2.1, a6.2.2.2.1, a6.2.2.2.2, a3⟩⟩
    have e : FU = (FU - k - 1 + 1) + k := by unfold FU; omega
    rw [e, a5, l_X7_doCall_26, b_X7_doCall_26, a6.2.1, if_pos (show nI (1 - 1) ≤ 0 from (z1_ (by omega)).mpr rfl), a1]
    rfl
  · refine ⟨v, ?_, by omega, a4, fun _ => ⟨a5, a6, a7, a8⟩⟩
    have e : FU = (FU - k) + k := by unfold FU; omega
    rw [e, a3, a1]
    rfl
  · refine ⟨v, ?_, by omega, a4, fun h => absurd a1 h⟩
    have e : FU = (FU - k) + k := by unfold FU; omega
    rw [e, a3, a1]
theorem ah_1 {S a b : Nat → Nat} {d c : Nat} : ah 1 S a b d c = if S d = S c then decide (c < d) else decide (S d < S c) := by
  unfold ah
  rw [if_neg (show ¬ (1 : Nat) = 0 by decide), if_pos (show (1 : Nat) = 1 from rfl)]
theorem kth_s {u : MU} {m how k c0 : Nat} {a b : Nat → Nat} {B : Nat → Nat → Bool} (h : SY m a b B u) (hh : how ≤ 2) (hk : k < m) (hc0 : c0 < m) (hpos : pos how (stg B) a b m c0 = k) : f_X7_kth (nI how) (nI k) u = some (nI c0, u) := by
  obtain ⟨h1, h2, h3⟩ := h
  have hm := h1.2.1
  have hst := ah_sto how (stg B) a b
  have hst2 := ah_sto 2 (stg B) a b
  -- the inner loop counts who goes ahead of c
  have inner : ∀ (c : Nat) (k2 : Int32 → MU → mR), c < m → l_X7_kth_16 k2 (nI how) (nI k) FU (nI c) 0 0 u = if pos how (stg B) a b m c = k then some (nI c, u) else k2 (nI (c + 1)) u := by
    intro c k2 hc
    have hpc : pos how (stg B) a b m c < m := hst.bound hc
    rw [show l_X7_kth_16 k2 (nI how) (nI k) FU (nI c) 0 0 u = l_X7_kth_16 k2 (nI how) (nI k) FU (nI c) (nI 0) (nI 0) u from rfl]
    refine for_s (L := fun F i (n : Nat) u => l_X7_kth_16 k2 (nI how) (nI k) F (nI c) (nI n) (nI i) u) (Q := fun r => r = if pos how (stg B) a b m c = k then some (nI c, u) else k2 (nI (c + 1)) u) (I := fun i n v => v = u ∧ n = cnt (fun d => ah how (stg B) a b d c) i) (m := m) ?_ ?_ 0 0 u FU (by omega) ⟨rfl, rfl⟩ (by unfold FU; omega)
    · rintro F i n v hi ⟨rfl, rfl⟩
      right
      have ic := ix_ (show c < 16 by omega) (show (16 : Nat) < 1000 by omega)
      have ii := ix_ (show i < 16 by omega) (show (16 : Nat) < 1000 by omega)
      have sc := stg16 (B := B) hm hc
      have si := stg16 (B := B) hm hi
      have go : ∀ y : Bool, y = ah how (stg B) a b i c → ∃ (a' : Nat) (u' : MU), l_X7_kth_16 k2 (nI how) (nI k) F (nI c) (nI (cnt (fun d => ah how (stg B) a b d c) i) + (if y = true then 1 else 0)) (nI (i + 1)) v = l_X7_kth_16 k2 (nI how) (nI k) F (nI c) (nI a') (nI (i + 1)) u' ∧ u' = v ∧ a' = cnt (fun d => ah how (stg B) a b d c) (i + 1) := by
        intro y hy
        refine ⟨cnt (fun d => ah how (stg B) a b d c) (i + 1), v, ?_, rfl, rfl⟩
        rw [cnt, ← hy]
        cases y with
        | true => rw [if_pos rfl, if_pos rfl, nI_1]
        | false =>
          rw [if_neg (by decide), if_neg (by decide), Int32.add_zero]
          rfl
      -- what is staged
      have sg : b_X7_kth_16 k2 (fun x3 x4 x5 u => l_X7_kth_16 k2 (nI how) (nI k) F x3 x4 x5 u) (nI how) (nI k) (nI c) (nI (cnt (fun d => ah how (stg B) a b d c) i)) (nI i) v = b_X7_kth_68 k2 (fun x3 x4 x5 u => l_X7_kth_16 k2 (nI how) (nI k) F x3 x4 x5 u) (nI how) (nI k) (nI c) (nI (cnt (fun d => ah how (stg B) a b d c) i)) (nI i) (if ah 1 (stg B) a b i c = true then 1 else 0) v := by
        rw [b_X7_kth_16, h1.1, if_neg (fun z => absurd ((le_ (by omega) (by omega)).mp z) (by omega)), gdt ii, gdt ic, nc_ (by omega), nc_ (by omega), h2 i hi, h2 c hc, gdt ii, gdt ic]
        rw [ah_1]
        by_cases l : stg B i < stg B c
        · rw [if_pos ((lt_ (by omega) (by omega)).mpr l), b_X7_kth_63, if_neg (show ¬ stg B i = stg B c by omega), if_pos (by simpa using l)]
        · rw [if_neg (fun z => l ((lt_ (by omega) (by omega)).mp z))]
          by_cases e : stg B i = stg B c
          · rw [if_pos (show nI (stg B i) = nI (stg B c) by rw [e]), if_pos e]
            by_cases g : c < i
            · rw [if_neg (fun z => absurd ((le_ (by omega) (by omega)).mp z) (by omega)), b_X7_kth_63, if_pos (by simpa using g)]
            · rw [if_pos ((le_ (by omega) (by omega)).mpr (by omega)), b_X7_kth_67, if_neg (by simpa using g)]
          · rw [if_neg (fun z => e ((eq_ (by omega) (by omega)).mp z)), b_X7_kth_67, if_neg e, if_neg (by simpa using l)]
      rw [l_X7_kth_16, sg, b_X7_kth_68]
      rcases (show how = 0 ∨ how = 1 ∨ how = 2 by omega) with rfl | rfl | rfl
      · rw [if_pos (show nI 0 = 0 from rfl)]
        by_cases g : i < c
        · rw [if_neg (fun z => absurd ((le_ (by omega) (by omega)).mp z) (by omega)), b_X7_kth_129, nI_1 i]
          exact go true (by unfold ah; rw [if_pos rfl]; simp [g])
        · rw [if_pos ((le_ (by omega) (by omega)).mpr (by omega)), b_X7_kth_129, nI_1 i]
          exact go false (by unfold ah; rw [if_pos rfl]; simp; omega)
      · rw [if_neg (show ¬ nI 1 = 0 by decide), if_pos (show nI 1 = 1 from rfl)]
        by_cases g : ah 1 (stg B) a b i c = true
        · rw [if_pos g, if_neg (by decide), b_X7_kth_129, nI_1 i]
          exact go true g.symm
        · rw [if_neg g, if_pos rfl, b_X7_kth_129, nI_1 i]
          exact go false (by simpa using g)
      · have pc : pos 2 (stg B) a b m c < m := hst2.bound hc
        have pi : pos 2 (stg B) a b m i < m := hst2.bound hi
        have iff := hst2.iff (m := m) hc hi
        rw [if_neg (show ¬ nI 2 = 0 by decide), if_neg (show ¬ nI 2 = 1 by decide), gdt ii, gdt ic, nc_ (by omega), nc_ (by omega), h3 i hi, h3 c hc]
        by_cases g : pos 2 (stg B) a b m i < pos 2 (stg B) a b m c
        · rw [if_neg (fun z => absurd ((le_ (by omega) (by omega)).mp z) (by omega)), b_X7_kth_129, nI_1 i]
          exact go true (iff.mpr g).symm
        · rw [if_pos ((le_ (by omega) (by omega)).mpr (by omega)), b_X7_kth_129, nI_1 i]
          exact go false (by
            cases q : ah 2 (stg B) a b i c with
            | false => rfl
            | true => exact absurd (iff.mp q) g)
    · rintro F n v ⟨rfl, rfl⟩
      have e : cnt (fun d => ah how (stg B) a b d c) m = pos how (stg B) a b m c := rfl
      rw [l_X7_kth_16, b_X7_kth_16, h1.1, if_pos ((le_ (by omega) (by omega)).mpr (by omega)), e]
      by_cases q : pos how (stg B) a b m c = k
      · rw [if_pos (by rw [q]), if_pos q]
      · rw [if_neg (fun z => q ((eq_ (by omega) (by omega)).mp z)), if_neg q, nI_1]
  rw [f_X7_kth, show l_X7_kth_2 (nI how) (nI k) FU 0 u = l_X7_kth_2 (nI how) (nI k) FU (nI 0) u from rfl]
  refine for_s (L := fun F i (_ : Unit) u => l_X7_kth_2 (nI how) (nI k) F (nI i) u) (Q := fun r => r = some (nI c0, u)) (I := fun i _ v => v = u ∧ i ≤ c0) (m := m) ?_ ?_ 0 () u FU (by omega) ⟨rfl, by omega⟩ (by unfold FU; omega)
  · rintro F i _ v hi ⟨rfl, hI⟩
    rw [l_X7_kth_2, b_X7_kth_2, h1.1, if_neg (fun z => absurd ((le_ (by omega) (by omega)).mp z) (by omega)), inner i _ hi]
    by_cases q : pos how (stg B) a b m i = k
    · left
      rw [if_pos q, hst.inj hi hc0 (by rw [← hpos] at q; exact q)]
    · right
      rw [if_neg q]
      refine ⟨(), v, rfl, rfl, ?_⟩
      have : i ≠ c0 := fun e => q (by rw [e]; exact hpos)
      omega
  · rintro F _ v ⟨rfl, hI⟩
    omega
/-- calls are done one after another: places, who threw, how many, steps -/
def rnS (ss : Nat → List pSt) (a b ord : Nat → Nat) (V0 : Nat → Nat) : Nat → Option ((Nat → Nat) × (Nat → Nat) × Nat × Nat)
  | 0 => some (V0, (fun _ => 0), 0, 0)
  | i + 1 => match rnS ss a b ord V0 i with
    | none => none
    | some (V, T, t, S) => if (rnR ss 20 (a (ord i)) (b (ord i)) V 0).1 = 2 then none else some ((rnR ss 20 (a (ord i)) (b (ord i)) V 0).2.1, (if (rnR ss 20 (a (ord i)) (b (ord i)) V 0).1 = 1 then upN T t (ord i) else T), (if (rnR ss 20 (a (ord i)) (b (ord i)) V 0).1 = 1 then t + 1 else t), S + (rnR ss 20 (a (ord i)) (b (ord i)) V 0).2.2)
theorem rnS_none {ss : Nat → List pSt} {a b ord V0 : Nat → Nat} {i : Nat} (h : rnS ss a b ord V0 i = none) : ∀ d : Nat, rnS ss a b ord V0 (i + d) = none := by
  intro d
  induction d with
  | zero => exact h
  | succ d ih => rw [← Nat.add_assoc, rnS, ih]
/-- what a run has left so far: in the row k of places, the row q of throwers -/
def rSt (V T : Nat → Nat) (t S i : Nat) (v : MU) (k q : Nat) (x y : Int32) : Prop := rwV v k V ∧ VOK V ∧ x = nI t ∧ t ≤ i ∧ (∀ j : Nat, j < t → v q j = nI (T j)) ∧ y = nI S ∧ S ≤ 200 * i
def cRn (u v : MU) : Prop := ∀ k : Nat, k ≠ 27 → k ≠ 28 → k ≠ 29 → v k = u k
theorem perf_s {u : MU} (hT : TX u) (hK : KN u) {m : Nat} {a b ord V0 : Nat → Nat} (hl : lz u 9 m a b) (hk : ∀ j : Nat, j < m → u 7 (a j) = 1) (ho : ∀ i : Nat, i < m → ord i < m ∧ u 19 i = nI (ord i)) (hV0 : VOK V0) (h8 : rwV u 8 V0) : ∃ v : MU, cRn u v ∧ ((f_X3_perform 9 19 8 u = some (0, v) ∧ rnS (ssOf u) a b ord V0 m = none) ∨ ∃ (V T : Nat → Nat) (t S : Nat), f_X3_perform 9 19 8 u = some (1, v) ∧ rnS (ssOf u) a b ord V0 m = some (V, T, t, S) ∧ rSt V T t S m v 28 29 (v 27 2) (v 27 3)) := by
  have hm := hl.2.1
  generalize hz : mup (mup (mrow u 28 (va_cpy (u 8) (u 28) (0 : Int32).toNatClampNeg (0 : Int32).toNatClampNeg (nI 18 : Int32).toNatClampNeg)) 27 2 0) 27 3 0 = z
  have zk : cRn u z := fun k h1 h2 _ => by rw [← hz, mup_ne h1, mup_ne h1, mrow_get, if_neg h2]
  have z28 : rwV z 28 V0 := fun j hj => by
    rw [← hz, mup_ne (by decide), mup_ne (by decide), mrow_get, if_pos rfl]
    have e : va_cpy (u 8) (u 28) 0 0 18 j = u 8 j := cpy_in hj
    rw [show (0 : Int32).toNatClampNeg = 0 from rfl, show (nI 18).toNatClampNeg = 18 from nc_ (by omega), e]
    exact h8 j hj
  have z2 : z 27 2 = nI 0 := by rw [← hz, mup_sne (by decide), mup_self]; rfl
  have z3 : z 27 3 = nI 0 := by rw [← hz, mup_self]; rfl
  have hd : decide ((0 : Int32).toNatClampNeg + (nI 18 : Int32).toNatClampNeg ≤ mLen 8) = true := by decide
  rw [f_X3_perform, gdt hd, mSe, mSe, mSe, hz, show l_X3_perform_26 9 19 FU 0 z = l_X3_perform_26 9 19 FU (nI 0) z from rfl]
  refine for_s (L := fun F i (_ : Unit) u => l_X3_perform_26 9 19 F (nI i) u) (Q := fun r => ∃ v : MU, cRn u v ∧ ((r = some (0, v) ∧ rnS (ssOf u) a b ord V0 m = none) ∨ ∃ (V T : Nat → Nat) (t S : Nat), r = some (1, v) ∧ rnS (ssOf u) a b ord V0 m = some (V, T, t, S) ∧ rSt V T t S m v 28 29 (v 27 2) (v 27 3))) (I := fun i _ v => cRn u v ∧ ∃ (V T : Nat → Nat) (t S : Nat), rnS (ssOf u) a b ord V0 i = some (V, T, t, S) ∧ rSt V T t S i v 28 29 (v 27 2) (v 27 3)) (m := m) ?_ ?_ 0 () z FU (by omega) ⟨zk, V0, (fun _ => 0), 0, 0, rfl, z28, hV0, z2, by omega, fun j hj => by omega, z3, by omega⟩ (by unfold FU; omega)
  · rintro F i _ v hi ⟨hc, V, T, t, S, hS, r1, r2, r3, r4, r5, r6, r7⟩
    obtain ⟨o1, o2⟩ := ho i hi
    obtain ⟨b1, b2, b3, b4⟩ := hl.2.2 (ord i) (by omega)
    have v9 : v 9 2 = nI m := by rw [hc 9 (by decide) (by decide) (by decide)]; exact hl.1
    have v19 : v 19 i = nI (ord i) := by rw [hc 19 (by decide) (by decide) (by decide)]; exact o2
    have io := ix_ (show ord i < 16 by omega) (show (16 : Nat) < 1000 by omega)
    generalize hw : mup v 27 4 0 = w
    have wc : cRn u w := fun k h1 h2 h3 => by rw [← hw, mup_ne h1]; exact hc k h1 h2 h3
    have hTw : TX w := hT.cong (wc 89 (by decide) (by decide) (by decide)) (wc 90 (by decide) (by decide) (by decide)) (fun k _ _ => wc k (by omega) (by omega) (by omega))
    have hKw : KN w := hK.cong (wc 7 (by decide) (by decide) (by decide)) (wc 89 (by decide) (by decide) (by decide)) (wc 90 (by decide) (by decide) (by decide))
    have ssw : ssOf w = ssOf u := (ss_cong (wc 89 (by decide) (by decide) (by decide)) (wc 90 (by decide) (by decide) (by decide))).1
    have run := crun hTw hKw 20 (by omega) (a (ord i)) (b (ord i)) V 0 w b1 (by rw [wc 7 (by decide) (by decide) (by decide)]; exact hk _ o1) b2 (by omega) (cF.rf w) (fun j hj => by rw [← hw, mup_ne (by decide)]; exact r1 j hj) r2 (by rw [← hw, mup_self]; rfl)
    rw [ssw] at run
    obtain ⟨x, x1, x2, x3, x4, x5, x6, x7⟩ := run
    have xc : cRn u x := fun k h1 h2 h3 => by rw [x3.1 k h1 h2]; exact wc k h1 h2 h3
    have w10 : w (9 + 1) (ord i) = nI (a (ord i)) := by rw [wc _ (by decide) (by decide) (by decide)]; exact b3
    have w11 : w (9 + 2) (ord i) = nI (b (ord i)) := by rw [wc _ (by decide) (by decide) (by decide)]; exact b4
    have x272 : x 27 2 = nI t := by rw [x3.2 2 (by decide), ← hw, mup_sne (by decide)]; exact r3
    have x273 : x 27 3 = nI S := by rw [x3.2 3 (by decide), ← hw, mup_sne (by decide)]; exact r6
    have x29 : x 29 = v 29 := by rw [x3.1 29 (by decide) (by decide), ← hw, mup_ne (by decide)]
    have x1' : f_X3_doRoutine 21 (nI (a (ord i))) (nI (b (ord i))) 1 w = some (nI (rnR (ssOf u) 20 (a (ord i)) (b (ord i)) V 0).1, x) := x1
    have hnext := rnS.eq_2 (ssOf u) a b ord V0 i
    rw [hS] at hnext
    dsimp only at hnext
    generalize rnR (ssOf u) 20 (a (ord i)) (b (ord i)) V 0 = R at x1 x1' x2 x4 x5 x6 x7 hnext
    rw [l_X3_perform_26, b_X3_perform_26, v9, if_neg (fun z => absurd ((le_ (by omega) (by omega)).mp z) (by omega)), show mLen 19 = 16 from by decide, gdt (ix_ (by omega) (by omega)), mSe, hw, nc_ (by omega), v19, gdt io, gdt io, nc_ (by omega), w10, w11, mBe x1']
    by_cases e2 : R.1 = 2
    · left
      rw [if_pos (show nI R.1 = nI 2 by rw [e2])]
      rw [if_pos e2] at hnext
      refine ⟨x, xc, Or.inl ⟨rfl, ?_⟩⟩
      have := rnS_none hnext (m - (i + 1))
      rw [show i + 1 + (m - (i + 1)) = m by omega] at this
      exact this
    · right
      rw [if_neg (fun z => e2 ((eq_ (by omega) (by omega)).mp z))]
      rw [if_neg e2] at hnext
      by_cases e1 : R.1 = 1
      · rw [if_pos (show nI R.1 = 1 by rw [e1]; rfl), x272, gdt (ix_ (by omega) (by omega)), mSe, nc_ (by omega)]
        rw [if_pos e1, if_pos e1] at hnext
        have y1 : mup x 29 t (nI (ord i)) 27 2 = nI t := by rw [mup_ne (by decide)]; exact x272
        rw [y1, nI_1, mSe, b_X3_perform_103, mSe, mup_sne (show (3 : Nat) ≠ 2 by decide), mup_ne (show (27 : Nat) ≠ 29 by decide), mup_sne (show (4 : Nat) ≠ 2 by decide), mup_ne (show (27 : Nat) ≠ 29 by decide), x273, x6, nI_add, nI_1]
        refine ⟨(), _, rfl, fun k h1 h2 h3 => by rw [mup_ne h1, mup_ne h1, mup_ne h3]; exact xc k h1 h2 h3, R.2.1, upN T t (ord i), t + 1, S + R.2.2, hnext, fun j hj => ?_, x5, ?_, by omega, fun j hj => ?_, ?_, by omega⟩
        · rw [mup_ne (by decide), mup_ne (by decide), mup_ne (by decide)]; exact x4 j hj
        · rw [mup_sne (by decide), mup_self]
        · rw [mup_ne (by decide), mup_ne (by decide)]
          unfold upN
          by_cases ej : j = t
          · rw [if_pos ej, ej, mup_self]
          · rw [if_neg ej, mup_sne ej, x29]; exact r5 j (by omega)
        · rw [mup_self]
      · rw [if_neg (show ¬ nI R.1 = 1 from fun z => e1 ((eq_ (b := 1) (by omega) (by omega)).mp z)), b_X3_perform_103, mSe, x273, x6, nI_add, nI_1]
        rw [if_neg e1, if_neg e1] at hnext
        refine ⟨(), _, rfl, fun k h1 h2 h3 => by rw [mup_ne h1]; exact xc k h1 h2 h3, R.2.1, T, t, S + R.2.2, hnext, fun j hj => ?_, x5, ?_, by omega, fun j hj => ?_, ?_, by omega⟩
        · rw [mup_ne (by decide)]; exact x4 j hj
        · rw [mup_sne (by decide)]; exact x272
        · rw [mup_ne (by decide), x29]; exact r5 j hj
        · rw [mup_self]
  · rintro F _ v ⟨hc, V, T, t, S, hS, hr⟩
    have v9 : v 9 2 = nI m := by rw [hc 9 (by decide) (by decide) (by decide)]; exact hl.1
    rw [l_X3_perform_26, b_X3_perform_26, v9, if_pos ((le_ (by omega) (by omega)).mpr (by omega))]
    exact ⟨v, hc, Or.inr ⟨V, T, t, S, rfl, hS, hr⟩⟩
