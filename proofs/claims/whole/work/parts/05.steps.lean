/-! the context of a walk, in one value -/
abbrev mCtx : Type := Jvm.Program × Launch × Env × Room × State × MethodId × Array Value × List Frame × Method × Code × (State → Prop) × (Nat → ClassId) × (Nat → Nat → Nat) × (Nat → ClassId) × (Nat → Nat) × Nat × Nat × (Nat → Prop)
def cL (C : mCtx) : Launch := C.2.1
def cR (C : mCtx) : Room := C.2.2.2.1
def cC (C : mCtx) : Nat → ClassId := C.2.2.2.2.2.2.2.2.2.2.2.1
def cI (C : mCtx) : Nat → Nat → Nat := C.2.2.2.2.2.2.2.2.2.2.2.2.1
def cA (C : mCtx) : Nat → ClassId := C.2.2.2.2.2.2.2.2.2.2.2.2.2.1
def cS (C : mCtx) : Nat → Nat := C.2.2.2.2.2.2.2.2.2.2.2.2.2.2.1
def mA (as : Nat → Nat) : Nat → Prop := fun q => ∃ k : Nat, k < 111 ∧ q = as k
def mTys (dA : Nat → ClassId) : List (ClassId × FieldType) := [(dA 0, .int), (dA 1, .boolean), (dA 2, .object "SwapCalls$Routine"), (dA 3, .object "SwapCalls$Image")]
def mDis (as : Nat → Nat) : Prop := ∀ i j : Nat, i < 111 → j < 111 → as i = as j → i = j
theorem mSh_len : mSh.length = 111 := by decide +kernel
theorem mDis.D {as : Nat → Nat} {A : Nat → Prop} (h : mDis as) (hA : ∀ k : Nat, k < 111 → A (as k)) (dA : Nat → ClassId) (u : MU) : va_D A (mW dA as u) := by
  have key : ∀ (k : Nat) (q : Nat × va_E), (mW dA as u)[k]? = some q → k < 111 ∧ q.1 = as k := by
    intro k q hq
    unfold mW at hq
    rw [List.getElem?_mapIdx] at hq
    cases hc : mSh[k]? with
    | none => rw [hc] at hq; cases hq
    | some c =>
      rw [hc] at hq
      cases hq
      have := (List.getElem?_eq_some_iff.mp hc).1
      rw [mSh_len] at this
      exact ⟨this, rfl⟩
  refine ⟨fun i j p q hp hq hpq => ?_, fun k q hk => ?_⟩
  · obtain ⟨a1, a2⟩ := key i p hp
    obtain ⟨b1, b2⟩ := key j q hq
    exact h i j a1 b1 (by rw [← a2, ← b2]; exact hpq)
  · obtain ⟨a1, a2⟩ := key k q hk
    rw [a2]
    exact hA k a1
def mLoc (ls : Array Slot) (nL : Nat) (L : List (Option Value)) : Prop := ls.size = nL ∧ lv_wf ls ∧ ∀ (i : Nat) (v : Value), L[i]? = some (some v) → ls[i]? = some (.val v)
def mPr (L : List (Option Value)) : List (Nat × Value) := L.zipIdx.filterMap (fun p => p.1.map (fun v => (p.2, v)))
theorem mPr_mem {L : List (Option Value)} {i : Nat} {v : Value} : (i, v) ∈ mPr L ↔ L[i]? = some (some v) := by
  unfold mPr
  rw [List.mem_filterMap]
  constructor
  · rintro ⟨⟨o, j⟩, h1, h2⟩
    have h3 := List.mem_zipIdx_iff_getElem?.mp h1
    cases o with
    | none => cases h2
    | some w =>
      cases h2
      exact h3
  · intro h
    exact ⟨(some v, i), List.mem_zipIdx_iff_getElem?.mpr h, rfl⟩
theorem mLoc.has {ls : Array Slot} {nL : Nat} {L : List (Option Value)} (h : mLoc ls nL L) : lv_has ls nL (mPr L) := ⟨h.1, h.2.1, fun q hq => h.2.2 q.1 q.2 (mPr_mem.mp hq)⟩
def mOne (L : List (Option Value)) : Bool := L.all (fun o => match o with
  | none => true
  | some v => v.category == 1)
theorem mLoc.put {ls : Array Slot} {nL i : Nat} {L : List (Option Value)} {x : Value} (hc : mOne L = true) (hi : i < L.length) (h : lv_has ls nL ((i, x) :: (mPr L).filter (fun q => !(q.1 == i) && !(q.1 + 1 == i && q.2.category == 2)))) : mLoc ls nL (L.set i (some x)) := by
  refine ⟨h.1, h.2.1, fun j v hj => ?_⟩
  rw [List.getElem?_set] at hj
  by_cases hji : i = j
  · subst hji
    rw [if_pos rfl, if_pos hi] at hj
    cases hj
    exact h.2.2 (i, x) List.mem_cons_self
  · rw [if_neg hji] at hj
    refine h.2.2 (j, v) (List.mem_cons_of_mem _ (List.mem_filter.mpr ⟨mPr_mem.mpr hj, ?_⟩))
    have h1 : v.category = 1 := by
      have := List.all_eq_true.mp hc (some v) (List.mem_of_getElem? hj)
      simpa using this
    simp [h1, Ne.symm hji]
/-- a walk from a place of the code, whatever the heap, if it holds the cells with these data -/
def wat (C : mCtx) (u : MU) (pc : Nat) (L : List (Option Value)) (st : List Value) : Prop := match C with
  | (p, l, e, R, s, m, args, below, meth, c, Q, dC, dI, dA, as, nc, ns, A) => ∀ (H : Heap) (locs : List Loc) (ls : Array Slot), va_P (dC, dI) vwCl (mW dA as u) H → va_S A s.heap H locs → mLoc ls c.maxLocals L → W p l e R s m args below meth c H locs nc ns Q (F0 m pc ls st)
def mOK (cc : ByteArray) (own : String) (nL fr lo : Nat) (C : mCtx) : Prop := match C with
  | (p, _, _, R, s, m, args, _, _, c, _, dC, dI, dA, as, nc, ns, A) => p.tables.exec = Jvm.exec ∧ c.code = cc ∧ c.maxLocals = nL ∧ s.vm.findClass own = some m.cls ∧ (∀ w ∈ TB, w.before args s = true) ∧ va_K (dC, dI) vwCl (mTys dA) s ∧ mDis as ∧ (∀ k : Nat, k < 111 → A (as k)) ∧ nc ≤ R.cells ∧ ns ≤ R.slots ∧ fr ≤ R.frames ∧ lo ≤ R.locals
section zst
variable {C : mCtx} {cc : ByteArray} {own : String} {nL fr lo : Nat} {u : MU} {pc : Nat} {L : List (Option Value)} {st : List Value}
theorem z_iload_n (hC : mOK cc own nL fr lo C) {k : Fin 4} {i : Nat} {x : Int32} (hd : decode cc pc = .ok (.iload_n k, 1)) (hi : (k : Nat) = i) (hl : L[i]? = some (some (.int x))) (kk : wat C u (pc + 1) L (.int x :: st)) : wat C u pc L st := by
  obtain ⟨p, l, e, R, s, m, args, below, meth, c, Q, dC, dI, dA, as, nc, ns, A⟩ := C
  obtain ⟨hx, hb, hml, hown, hts, hK, hD, hA, hnc, hns, hfr, hlo⟩ := hC
  intro H locs ls hP hS hL
  exact lv_iload_n hx hb hd hi (hL.2.2 _ _ hl) (kk H locs ls hP hS hL)
theorem z_iload (hC : mOK cc own nL fr lo C) {i : Nat} {x : Int32} (hd : decode cc pc = .ok (.iload i, 2)) (hl : L[i]? = some (some (.int x))) (kk : wat C u (pc + 2) L (.int x :: st)) : wat C u pc L st := by
  obtain ⟨p, l, e, R, s, m, args, below, meth, c, Q, dC, dI, dA, as, nc, ns, A⟩ := C
  obtain ⟨hx, hb, hml, hown, hts, hK, hD, hA, hnc, hns, hfr, hlo⟩ := hC
  intro H locs ls hP hS hL
  exact lv_iload hx hb hd (hL.2.2 _ _ hl) (kk H locs ls hP hS hL)
theorem z_lload_n (hC : mOK cc own nL fr lo C) {k : Fin 4} {i : Nat} {x : Int64} (hd : decode cc pc = .ok (.lload_n k, 1)) (hi : (k : Nat) = i) (hl : L[i]? = some (some (.long x))) (kk : wat C u (pc + 1) L (.long x :: st)) : wat C u pc L st := by
  obtain ⟨p, l, e, R, s, m, args, below, meth, c, Q, dC, dI, dA, as, nc, ns, A⟩ := C
  obtain ⟨hx, hb, hml, hown, hts, hK, hD, hA, hnc, hns, hfr, hlo⟩ := hC
  intro H locs ls hP hS hL
  exact lv_lload_n hx hb hd hi (hL.2.2 _ _ hl) (kk H locs ls hP hS hL)
theorem z_lload (hC : mOK cc own nL fr lo C) {i : Nat} {x : Int64} (hd : decode cc pc = .ok (.lload i, 2)) (hl : L[i]? = some (some (.long x))) (kk : wat C u (pc + 2) L (.long x :: st)) : wat C u pc L st := by
  obtain ⟨p, l, e, R, s, m, args, below, meth, c, Q, dC, dI, dA, as, nc, ns, A⟩ := C
  obtain ⟨hx, hb, hml, hown, hts, hK, hD, hA, hnc, hns, hfr, hlo⟩ := hC
  intro H locs ls hP hS hL
  exact lv_lload hx hb hd (hL.2.2 _ _ hl) (kk H locs ls hP hS hL)
theorem z_aload_n (hC : mOK cc own nL fr lo C) {k : Fin 4} {i q : Nat} (hd : decode cc pc = .ok (.aload_n k, 1)) (hi : (k : Nat) = i) (hl : L[i]? = some (some (.ref (cS C q)))) (kk : wat C u (pc + 1) L (.ref (cS C q) :: st)) : wat C u pc L st := by
  obtain ⟨p, l, e, R, s, m, args, below, meth, c, Q, dC, dI, dA, as, nc, ns, A⟩ := C
  obtain ⟨hx, hb, hml, hown, hts, hK, hD, hA, hnc, hns, hfr, hlo⟩ := hC
  intro H locs ls hP hS hL
  exact lv_aload_n hx hb hd hi (hL.2.2 _ _ hl) (kk H locs ls hP hS hL)
theorem z_aload (hC : mOK cc own nL fr lo C) {i q : Nat} (hd : decode cc pc = .ok (.aload i, 2)) (hl : L[i]? = some (some (.ref (cS C q)))) (kk : wat C u (pc + 2) L (.ref (cS C q) :: st)) : wat C u pc L st := by
  obtain ⟨p, l, e, R, s, m, args, below, meth, c, Q, dC, dI, dA, as, nc, ns, A⟩ := C
  obtain ⟨hx, hb, hml, hown, hts, hK, hD, hA, hnc, hns, hfr, hlo⟩ := hC
  intro H locs ls hP hS hL
  exact lv_aload hx hb hd (hL.2.2 _ _ hl) (kk H locs ls hP hS hL)
theorem z_iconst (hC : mOK cc own nL fr lo C) {n : Int} {v : Int32} (hd : decode cc pc = .ok (.iconst n, 1)) (hv : Int32.ofInt n = v) (kk : wat C u (pc + 1) L (.int v :: st)) : wat C u pc L st := by
  obtain ⟨p, l, e, R, s, m, args, below, meth, c, Q, dC, dI, dA, as, nc, ns, A⟩ := C
  obtain ⟨hx, hb, hml, hown, hts, hK, hD, hA, hnc, hns, hfr, hlo⟩ := hC
  intro H locs ls hP hS hL
  exact lv_iconst hx hb hd hv (kk H locs ls hP hS hL)
theorem z_bipush (hC : mOK cc own nL fr lo C) {n : Int} {v : Int32} (hd : decode cc pc = .ok (.bipush n, 2)) (hv : (Int8.ofInt n).toInt32 = v) (kk : wat C u (pc + 2) L (.int v :: st)) : wat C u pc L st := by
  obtain ⟨p, l, e, R, s, m, args, below, meth, c, Q, dC, dI, dA, as, nc, ns, A⟩ := C
  obtain ⟨hx, hb, hml, hown, hts, hK, hD, hA, hnc, hns, hfr, hlo⟩ := hC
  intro H locs ls hP hS hL
  exact lv_bipush hx hb hd hv (kk H locs ls hP hS hL)
theorem z_sipush (hC : mOK cc own nL fr lo C) {n : Int} {v : Int32} (hd : decode cc pc = .ok (.sipush n, 3)) (hv : (Int16.ofInt n).toInt32 = v) (kk : wat C u (pc + 3) L (.int v :: st)) : wat C u pc L st := by
  obtain ⟨p, l, e, R, s, m, args, below, meth, c, Q, dC, dI, dA, as, nc, ns, A⟩ := C
  obtain ⟨hx, hb, hml, hown, hts, hK, hD, hA, hnc, hns, hfr, hlo⟩ := hC
  intro H locs ls hP hS hL
  exact lv_sipush hx hb hd hv (kk H locs ls hP hS hL)
theorem z_lconst (hC : mOK cc own nL fr lo C) {n : Fin 2} {v : Int64} (hd : decode cc pc = .ok (.lconst n, 1)) (hv : Int64.ofNat (n : Nat) = v) (kk : wat C u (pc + 1) L (.long v :: st)) : wat C u pc L st := by
  obtain ⟨p, l, e, R, s, m, args, below, meth, c, Q, dC, dI, dA, as, nc, ns, A⟩ := C
  obtain ⟨hx, hb, hml, hown, hts, hK, hD, hA, hnc, hns, hfr, hlo⟩ := hC
  intro H locs ls hP hS hL
  exact lv_lconst hx hb hd hv (kk H locs ls hP hS hL)
theorem z_ldc2 (hC : mOK cc own nL fr lo C) {i : Nat} {v : Int64} (hw : Cond.constantLong own i v ∈ TB) (hd : decode cc pc = .ok (.ldc2_w i, 3)) (kk : wat C u (pc + 3) L (.long v :: st)) : wat C u pc L st := by
  obtain ⟨p, l, e, R, s, m, args, below, meth, c, Q, dC, dI, dA, as, nc, ns, A⟩ := C
  obtain ⟨hx, hb, hml, hown, hts, hK, hD, hA, hnc, hns, hfr, hlo⟩ := hC
  intro H locs ls hP hS hL
  exact lv_ldc2 hx hb hown (hts _ hw) hd (kk H locs ls hP hS hL)
theorem z_ldc (hC : mOK cc own nL fr lo C) {i : Nat} {v : Int32} (hw : Cond.constant own i v ∈ TB) (hd : decode cc pc = .ok (.ldc i, 2)) (kk : wat C u (pc + 2) L (.int v :: st)) : wat C u pc L st := by
  obtain ⟨p, l, e, R, s, m, args, below, meth, c, Q, dC, dI, dA, as, nc, ns, A⟩ := C
  obtain ⟨hx, hb, hml, hown, hts, hK, hD, hA, hnc, hns, hfr, hlo⟩ := hC
  intro H locs ls hP hS hL
  exact lv_ldc hx hb hown (hts _ hw) hd (kk H locs ls hP hS hL)
theorem z_istore_n (hC : mOK cc own nL fr lo C) {k : Fin 4} {i : Nat} {x : Int32} (hd : decode cc pc = .ok (.istore_n k, 1)) (hi : (k : Nat) = i) (hc : mOne L = true) (hn : i < L.length) (hn2 : i < nL) (kk : wat C u (pc + 1) (L.set i (some (.int x))) st) : wat C u pc L (.int x :: st) := by
  obtain ⟨p, l, e, R, s, m, args, below, meth, c, Q, dC, dI, dA, as, nc, ns, A⟩ := C
  obtain ⟨hx, hb, hml, hown, hts, hK, hD, hA, hnc, hns, hfr, hlo⟩ := hC
  intro H locs ls hP hS hL
  exact lv_istore_n hx hb hd hi hL.has (by rw [hml]; exact hn2) rfl (fun ls' h => kk H locs ls' hP hS (mLoc.put hc hn h))
theorem z_istore (hC : mOK cc own nL fr lo C) {i : Nat} {x : Int32} (hd : decode cc pc = .ok (.istore i, 2)) (hc : mOne L = true) (hn : i < L.length) (hn2 : i < nL) (kk : wat C u (pc + 2) (L.set i (some (.int x))) st) : wat C u pc L (.int x :: st) := by
  obtain ⟨p, l, e, R, s, m, args, below, meth, c, Q, dC, dI, dA, as, nc, ns, A⟩ := C
  obtain ⟨hx, hb, hml, hown, hts, hK, hD, hA, hnc, hns, hfr, hlo⟩ := hC
  intro H locs ls hP hS hL
  exact lv_istore hx hb hd hL.has (by rw [hml]; exact hn2) rfl (fun ls' h => kk H locs ls' hP hS (mLoc.put hc hn h))
theorem z_astore_n (hC : mOK cc own nL fr lo C) {k : Fin 4} {i q : Nat} (hd : decode cc pc = .ok (.astore_n k, 1)) (hi : (k : Nat) = i) (hc : mOne L = true) (hn : i < L.length) (hn2 : i < nL) (kk : wat C u (pc + 1) (L.set i (some (.ref (cS C q)))) st) : wat C u pc L (.ref (cS C q) :: st) := by
  obtain ⟨p, l, e, R, s, m, args, below, meth, c, Q, dC, dI, dA, as, nc, ns, A⟩ := C
  obtain ⟨hx, hb, hml, hown, hts, hK, hD, hA, hnc, hns, hfr, hlo⟩ := hC
  intro H locs ls hP hS hL
  exact lv_astore_n hx hb hd hi hL.has (by rw [hml]; exact hn2) rfl (fun ls' h => kk H locs ls' hP hS (mLoc.put hc hn h))
theorem z_astore (hC : mOK cc own nL fr lo C) {i q : Nat} (hd : decode cc pc = .ok (.astore i, 2)) (hc : mOne L = true) (hn : i < L.length) (hn2 : i < nL) (kk : wat C u (pc + 2) (L.set i (some (.ref (cS C q)))) st) : wat C u pc L (.ref (cS C q) :: st) := by
  obtain ⟨p, l, e, R, s, m, args, below, meth, c, Q, dC, dI, dA, as, nc, ns, A⟩ := C
  obtain ⟨hx, hb, hml, hown, hts, hK, hD, hA, hnc, hns, hfr, hlo⟩ := hC
  intro H locs ls hP hS hL
  exact lv_astore hx hb hd hL.has (by rw [hml]; exact hn2) rfl (fun ls' h => kk H locs ls' hP hS (mLoc.put hc hn h))
theorem z_iinc (hC : mOK cc own nL fr lo C) {i : Nat} {n : Int} {x v : Int32} (hd : decode cc pc = .ok (.iinc i n, 3)) (hl : L[i]? = some (some (.int x))) (hv : x + Int32.ofInt n = v) (hc : mOne L = true) (hn2 : i < nL) (kk : wat C u (pc + 3) (L.set i (some (.int v))) st) : wat C u pc L st := by
  obtain ⟨p, l, e, R, s, m, args, below, meth, c, Q, dC, dI, dA, as, nc, ns, A⟩ := C
  obtain ⟨hx, hb, hml, hown, hts, hK, hD, hA, hnc, hns, hfr, hlo⟩ := hC
  intro H locs ls hP hS hL
  obtain ⟨k, hk⟩ := List.getElem?_of_mem (mPr_mem.mpr hl)
  exact lv_iinc hx hb hd hL.has hk hv (by rw [hml]; exact hn2) rfl (fun ls' h => kk H locs ls' hP hS (mLoc.put hc (List.getElem?_eq_some_iff.mp hl).1 h))
theorem z_dup (hC : mOK cc own nL fr lo C) {v : Value} (hd : decode cc pc = .ok (.dup, 1)) (hv : v.category = 1) (kk : wat C u (pc + 1) L (v :: v :: st)) : wat C u pc L (v :: st) := by
  obtain ⟨p, l, e, R, s, m, args, below, meth, c, Q, dC, dI, dA, as, nc, ns, A⟩ := C
  obtain ⟨hx, hb, hml, hown, hts, hK, hD, hA, hnc, hns, hfr, hlo⟩ := hC
  intro H locs ls hP hS hL
  exact lv_dup hx hb hd hv (kk H locs ls hP hS hL)
theorem z_dup2 (hC : mOK cc own nL fr lo C) {v w : Value} (hd : decode cc pc = .ok (.dup2, 1)) (hv : v.category = 1) (hw : w.category = 1) (kk : wat C u (pc + 1) L (v :: w :: v :: w :: st)) : wat C u pc L (v :: w :: st) := by
  obtain ⟨p, l, e, R, s, m, args, below, meth, c, Q, dC, dI, dA, as, nc, ns, A⟩ := C
  obtain ⟨hx, hb, hml, hown, hts, hK, hD, hA, hnc, hns, hfr, hlo⟩ := hC
  intro H locs ls hP hS hL
  exact lv_dup2_11 hx hb hd hv hw (kk H locs ls hP hS hL)
theorem z_iadd (hC : mOK cc own nL fr lo C) {x y : Int32} (hd : decode cc pc = .ok (.iadd, 1)) (kk : wat C u (pc + 1) L (.int (x + y) :: st)) : wat C u pc L (.int y :: .int x :: st) := by
  obtain ⟨p, l, e, R, s, m, args, below, meth, c, Q, dC, dI, dA, as, nc, ns, A⟩ := C
  obtain ⟨hx, hb, hml, hown, hts, hK, hD, hA, hnc, hns, hfr, hlo⟩ := hC
  intro H locs ls hP hS hL
  exact lv_iadd hx hb hd (kk H locs ls hP hS hL)
theorem z_isub (hC : mOK cc own nL fr lo C) {x y : Int32} (hd : decode cc pc = .ok (.isub, 1)) (kk : wat C u (pc + 1) L (.int (x - y) :: st)) : wat C u pc L (.int y :: .int x :: st) := by
  obtain ⟨p, l, e, R, s, m, args, below, meth, c, Q, dC, dI, dA, as, nc, ns, A⟩ := C
  obtain ⟨hx, hb, hml, hown, hts, hK, hD, hA, hnc, hns, hfr, hlo⟩ := hC
  intro H locs ls hP hS hL
  exact lv_isub hx hb hd (kk H locs ls hP hS hL)
theorem z_imul (hC : mOK cc own nL fr lo C) {x y : Int32} (hd : decode cc pc = .ok (.imul, 1)) (kk : wat C u (pc + 1) L (.int (x * y) :: st)) : wat C u pc L (.int y :: .int x :: st) := by
  obtain ⟨p, l, e, R, s, m, args, below, meth, c, Q, dC, dI, dA, as, nc, ns, A⟩ := C
  obtain ⟨hx, hb, hml, hown, hts, hK, hD, hA, hnc, hns, hfr, hlo⟩ := hC
  intro H locs ls hP hS hL
  exact lv_imul hx hb hd (kk H locs ls hP hS hL)
theorem z_iand (hC : mOK cc own nL fr lo C) {x y : Int32} (hd : decode cc pc = .ok (.iand, 1)) (kk : wat C u (pc + 1) L (.int (x &&& y) :: st)) : wat C u pc L (.int y :: .int x :: st) := by
  obtain ⟨p, l, e, R, s, m, args, below, meth, c, Q, dC, dI, dA, as, nc, ns, A⟩ := C
  obtain ⟨hx, hb, hml, hown, hts, hK, hD, hA, hnc, hns, hfr, hlo⟩ := hC
  intro H locs ls hP hS hL
  exact lv_iand hx hb hd (kk H locs ls hP hS hL)
theorem z_ior (hC : mOK cc own nL fr lo C) {x y : Int32} (hd : decode cc pc = .ok (.ior, 1)) (kk : wat C u (pc + 1) L (.int (x ||| y) :: st)) : wat C u pc L (.int y :: .int x :: st) := by
  obtain ⟨p, l, e, R, s, m, args, below, meth, c, Q, dC, dI, dA, as, nc, ns, A⟩ := C
  obtain ⟨hx, hb, hml, hown, hts, hK, hD, hA, hnc, hns, hfr, hlo⟩ := hC
  intro H locs ls hP hS hL
  exact lv_ior hx hb hd (kk H locs ls hP hS hL)
theorem z_ixor (hC : mOK cc own nL fr lo C) {x y : Int32} (hd : decode cc pc = .ok (.ixor, 1)) (kk : wat C u (pc + 1) L (.int (x ^^^ y) :: st)) : wat C u pc L (.int y :: .int x :: st) := by
  obtain ⟨p, l, e, R, s, m, args, below, meth, c, Q, dC, dI, dA, as, nc, ns, A⟩ := C
  obtain ⟨hx, hb, hml, hown, hts, hK, hD, hA, hnc, hns, hfr, hlo⟩ := hC
  intro H locs ls hP hS hL
  exact lv_ixor hx hb hd (kk H locs ls hP hS hL)
theorem z_ishl (hC : mOK cc own nL fr lo C) {x y : Int32} (hd : decode cc pc = .ok (.ishl, 1)) (kk : wat C u (pc + 1) L (.int (x <<< (y &&& 31)) :: st)) : wat C u pc L (.int y :: .int x :: st) := by
  obtain ⟨p, l, e, R, s, m, args, below, meth, c, Q, dC, dI, dA, as, nc, ns, A⟩ := C
  obtain ⟨hx, hb, hml, hown, hts, hK, hD, hA, hnc, hns, hfr, hlo⟩ := hC
  intro H locs ls hP hS hL
  exact lv_ishl hx hb hd (kk H locs ls hP hS hL)
theorem z_ishr (hC : mOK cc own nL fr lo C) {x y : Int32} (hd : decode cc pc = .ok (.ishr, 1)) (kk : wat C u (pc + 1) L (.int (x >>> (y &&& 31)) :: st)) : wat C u pc L (.int y :: .int x :: st) := by
  obtain ⟨p, l, e, R, s, m, args, below, meth, c, Q, dC, dI, dA, as, nc, ns, A⟩ := C
  obtain ⟨hx, hb, hml, hown, hts, hK, hD, hA, hnc, hns, hfr, hlo⟩ := hC
  intro H locs ls hP hS hL
  exact lv_ishr hx hb hd (kk H locs ls hP hS hL)
theorem z_idiv (hC : mOK cc own nL fr lo C) {x y : Int32} (hd : decode cc pc = .ok (.idiv, 1)) (hne : ¬ y = 0) (kk : wat C u (pc + 1) L (.int (x / y) :: st)) : wat C u pc L (.int y :: .int x :: st) := by
  obtain ⟨p, l, e, R, s, m, args, below, meth, c, Q, dC, dI, dA, as, nc, ns, A⟩ := C
  obtain ⟨hx, hb, hml, hown, hts, hK, hD, hA, hnc, hns, hfr, hlo⟩ := hC
  intro H locs ls hP hS hL
  exact lv_idiv hx hb hd hne (kk H locs ls hP hS hL)
theorem z_irem (hC : mOK cc own nL fr lo C) {x y : Int32} (hd : decode cc pc = .ok (.irem, 1)) (hne : ¬ y = 0) (kk : wat C u (pc + 1) L (.int (x - x / y * y) :: st)) : wat C u pc L (.int y :: .int x :: st) := by
  obtain ⟨p, l, e, R, s, m, args, below, meth, c, Q, dC, dI, dA, as, nc, ns, A⟩ := C
  obtain ⟨hx, hb, hml, hown, hts, hK, hD, hA, hnc, hns, hfr, hlo⟩ := hC
  intro H locs ls hP hS hL
  exact lv_irem hx hb hd hne (kk H locs ls hP hS hL)
theorem z_i2l (hC : mOK cc own nL fr lo C) {x : Int32} (hd : decode cc pc = .ok (.i2l, 1)) (kk : wat C u (pc + 1) L (.long x.toInt64 :: st)) : wat C u pc L (.int x :: st) := by
  obtain ⟨p, l, e, R, s, m, args, below, meth, c, Q, dC, dI, dA, as, nc, ns, A⟩ := C
  obtain ⟨hx, hb, hml, hown, hts, hK, hD, hA, hnc, hns, hfr, hlo⟩ := hC
  intro H locs ls hP hS hL
  exact lv_i2l hx hb hd rfl (kk H locs ls hP hS hL)
theorem z_lcmp (hC : mOK cc own nL fr lo C) {x y : Int64} (hd : decode cc pc = .ok (.lcmp, 1)) (kk : wat C u (pc + 1) L (.int (lg_cmp x y) :: st)) : wat C u pc L (.long y :: .long x :: st) := by
  obtain ⟨p, l, e, R, s, m, args, below, meth, c, Q, dC, dI, dA, as, nc, ns, A⟩ := C
  obtain ⟨hx, hb, hml, hown, hts, hK, hD, hA, hnc, hns, hfr, hlo⟩ := hC
  intro H locs ls hP hS hL
  exact W.lcmp hx hb hd (kk H locs ls hP hS hL)
theorem z_if_eq (hC : mOK cc own nL fr lo C) {x : Int32} {off : Int} (tgt : Nat) (hd : decode cc pc = .ok (.ifCond .eq off, 3)) (ht : (pc : Int) + off = (tgt : Int)) (kt : x = 0 → wat C u tgt L st) (kf : ¬ x = 0 → wat C u (pc + 3) L st) : wat C u pc L (.int x :: st) := by
  obtain ⟨p, l, e, R, s, m, args, below, meth, c, Q, dC, dI, dA, as, nc, ns, A⟩ := C
  obtain ⟨hx, hb, hml, hown, hts, hK, hD, hA, hnc, hns, hfr, hlo⟩ := hC
  intro H locs ls hP hS hL
  exact lv_if_eq hx hb hd ht (fun h => kt h H locs ls hP hS hL) (fun h => kf h H locs ls hP hS hL)
theorem z_icmp_eq (hC : mOK cc own nL fr lo C) {x y : Int32} {off : Int} (tgt : Nat) (hd : decode cc pc = .ok (.if_icmp .eq off, 3)) (ht : (pc : Int) + off = (tgt : Int)) (kt : x = y → wat C u tgt L st) (kf : ¬ x = y → wat C u (pc + 3) L st) : wat C u pc L (.int y :: .int x :: st) := by
  obtain ⟨p, l, e, R, s, m, args, below, meth, c, Q, dC, dI, dA, as, nc, ns, A⟩ := C
  obtain ⟨hx, hb, hml, hown, hts, hK, hD, hA, hnc, hns, hfr, hlo⟩ := hC
  intro H locs ls hP hS hL
  exact lv_icmp_eq hx hb hd ht (fun h => kt h H locs ls hP hS hL) (fun h => kf h H locs ls hP hS hL)
theorem z_if_ne (hC : mOK cc own nL fr lo C) {x : Int32} {off : Int} (tgt : Nat) (hd : decode cc pc = .ok (.ifCond .ne off, 3)) (ht : (pc : Int) + off = (tgt : Int)) (kt : ¬ x = 0 → wat C u tgt L st) (kf : x = 0 → wat C u (pc + 3) L st) : wat C u pc L (.int x :: st) := by
  obtain ⟨p, l, e, R, s, m, args, below, meth, c, Q, dC, dI, dA, as, nc, ns, A⟩ := C
  obtain ⟨hx, hb, hml, hown, hts, hK, hD, hA, hnc, hns, hfr, hlo⟩ := hC
  intro H locs ls hP hS hL
  exact lv_if_ne hx hb hd ht (fun h => kt h H locs ls hP hS hL) (fun h => kf h H locs ls hP hS hL)
theorem z_icmp_ne (hC : mOK cc own nL fr lo C) {x y : Int32} {off : Int} (tgt : Nat) (hd : decode cc pc = .ok (.if_icmp .ne off, 3)) (ht : (pc : Int) + off = (tgt : Int)) (kt : ¬ x = y → wat C u tgt L st) (kf : x = y → wat C u (pc + 3) L st) : wat C u pc L (.int y :: .int x :: st) := by
  obtain ⟨p, l, e, R, s, m, args, below, meth, c, Q, dC, dI, dA, as, nc, ns, A⟩ := C
  obtain ⟨hx, hb, hml, hown, hts, hK, hD, hA, hnc, hns, hfr, hlo⟩ := hC
  intro H locs ls hP hS hL
  exact lv_icmp_ne hx hb hd ht (fun h => kt h H locs ls hP hS hL) (fun h => kf h H locs ls hP hS hL)
theorem z_if_lt (hC : mOK cc own nL fr lo C) {x : Int32} {off : Int} (tgt : Nat) (hd : decode cc pc = .ok (.ifCond .lt off, 3)) (ht : (pc : Int) + off = (tgt : Int)) (kt : x < 0 → wat C u tgt L st) (kf : ¬ x < 0 → wat C u (pc + 3) L st) : wat C u pc L (.int x :: st) := by
  obtain ⟨p, l, e, R, s, m, args, below, meth, c, Q, dC, dI, dA, as, nc, ns, A⟩ := C
  obtain ⟨hx, hb, hml, hown, hts, hK, hD, hA, hnc, hns, hfr, hlo⟩ := hC
  intro H locs ls hP hS hL
  exact lv_if_lt hx hb hd ht (fun h => kt h H locs ls hP hS hL) (fun h => kf h H locs ls hP hS hL)
theorem z_icmp_lt (hC : mOK cc own nL fr lo C) {x y : Int32} {off : Int} (tgt : Nat) (hd : decode cc pc = .ok (.if_icmp .lt off, 3)) (ht : (pc : Int) + off = (tgt : Int)) (kt : x < y → wat C u tgt L st) (kf : ¬ x < y → wat C u (pc + 3) L st) : wat C u pc L (.int y :: .int x :: st) := by
  obtain ⟨p, l, e, R, s, m, args, below, meth, c, Q, dC, dI, dA, as, nc, ns, A⟩ := C
  obtain ⟨hx, hb, hml, hown, hts, hK, hD, hA, hnc, hns, hfr, hlo⟩ := hC
  intro H locs ls hP hS hL
  exact lv_icmp_lt hx hb hd ht (fun h => kt h H locs ls hP hS hL) (fun h => kf h H locs ls hP hS hL)
theorem z_if_ge (hC : mOK cc own nL fr lo C) {x : Int32} {off : Int} (tgt : Nat) (hd : decode cc pc = .ok (.ifCond .ge off, 3)) (ht : (pc : Int) + off = (tgt : Int)) (kt : 0 ≤ x → wat C u tgt L st) (kf : ¬ 0 ≤ x → wat C u (pc + 3) L st) : wat C u pc L (.int x :: st) := by
  obtain ⟨p, l, e, R, s, m, args, below, meth, c, Q, dC, dI, dA, as, nc, ns, A⟩ := C
  obtain ⟨hx, hb, hml, hown, hts, hK, hD, hA, hnc, hns, hfr, hlo⟩ := hC
  intro H locs ls hP hS hL
  exact lv_if_ge hx hb hd ht (fun h => kt h H locs ls hP hS hL) (fun h => kf h H locs ls hP hS hL)
theorem z_icmp_ge (hC : mOK cc own nL fr lo C) {x y : Int32} {off : Int} (tgt : Nat) (hd : decode cc pc = .ok (.if_icmp .ge off, 3)) (ht : (pc : Int) + off = (tgt : Int)) (kt : y ≤ x → wat C u tgt L st) (kf : ¬ y ≤ x → wat C u (pc + 3) L st) : wat C u pc L (.int y :: .int x :: st) := by
  obtain ⟨p, l, e, R, s, m, args, below, meth, c, Q, dC, dI, dA, as, nc, ns, A⟩ := C
  obtain ⟨hx, hb, hml, hown, hts, hK, hD, hA, hnc, hns, hfr, hlo⟩ := hC
  intro H locs ls hP hS hL
  exact lv_icmp_ge hx hb hd ht (fun h => kt h H locs ls hP hS hL) (fun h => kf h H locs ls hP hS hL)
theorem z_if_gt (hC : mOK cc own nL fr lo C) {x : Int32} {off : Int} (tgt : Nat) (hd : decode cc pc = .ok (.ifCond .gt off, 3)) (ht : (pc : Int) + off = (tgt : Int)) (kt : 0 < x → wat C u tgt L st) (kf : ¬ 0 < x → wat C u (pc + 3) L st) : wat C u pc L (.int x :: st) := by
  obtain ⟨p, l, e, R, s, m, args, below, meth, c, Q, dC, dI, dA, as, nc, ns, A⟩ := C
  obtain ⟨hx, hb, hml, hown, hts, hK, hD, hA, hnc, hns, hfr, hlo⟩ := hC
  intro H locs ls hP hS hL
  exact lv_if_gt hx hb hd ht (fun h => kt h H locs ls hP hS hL) (fun h => kf h H locs ls hP hS hL)
theorem z_icmp_gt (hC : mOK cc own nL fr lo C) {x y : Int32} {off : Int} (tgt : Nat) (hd : decode cc pc = .ok (.if_icmp .gt off, 3)) (ht : (pc : Int) + off = (tgt : Int)) (kt : y < x → wat C u tgt L st) (kf : ¬ y < x → wat C u (pc + 3) L st) : wat C u pc L (.int y :: .int x :: st) := by
  obtain ⟨p, l, e, R, s, m, args, below, meth, c, Q, dC, dI, dA, as, nc, ns, A⟩ := C
  obtain ⟨hx, hb, hml, hown, hts, hK, hD, hA, hnc, hns, hfr, hlo⟩ := hC
  intro H locs ls hP hS hL
  exact lv_icmp_gt hx hb hd ht (fun h => kt h H locs ls hP hS hL) (fun h => kf h H locs ls hP hS hL)
theorem z_if_le (hC : mOK cc own nL fr lo C) {x : Int32} {off : Int} (tgt : Nat) (hd : decode cc pc = .ok (.ifCond .le off, 3)) (ht : (pc : Int) + off = (tgt : Int)) (kt : x ≤ 0 → wat C u tgt L st) (kf : ¬ x ≤ 0 → wat C u (pc + 3) L st) : wat C u pc L (.int x :: st) := by
  obtain ⟨p, l, e, R, s, m, args, below, meth, c, Q, dC, dI, dA, as, nc, ns, A⟩ := C
  obtain ⟨hx, hb, hml, hown, hts, hK, hD, hA, hnc, hns, hfr, hlo⟩ := hC
  intro H locs ls hP hS hL
  exact lv_if_le hx hb hd ht (fun h => kt h H locs ls hP hS hL) (fun h => kf h H locs ls hP hS hL)
theorem z_icmp_le (hC : mOK cc own nL fr lo C) {x y : Int32} {off : Int} (tgt : Nat) (hd : decode cc pc = .ok (.if_icmp .le off, 3)) (ht : (pc : Int) + off = (tgt : Int)) (kt : x ≤ y → wat C u tgt L st) (kf : ¬ x ≤ y → wat C u (pc + 3) L st) : wat C u pc L (.int y :: .int x :: st) := by
  obtain ⟨p, l, e, R, s, m, args, below, meth, c, Q, dC, dI, dA, as, nc, ns, A⟩ := C
  obtain ⟨hx, hb, hml, hown, hts, hK, hD, hA, hnc, hns, hfr, hlo⟩ := hC
  intro H locs ls hP hS hL
  exact lv_icmp_le hx hb hd ht (fun h => kt h H locs ls hP hS hL) (fun h => kf h H locs ls hP hS hL)
theorem z_goto (hC : mOK cc own nL fr lo C) {off : Int} (tgt : Nat) (hd : decode cc pc = .ok (.goto off, 3)) (ht : (pc : Int) + off = (tgt : Int)) (kk : wat C u tgt L st) : wat C u pc L st := by
  obtain ⟨p, l, e, R, s, m, args, below, meth, c, Q, dC, dI, dA, as, nc, ns, A⟩ := C
  obtain ⟨hx, hb, hml, hown, hts, hK, hD, hA, hnc, hns, hfr, hlo⟩ := hC
  intro H locs ls hP hS hL
  exact lv_goto hx hb hd ht (kk H locs ls hP hS hL)
theorem z_tin (hC : mOK cc own nL fr lo C) {dflt a b : Int} {offs : Array Int} {len : Nat} {x : Int32} {off : Int} (tgt : Nat) (hd : decode cc pc = .ok (.tableswitch dflt a b offs, len)) (v : Int32) (hv : x = v) (h1 : ¬ v.toInt < a) (h2 : ¬ b < v.toInt) (ho : offs[(v.toInt - a).toNat]? = some off) (ht : (pc : Int) + off = (tgt : Int)) (kk : wat C u tgt L st) : wat C u pc L (.int x :: st) := by
  subst hv
  obtain ⟨p, l, e, R, s, m, args, below, meth, c, Q, dC, dI, dA, as, nc, ns, A⟩ := C
  obtain ⟨hx, hb, hml, hown, hts, hK, hD, hA, hnc, hns, hfr, hlo⟩ := hC
  intro H locs ls hP hS hL
  exact lv_tableIn hx hb hd h1 h2 ho ht (kk H locs ls hP hS hL)
theorem z_tout (hC : mOK cc own nL fr lo C) {dflt a b : Int} {offs : Array Int} {len : Nat} {x : Int32} (tgt : Nat) (hd : decode cc pc = .ok (.tableswitch dflt a b offs, len)) (h : x.toInt < a ∨ b < x.toInt) (ht : (pc : Int) + dflt = (tgt : Int)) (kk : wat C u tgt L st) : wat C u pc L (.int x :: st) := by
  obtain ⟨p, l, e, R, s, m, args, below, meth, c, Q, dC, dI, dA, as, nc, ns, A⟩ := C
  obtain ⟨hx, hb, hml, hown, hts, hK, hD, hA, hnc, hns, hfr, hlo⟩ := hC
  intro H locs ls hP hS hL
  exact lv_tableOut hx hb hd h ht (kk H locs ls hP hS hL)
theorem z_look (hC : mOK cc own nL fr lo C) {dflt : Int} {ps : Array (Int × Int)} {len : Nat} {x : Int32} {off : Int} (tgt : Nat) (hd : decode cc pc = .ok (.lookupswitch dflt ps, len)) (hp : (ps.toList.zip (ps.toList.drop 1)).all (fun (a, next) => a.1 < next.1) = true) (ho : Op.lookupswitch.offset ps.toList dflt x.toInt = off) (ht : (pc : Int) + off = (tgt : Int)) (kk : wat C u tgt L st) : wat C u pc L (.int x :: st) := by
  obtain ⟨p, l, e, R, s, m, args, below, meth, c, Q, dC, dI, dA, as, nc, ns, A⟩ := C
  obtain ⟨hx, hb, hml, hown, hts, hK, hD, hA, hnc, hns, hfr, hlo⟩ := hC
  intro H locs ls hP hS hL
  exact lv_lookup hx hb hd hp ho ht (kk H locs ls hP hS hL)
/-- fewer locals -/
def mMask (b : List Bool) (L : List (Option Value)) : List (Option Value) := List.zipWith (fun b o => if b = true then o else none) b L
theorem z_mask (b : List Bool) (kk : wat C u pc (mMask b L) st) : wat C u pc L st := by
  obtain ⟨p, l, e, R, s, m, args, below, meth, c, Q, dC, dI, dA, as, nc, ns, A⟩ := C
  intro H locs ls hP hS hL
  refine kk H locs ls hP hS ⟨hL.1, hL.2.1, fun i v h => hL.2.2 i v ?_⟩
  unfold mMask at h
  rw [List.getElem?_zipWith] at h
  cases hb : b[i]? with
  | none => rw [hb] at h; cases h
  | some t =>
    cases ho : L[i]? with
    | none => rw [hb, ho] at h; cases h
    | some o =>
      rw [hb, ho] at h
      cases t with
      | false => cases h
      | true => exact h
end zst
