/-! constructors: a walk whose world grows -/
def nth : List Nat → Nat → Nat
  | [], _ => 0
  | x :: _, 0 => x
  | _ :: l, k + 1 => nth l k
def bWk (dA : Nat → ClassId) (a : Nat → Nat) (f : MU) : Nat → List mSC → va_W
  | _, [] => []
  | k, c :: cs => (a k, mE dA a (f k) c) :: bWk dA a f (k + 1) cs
def bW (dA : Nat → ClassId) (a : Nat → Nat) (f : MU) (sh : List mSC) : va_W := bWk dA a f 0 sh
theorem bWk_get {dA : Nat → ClassId} {a : Nat → Nat} {f : MU} : ∀ (sh : List mSC) (k i : Nat), (bWk dA a f k sh)[i]? = (sh[i]?).map (fun c => (a (k + i), mE dA a (f (k + i)) c))
  | [], k, i => by simp [bWk]
  | c :: cs, k, 0 => by simp [bWk]
  | c :: cs, k, i + 1 => by
    rw [bWk, List.getElem?_cons_succ, List.getElem?_cons_succ, bWk_get cs (k + 1) i, show k + 1 + i = k + (i + 1) by omega]
def cAO (U : State) : Prop := va_AO "SwapCalls$Routine" U ∧ va_AO "SwapCalls$Image" U
theorem cAO.moved {u U : State} (hvm : u.vm.Alike U.vm) (h : cAO u) : cAO U := ⟨va_AO.moved hvm h.1, va_AO.moved hvm h.2⟩
def wcn (C : mCtx) (nc ns : Nat) (ws : va_W) (pc : Nat) (L : List (Option Value)) (st : List Value) : Prop := match C with
  | (p, l, e, R, s, m, args, below, meth, c, Q, dC, dI, _, _, _, _, A) => ∀ (H : Heap) (locs : List Loc) (ls : Array Slot), va_P (dC, dI) vwCl ws H → va_D A ws → va_S A s.heap H locs → mLoc ls c.maxLocals L → W p l e R s m args below meth c H locs nc ns Q (F0 m pc ls st)
def cOK (cc : ByteArray) (own : String) (nL fr lo ce sl : Nat) (C : mCtx) : Prop := match C with
  | (p, _, _, R, s, m, args, _, _, c, _, dC, dI, dA, _, _, _, A) => p.tables.exec = Jvm.exec ∧ c.code = cc ∧ c.maxLocals = nL ∧ s.vm.findClass own = some m.cls ∧ (∀ w ∈ TB, w.before args s = true) ∧ va_K (dC, dI) vwCl (mTys dA) s ∧ cAO s ∧ (∀ q : Nat, s.heap.size ≤ q → A q) ∧ fr ≤ R.frames ∧ lo ≤ R.locals ∧ ce ≤ R.cells ∧ sl ≤ R.slots
def cIn (C : mCtx) : Prop := match C with
  | (_, _, _, _, _, _, _, _, meth, _, _, _, _, _, _, _, _, _) => meth.name = "<init>"
theorem c_join {A0 : Nat → Prop} {D : va_G} {cl : List vw_C} {ws w1 : va_W} {q : Nat} {x : va_E} {H H1 : Heap} (hP : va_P D cl (ws ++ [(q, x)]) H) (hD : va_D A0 (ws ++ [(q, x)])) (hk : ∀ z : Nat, z < H.size → ¬ va_A [(q, x)] H.size z → H1[z]? = H[z]?) (hF : ∀ z, va_A [(q, x)] H.size z → A0 z) (hP1 : va_P D cl w1 H1) (hD1 : va_D (va_A [(q, x)] H.size) w1) : va_P D cl (ws ++ w1) H1 ∧ va_D A0 (ws ++ w1) := by
  have at' : ∀ (k : Nat) (z : Nat × va_E), ws[k]? = some z → (ws ++ [(q, x)])[k]? = some z := fun k z h => by
    rw [List.getElem?_append_left (List.getElem?_eq_some_iff.mp h).1]; exact h
  have last : (ws ++ [(q, x)])[ws.length]? = some (q, x) := by
    rw [List.getElem?_append_right (Nat.le_refl _), Nat.sub_self]; rfl
  have apart : ∀ (k : Nat) (z : Nat × va_E), ws[k]? = some z → z.1 < H.size ∧ ¬ va_A [(q, x)] H.size z.1 := by
    intro k z h
    have hl := (hP k z (at' k z h)).lt
    refine ⟨hl, fun g => ?_⟩
    rcases g with ⟨k2, e, g⟩ | g
    · have he : (z.1, e) = (q, x) := List.mem_singleton.mp (List.mem_of_getElem? g)
      have hq : z.1 = q := congrArg Prod.fst he
      have hij := hD.1 k ws.length z (q, x) (at' k z h) last hq
      have := (List.getElem?_eq_some_iff.mp h).1
      omega
    · omega
  refine ⟨va_P.app (fun k z h => ?_) hP1, va_D.app ⟨fun i j y z hi hj h => hD.1 i j y z (at' i y hi) (at' j z hj) h, fun k z h => hD.2 k z (at' k z h)⟩ (hD1.weaken (fun k z _ h => hF z.1 h)) (fun i j y z hy hz hyz => ?_)⟩
  · obtain ⟨g1, g2⟩ := apart k z h
    exact (hP k z (at' k z h)).kept (hk z.1 g1 g2)
  · exact (apart i y hy).2 (by rw [hyz]; exact hD1.2 j z hz)
def mMC (l : Launch) (dC : Nat → ClassId) (dI : Nat → Nat → Nat) (dA : Nat → ClassId) (y : MethodName) (cc : ByteArray) (mL fr lo mc ms ci : Nat) (fs : List Value) (f : MU) (sh : List mSC) : Prop := ∀ h0 sz : Nat, Met l y (Cond.code y cc mL none :: TB) { frames := fr, cells := mc, slots := ms, locals := lo } (va_Pc [.ref h0] (fun U => U.heap.size = sz ∧ va_P (dC, dI) vwCl [(h0, .inr (ci, fs))] U.heap ∧ va_K (dC, dI) vwCl (mTys dA) U ∧ cAO U)) (va_Qv (fun a : Nat → Nat => a 0 = h0) (fun a t => va_P (dC, dI) vwCl (bW dA a f sh) t.heap ∧ va_D (va_A [(h0, .inr (ci, fs))] sz) (bW dA a f sh)) (va_A [(h0, .inr (ci, fs))] sz)) mc ms (va_A [(h0, .inr (ci, fs))] sz)
def mEndC (C : mCtx) (nc ns ci h0 : Nat) (fs : List Value) (f : MU) (sh : List mSC) : Prop := match C with
  | (_, _, _, _, s, _, args, below, meth, _, Q, dC, dI, dA, _, _, _, A) => Q = MQ below (va_Qv (fun a : Nat → Nat => a 0 = h0) (fun a t => va_P (dC, dI) vwCl (bW dA a f sh) t.heap ∧ va_D A (bW dA a f sh)) A) args s nc ns A ∧ A = va_A [(h0, .inr (ci, fs))] s.heap.size ∧ meth.sig.returnType = none ∧ meth.locks = false
/-- a constructor's words: its code, its class is there, it can be made -/
def mCi (y : MethodName) (bytes : ByteArray) (mL N : Nat) : Prop := Cond.code y bytes mL none ∈ TB ∧ Cond.initialized y.cls ∈ TB ∧ Cond.instanceMethod y ∈ TB ∧ Cond.instantiable y.cls N ∈ TB ∧ (y.cls ≠ "java/lang/invoke/MethodHandle" ∧ y.cls ≠ "java/lang/invoke/VarHandle") ∧ (parseMethodDescriptor y.desc).map (fun d => d.parameters.length) = some 0 ∧ y.name = "<init>"
def mFin (own : String) (idx ci k : Nat) (ty : FieldType) : Prop := ∃ (Cn : String) (T : u_T) (N : Nat) (ty0 : Nat → FieldType), vwCl[ci]? = some (Cn, T, N) ∧ k < N ∧ (∀ w ∈ u_ws Cn T N, w ∈ TB) ∧ Cond.fieldLink own idx (T k).1 (T k).2.1 (T k).2.2.1 ∈ TB ∧ (∀ k, k < N → parseFieldDescriptor (T k).2.2.1 = some (ty0 k)) ∧ (∀ a, a < N → ∀ b, b < N → a ≠ b → (T a).2.1 ≠ (T b).2.1) ∧ (T k).2.2.2 = true ∧ (T k).1 = own ∧ parseFieldDescriptor (T k).2.2.1 = some ty
section cst
variable {C : mCtx} {cc : ByteArray} {own : String} {nL fr lo ce sl nc ns : Nat} {ws ws' : va_W} {pc : Nat} {L : List (Option Value)} {st : List Value}
theorem c_aload_n (hC : cOK cc own nL fr lo ce sl C) {k : Fin 4} {i a : Nat} (hd : decode cc pc = .ok (.aload_n k, 1)) (hi : (k : Nat) = i) (hl : L[i]? = some (some (.ref a))) (kk : wcn C nc ns ws (pc + 1) L (.ref a :: st)) : wcn C nc ns ws pc L st := by
  obtain ⟨p, l, e, R, s, m, args, below, meth, c, Q, dC, dI, dA, as, x1, x2, A⟩ := C
  obtain ⟨hx, hb, hml, hown, hts, hK, hao, hA, hfr, hlo, hce, hsl⟩ := hC
  intro H locs ls hP hD hS hL
  exact lv_aload_n hx hb hd hi (hL.2.2 _ _ hl) (kk H locs ls hP hD hS hL)
theorem c_iload_n (hC : cOK cc own nL fr lo ce sl C) {k : Fin 4} {i : Nat} {x : Int32} (hd : decode cc pc = .ok (.iload_n k, 1)) (hi : (k : Nat) = i) (hl : L[i]? = some (some (.int x))) (kk : wcn C nc ns ws (pc + 1) L (.int x :: st)) : wcn C nc ns ws pc L st := by
  obtain ⟨p, l, e, R, s, m, args, below, meth, c, Q, dC, dI, dA, as, x1, x2, A⟩ := C
  obtain ⟨hx, hb, hml, hown, hts, hK, hao, hA, hfr, hlo, hce, hsl⟩ := hC
  intro H locs ls hP hD hS hL
  exact lv_iload_n hx hb hd hi (hL.2.2 _ _ hl) (kk H locs ls hP hD hS hL)
theorem c_iconst (hC : cOK cc own nL fr lo ce sl C) {n : Int} (v : Int32) (hd : decode cc pc = .ok (.iconst n, 1)) (hv : Int32.ofInt n = v) (kk : wcn C nc ns ws (pc + 1) L (.int v :: st)) : wcn C nc ns ws pc L st := by
  obtain ⟨p, l, e, R, s, m, args, below, meth, c, Q, dC, dI, dA, as, x1, x2, A⟩ := C
  obtain ⟨hx, hb, hml, hown, hts, hK, hao, hA, hfr, hlo, hce, hsl⟩ := hC
  intro H locs ls hP hD hS hL
  exact lv_iconst hx hb hd hv (kk H locs ls hP hD hS hL)
theorem c_bipush (hC : cOK cc own nL fr lo ce sl C) {n : Int} (v : Int32) (hd : decode cc pc = .ok (.bipush n, 2)) (hv : (Int8.ofInt n).toInt32 = v) (kk : wcn C nc ns ws (pc + 2) L (.int v :: st)) : wcn C nc ns ws pc L st := by
  obtain ⟨p, l, e, R, s, m, args, below, meth, c, Q, dC, dI, dA, as, x1, x2, A⟩ := C
  obtain ⟨hx, hb, hml, hown, hts, hK, hao, hA, hfr, hlo, hce, hsl⟩ := hC
  intro H locs ls hP hD hS hL
  exact lv_bipush hx hb hd hv (kk H locs ls hP hD hS hL)
theorem c_sipush (hC : cOK cc own nL fr lo ce sl C) {n : Int} (v : Int32) (hd : decode cc pc = .ok (.sipush n, 3)) (hv : (Int16.ofInt n).toInt32 = v) (kk : wcn C nc ns ws (pc + 3) L (.int v :: st)) : wcn C nc ns ws pc L st := by
  obtain ⟨p, l, e, R, s, m, args, below, meth, c, Q, dC, dI, dA, as, x1, x2, A⟩ := C
  obtain ⟨hx, hb, hml, hown, hts, hK, hao, hA, hfr, hlo, hce, hsl⟩ := hC
  intro H locs ls hP hD hS hL
  exact lv_sipush hx hb hd hv (kk H locs ls hP hD hS hL)
theorem c_istore_n (hC : cOK cc own nL fr lo ce sl C) {k : Fin 4} {i : Nat} {x : Int32} (L' : List (Option Value)) (hd : decode cc pc = .ok (.istore_n k, 1)) (hi : (k : Nat) = i) (hc : mOne L = true) (hn : i < L.length) (hn2 : i < nL) (hL' : L.set i (some (.int x)) = L') (kk : wcn C nc ns ws (pc + 1) L' st) : wcn C nc ns ws pc L (.int x :: st) := by
  subst hL'
  obtain ⟨p, l, e, R, s, m, args, below, meth, c, Q, dC, dI, dA, as, x1, x2, A⟩ := C
  obtain ⟨hx, hb, hml, hown, hts, hK, hao, hA, hfr, hlo, hce, hsl⟩ := hC
  intro H locs ls hP hD hS hL
  exact lv_istore_n hx hb hd hi hL.has (by rw [hml]; exact hn2) rfl (fun ls' h => kk H locs ls' hP hD hS (mLoc.put hc hn h))
theorem c_astore_n (hC : cOK cc own nL fr lo ce sl C) {k : Fin 4} {i x : Nat} (L' : List (Option Value)) (hd : decode cc pc = .ok (.astore_n k, 1)) (hi : (k : Nat) = i) (hc : mOne L = true) (hn : i < L.length) (hn2 : i < nL) (hL' : L.set i (some (.ref x)) = L') (kk : wcn C nc ns ws (pc + 1) L' st) : wcn C nc ns ws pc L (.ref x :: st) := by
  subst hL'
  obtain ⟨p, l, e, R, s, m, args, below, meth, c, Q, dC, dI, dA, as, x1, x2, A⟩ := C
  obtain ⟨hx, hb, hml, hown, hts, hK, hao, hA, hfr, hlo, hce, hsl⟩ := hC
  intro H locs ls hP hD hS hL
  exact lv_astore_n hx hb hd hi hL.has (by rw [hml]; exact hn2) rfl (fun ls' h => kk H locs ls' hP hD hS (mLoc.put hc hn h))
theorem c_iinc (hC : cOK cc own nL fr lo ce sl C) {i : Nat} {n : Int} {x : Int32} (v : Int32) (L' : List (Option Value)) (hd : decode cc pc = .ok (.iinc i n, 3)) (hl : L[i]? = some (some (.int x))) (hv : x + Int32.ofInt n = v) (hc : mOne L = true) (hn2 : i < nL) (hL' : L.set i (some (.int v)) = L') (kk : wcn C nc ns ws (pc + 3) L' st) : wcn C nc ns ws pc L st := by
  subst hL'
  obtain ⟨p, l, e, R, s, m, args, below, meth, c, Q, dC, dI, dA, as, x1, x2, A⟩ := C
  obtain ⟨hx, hb, hml, hown, hts, hK, hao, hA, hfr, hlo, hce, hsl⟩ := hC
  intro H locs ls hP hD hS hL
  obtain ⟨k, hk⟩ := List.getElem?_of_mem (mPr_mem.mpr hl)
  exact lv_iinc hx hb hd hL.has hk hv (by rw [hml]; exact hn2) rfl (fun ls' h => kk H locs ls' hP hD hS (mLoc.put hc (List.getElem?_eq_some_iff.mp hl).1 h))
theorem c_goto (hC : cOK cc own nL fr lo ce sl C) {off : Int} (tgt : Nat) (hd : decode cc pc = .ok (.goto off, 3)) (ht : (pc : Int) + off = (tgt : Int)) (kk : wcn C nc ns ws tgt L st) : wcn C nc ns ws pc L st := by
  obtain ⟨p, l, e, R, s, m, args, below, meth, c, Q, dC, dI, dA, as, x1, x2, A⟩ := C
  obtain ⟨hx, hb, hml, hown, hts, hK, hao, hA, hfr, hlo, hce, hsl⟩ := hC
  intro H locs ls hP hD hS hL
  exact lv_goto hx hb hd ht (kk H locs ls hP hD hS hL)
theorem c_icmp_geY (hC : cOK cc own nL fr lo ce sl C) {x y : Int32} {off : Int} (tgt : Nat) (hd : decode cc pc = .ok (.if_icmp .ge off, 3)) (ht : (pc : Int) + off = (tgt : Int)) (h : y ≤ x) (kk : wcn C nc ns ws tgt L st) : wcn C nc ns ws pc L (.int y :: .int x :: st) := by
  obtain ⟨p, l, e, R, s, m, args, below, meth, c, Q, dC, dI, dA, as, x1, x2, A⟩ := C
  obtain ⟨hx, hb, hml, hown, hts, hK, hao, hA, hfr, hlo, hce, hsl⟩ := hC
  intro H locs ls hP hD hS hL
  exact lv_icmp_ge hx hb hd ht (fun _ => kk H locs ls hP hD hS hL) (fun g => absurd h g)
theorem c_icmp_geN (hC : cOK cc own nL fr lo ce sl C) {x y : Int32} {off : Int} (tgt : Nat) (hd : decode cc pc = .ok (.if_icmp .ge off, 3)) (ht : (pc : Int) + off = (tgt : Int)) (h : ¬ y ≤ x) (kk : wcn C nc ns ws (pc + 3) L st) : wcn C nc ns ws pc L (.int y :: .int x :: st) := by
  obtain ⟨p, l, e, R, s, m, args, below, meth, c, Q, dC, dI, dA, as, x1, x2, A⟩ := C
  obtain ⟨hx, hb, hml, hown, hts, hK, hao, hA, hfr, hlo, hce, hsl⟩ := hC
  intro H locs ls hP hD hS hL
  exact lv_icmp_ge hx hb hd ht (fun g => absurd g h) (fun _ => kk H locs ls hP hD hS hL)
theorem c_eq (h : ws = ws') (kk : wcn C nc ns ws' pc L st) : wcn C nc ns ws pc L st := h ▸ kk
theorem c_newI (hC : cOK cc own nL fr lo ce sl C) {n : Int32} {N : Nat} (hw : Cond.arrayClass .int ∈ TB) (hn : ¬ n < 0) (hN : n.toNatClampNeg = N) (hb4 : N * componentBytes .int ≤ 536870912) (hnc : nc + 1 ≤ ce) (hns : ns + N ≤ sl) (hd : decode cc pc = .ok (.newarray .int, 2)) (kk : ∀ q : Nat, wcn C (nc + 1) (ns + N) (ws ++ [(q, .inl (cA C 0, N, .inl (fun _ => 0)))]) (pc + 2) L (.ref q :: st)) : wcn C nc ns ws pc L (.int n :: st) := by
  obtain ⟨p, l, e, R, s, m, args, below, meth, c, Q, dC, dI, dA, as, x1, x2, A⟩ := C
  obtain ⟨hx, hb, hml, hown, hts, hK, hao, hA, hfr, hlo, hce, hsl⟩ := hC
  intro H locs ls hP hD hS hL
  refine va_newa (atype := .int) (ty := .int) (a0 := (N, .inl (fun _ => 0))) hx hb (hts _ hw) rfl hK hP hD hS hA (fun _ => rfl) hn hN hb4 (Nat.le_trans hnc hce) (Nat.le_trans hns hsl) hd (fun q cA H1 hK1 hP1 hD1 hS1 => ?_)
  have e1 : s.vm.findClass ("[" ++ FieldType.int.toString) = some cA := (hK1.2 4 (cA, .int) rfl).2
  have e2 : s.vm.findClass ("[" ++ FieldType.int.toString) = some (dA 0) := (hK.2 0 (dA 0, .int) rfl).2
  have e3 : cA = dA 0 := Option.some.inj (e1.symm.trans e2)
  subst e3
  exact kk q H1 locs ls hP1 hD1 hS1 hL
theorem c_newZ (hC : cOK cc own nL fr lo ce sl C) {n : Int32} {N : Nat} (hw : Cond.arrayClass .boolean ∈ TB) (hn : ¬ n < 0) (hN : n.toNatClampNeg = N) (hb4 : N * componentBytes .boolean ≤ 536870912) (hnc : nc + 1 ≤ ce) (hns : ns + N ≤ sl) (hd : decode cc pc = .ok (.newarray .boolean, 2)) (kk : ∀ q : Nat, wcn C (nc + 1) (ns + N) (ws ++ [(q, .inl (cA C 1, N, .inl (fun _ => 0)))]) (pc + 2) L (.ref q :: st)) : wcn C nc ns ws pc L (.int n :: st) := by
  obtain ⟨p, l, e, R, s, m, args, below, meth, c, Q, dC, dI, dA, as, x1, x2, A⟩ := C
  obtain ⟨hx, hb, hml, hown, hts, hK, hao, hA, hfr, hlo, hce, hsl⟩ := hC
  intro H locs ls hP hD hS hL
  refine va_newa (atype := .boolean) (ty := .boolean) (a0 := (N, .inl (fun _ => 0))) hx hb (hts _ hw) rfl hK hP hD hS hA (fun _ => rfl) hn hN hb4 (Nat.le_trans hnc hce) (Nat.le_trans hns hsl) hd (fun q cA H1 hK1 hP1 hD1 hS1 => ?_)
  have e1 : s.vm.findClass ("[" ++ FieldType.boolean.toString) = some cA := (hK1.2 4 (cA, .boolean) rfl).2
  have e2 : s.vm.findClass ("[" ++ FieldType.boolean.toString) = some (dA 1) := (hK.2 1 (dA 1, .boolean) rfl).2
  have e3 : cA = dA 1 := Option.some.inj (e1.symm.trans e2)
  subst e3
  exact kk q H1 locs ls hP1 hD1 hS1 hL
theorem c_newq (hC : cOK cc own nL fr lo ce sl C) (t : Nat) {nm : String} {n : Int32} {N idx : Nat} (hnm : (nm = "SwapCalls$Routine" ∧ t = 2) ∨ (nm = "SwapCalls$Image" ∧ t = 3)) (hcl : Cond.classLink own idx nm ∈ TB) (hn : ¬ n < 0) (hN : n.toNatClampNeg = N) (hb4 : N * 4 ≤ 536870912) (hnc : nc + 1 ≤ ce) (hns : ns + N ≤ sl) (hd : decode cc pc = .ok (.anewarray idx, 3)) (kk : ∀ q : Nat, wcn C (nc + 1) (ns + N) (ws ++ [(q, .inl (cA C t, N, .inr (.inr (.inr (.inr (fun _ => none))))))]) (pc + 3) L (.ref q :: st)) : wcn C nc ns ws pc L (.int n :: st) := by
  obtain ⟨p, l, e, R, s, m, args, below, meth, c, Q, dC, dI, dA, as, x1, x2, A⟩ := C
  obtain ⟨hx, hb, hml, hown, hts, hK, hao, hA, hfr, hlo, hce, hsl⟩ := hC
  intro H locs ls hP hD hS hL
  have hov : va_AO nm s := by
    rcases hnm with ⟨rfl, -⟩ | ⟨rfl, -⟩
    · exact hao.1
    · exact hao.2
  have hty : (mTys dA)[t]? = some (dA t, .object nm) := by
    rcases hnm with ⟨rfl, rfl⟩ | ⟨rfl, rfl⟩ <;> rfl
  refine va_newq hx hb hown (hts _ hcl) hov hK hP hD hS hA hn hN hb4 (Nat.le_trans hnc hce) (Nat.le_trans hns hsl) hd (fun q cA H1 hK1 hP1 hD1 hS1 => ?_)
  obtain ⟨k1, o1, -, -, -, e1⟩ := (hK1.2 4 (cA, .object nm) rfl).2
  obtain ⟨k2, o2, -, -, -, e2⟩ := (hK.2 t (dA t, .object nm) hty).2
  have e3 : cA = dA t := Option.some.inj (e1.symm.trans e2)
  subst e3
  exact kk q H1 locs ls hP1 hD1 hS1 hL
theorem c_obj (hC : cOK cc own nL fr lo ce sl C) {idx a : Nat} (hw : Cond.methodLink own idx objectInit ∈ TB ∧ Cond.instanceMethod objectInit ∈ TB ∧ Cond.code objectInit ⟨#[0xb1]⟩ 1 none ∈ TB) (hfr1 : 1 ≤ fr) (hlo1 : 12 ≤ lo) (hd : decode cc pc = .ok (.invokespecial idx, 3)) (kk : wcn C nc ns ws (pc + 3) L []) : wcn C nc ns ws pc L [.ref a] := by
  obtain ⟨p, l, e, R, s, m, args, below, meth, c, Q, dC, dI, dA, as, x1, x2, A⟩ := C
  obtain ⟨hx, hb, hml, hown, hts, hK, hao, hA, hfr, hlo, hce, hsl⟩ := hC
  intro H locs ls hP hD hS hL
  refine W.objInit hx hb hown (hts _ hw.1) (hts _ hw.2.1) (hts _ hw.2.2) rfl hL.1 rfl hd (Nat.le_trans hfr1 hfr) ?_ (kk H locs ls hP hD hS hL)
  show 2 * 0 + 0 + 12 ≤ R.locals
  omega
theorem c_putF (hC : cOK cc own nL fr lo ce sl C) (hI : cIn C) {idx ci k a v : Nat} {ty : FieldType} {fs : List Value} (ws' : va_W) (hf : mFin own idx ci k ty) (he : ws[0]? = some (a, .inr (ci, fs))) (hn : narrow ty (.ref v) = .ref v) (hfit : fits ty (.ref v) = true) (hl : k < fs.length) (hd : decode cc pc = .ok (.putfield idx, 3)) (hw : ws.set 0 (a, .inr (ci, fs.set k (.ref v))) = ws') (kk : wcn C nc ns ws' (pc + 3) L st) : wcn C nc ns ws pc L (.ref v :: .ref a :: st) := by
  subst hw
  obtain ⟨p, l, e, R, s, m, args, below, meth, c, Q, dC, dI, dA, as, x1, x2, A⟩ := C
  obtain ⟨hx, hb, hml, hown, hts, hK, hao, hA, hfr, hlo, hce, hsl⟩ := hC
  obtain ⟨Cn, T, N, ty0, g1, g2, g3, g4, g5, g6, g7, g8, g9⟩ := hf
  intro H locs ls hP hD hS hL
  exact va_putF hx hb hts g3 ty0 g5 g6 hown hK hP hD hS 0 he g1 k g2 (hts _ g4) (fun _ h => h) g7 hI g8 g9 hn hfit hl hd (fun H1 locs1 hP1 hD1 hS1 => kk H1 locs1 ls hP1 hD1 hS1 hL)
theorem c_putI (hC : cOK cc own nL fr lo ce sl C) {idx ci k a : Nat} {v : Int32} {ty : FieldType} {fs : List Value} (ws' : va_W) (hf : mFldP own idx ci k ty) (he : ws[0]? = some (a, .inr (ci, fs))) (hn : narrow ty (.int v) = .int v) (hfit : fits ty (.int v) = true) (hl : k < fs.length) (hd : decode cc pc = .ok (.putfield idx, 3)) (hw : ws.set 0 (a, .inr (ci, fs.set k (.int v))) = ws') (kk : wcn C nc ns ws' (pc + 3) L st) : wcn C nc ns ws pc L (.int v :: .ref a :: st) := by
  subst hw
  obtain ⟨p, l, e, R, s, m, args, below, meth, c, Q, dC, dI, dA, as, x1, x2, A⟩ := C
  obtain ⟨hx, hb, hml, hown, hts, hK, hao, hA, hfr, hlo, hce, hsl⟩ := hC
  obtain ⟨Cn, T, N, ty0, g1, g2, g3, g4, g5, g6, g7, g8⟩ := hf
  intro H locs ls hP hD hS hL
  rcases g4 with g4 | ⟨host, g4⟩
  · exact va_put hx hb hts g3 ty0 g5 g6 hown hK hP hD hS 0 he g1 k g2 (hts _ g4) (fun _ h => h) g7 g8 hn hfit hl hd (fun H1 locs1 hP1 hD1 hS1 => kk H1 locs1 ls hP1 hD1 hS1 hL)
  · exact va_putN hx hb hts g3 ty0 g5 g6 hown hK hP hD hS 0 he g1 k g2 (hts _ g4) (fun _ h => h) g7 g8 hn hfit hl hd (fun H1 locs1 hP1 hD1 hS1 => kk H1 locs1 ls hP1 hD1 hS1 hL)
theorem c_getF (hC : cOK cc own nL fr lo ce sl C) {idx ci k a : Nat} {v : Value} {fs : List Value} (hf : mFld own idx ci k) (he : ws[0]? = some (a, .inr (ci, fs))) (hv : fs[k]? = some v) (hd : decode cc pc = .ok (.getfield idx, 3)) (kk : wcn C nc ns ws (pc + 3) L (v :: st)) : wcn C nc ns ws pc L (.ref a :: st) := by
  obtain ⟨p, l, e, R, s, m, args, below, meth, c, Q, dC, dI, dA, as, x1, x2, A⟩ := C
  obtain ⟨hx, hb, hml, hown, hts, hK, hao, hA, hfr, hlo, hce, hsl⟩ := hC
  obtain ⟨Cn, T, N, hc, hk, hin, hl⟩ := hf
  intro H locs ls hP hD hS hL
  rcases hl with hl | ⟨host, hl⟩
  · exact va_get hx hb hts hin hown hK hP 0 he hc k hk (hts _ hl) (fun _ h => h) hv hd (kk H locs ls hP hD hS hL)
  · exact va_getN hx hb hts hin hown hK hP 0 he hc k hk (hts _ hl) (fun _ h => h) hv hd (kk H locs ls hP hD hS hL)
theorem c_aast (hC : cOK cc own nL fr lo ce sl C) {a v n ci t j : Nat} {i : Int32} {vs : List Value} {f : Nat → Option Nat} {r : vw_C} (q0 qk : Nat) (ws' : va_W) (ha : ws[q0]? = some (a, .inl (cA C t, n, .inr (.inr (.inr (.inr f)))))) (ht : ∀ dA : Nat → ClassId, (mTys dA)[t]? = some (dA t, .object r.1)) (hv : ws[qk]? = some (v, .inr (ci, vs))) (hc : vwCl[ci]? = some r) (hi : mIx i n = true) (hj : i.toNatClampNeg = j) (hd : decode cc pc = .ok (.aastore, 1)) (hw : ws.set q0 (a, .inl (cA C t, n, .inr (.inr (.inr (.inr (va_up f j (some v))))))) = ws') (kk : wcn C nc ns ws' (pc + 1) L st) : wcn C nc ns ws pc L (.ref v :: .int i :: .ref a :: st) := by
  subst hw
  subst hj
  obtain ⟨p, l, e, R, s, m, args, below, meth, c, Q, dC, dI, dA, as, x1, x2, A⟩ := C
  obtain ⟨hx, hb, hml, hown, hts, hK, hao, hA, hfr, hlo, hce, hsl⟩ := hC
  intro H locs ls hP hD hS hL
  exact va_astq hx hb hK hP hD hS q0 t qk ci ha (ht dA) hv hc (mIx_in hi) hd (fun H1 locs1 hP1 hD1 hS1 => kk H1 locs1 ls hP1 hD1 hS1 hL)
theorem c_mk (hC : cOK cc own nL fr lo ce sl C) {y : MethodName} {bytes : ByteArray} {mL fr' lo' mc ms ci N idx idx2 : Nat} {T : u_T} {ty : Nat → FieldType} {fs : List Value} {f : MU} {sh : List mSC} (hM : mMC (cL C) (cC C) (cI C) (cA C) y bytes mL fr' lo' mc ms ci fs f sh) (hci : vwCl[ci]? = some (y.cls, T, N)) (hin : ∀ w ∈ u_ws y.cls T N, w ∈ TB) (hty : ∀ k, k < N → parseFieldDescriptor (T k).2.2.1 = some (ty k)) (hcl : Cond.classLink own idx y.cls ∈ TB) (hw : mCi y bytes mL N) (hl : Cond.methodLink own idx2 y ∈ TB ∨ ∃ host : String, Cond.methodLinkNest own idx2 y host ∈ TB) (hfs : ∀ j, j < N → defaultValue (ty j) = vp_V fs j) (hfr1 : fr' + 1 ≤ fr) (hlo1 : 8 + (mL + 11) + lo' ≤ lo) (hst : (st.map fun v => v.category).sum ≤ 7) (hnc : nc + 1 + mc ≤ ce) (hns : ns + N + ms ≤ sl) (hd : decode cc pc = .ok (.new idx, 3)) (hd2 : decode cc (pc + 3) = .ok (.dup, 1)) (hd3 : decode cc (pc + 3 + 1) = .ok (.invokespecial idx2, 3)) (kk : ∀ a : Nat → Nat, wcn C (nc + 1 + mc) (ns + N + ms) (ws ++ bW (cA C) a f sh) (pc + 3 + 1 + 3) L (.ref (a 0) :: st)) : wcn C nc ns ws pc L st := by
  obtain ⟨p, l, e, R, s, m, args, below, meth, c, Q, dC, dI, dA, as, x1, x2, A⟩ := C
  obtain ⟨hx, hb, hml, hown, hts, hK, hao, hA, hfr, hlo, hce, hsl⟩ := hC
  obtain ⟨w1, w2, w3, w4, w5, w6, w7⟩ := hw
  intro H locs ls hP hD hS hL
  refine va_new (ci := ci) (fs := fs) hx hb hts hin ty hty hown (hts _ hcl) (hts _ w4) (hts _ w2) hK hP hD hS hA hci hfs (by omega) (by omega) hd (fun q H hP hD hS => ?_)
  refine lv_dup hx hb hd2 rfl ?_
  have hlast : (ws ++ [(q, Sum.inr (ci, fs))])[ws.length]? = some (q, (Sum.inr (ci, fs) : va_E)) := by
    rw [List.getElem?_append_right (Nat.le_refl _), Nat.sub_self]; rfl
  have hPc : va_P (dC, dI) vwCl [(q, .inr (ci, fs))] H := fun k z hz => by
    have : z = (q, Sum.inr (ci, fs)) := List.mem_singleton.mp (List.mem_of_getElem? hz)
    rw [this]
    exact hP ws.length _ hlast
  have hFc : ∀ z, va_A [(q, .inr (ci, fs))] H.size z → A z := va_free hD hS hA [ws.length] (by rw [List.map_cons, hlast]; rfl)
  have hpre : PreS s H (va_Pc [.ref q] (fun U => U.heap.size = H.size ∧ va_P (dC, dI) vwCl [(q, .inr (ci, fs))] U.heap ∧ va_K (dC, dI) vwCl (mTys dA) U ∧ cAO U)) [.ref q] := ⟨fun a U g mk x => ⟨x.1, x.2.1, x.2.2.1, va_K.moved (u := U) (U := U.calling g mk a) (Vm.Alike.refl U.vm) x.2.2.2.1, cAO.moved (u := U) (U := U.calling g mk a) (Vm.Alike.refl U.vm) x.2.2.2.2⟩, fun U hU hW => ⟨rfl, by rw [hU], by rw [hU]; exact hPc, va_K.moved hW.alike hK, cAO.moved hW.alike hao⟩⟩
  have hst2 : ((Value.ref q :: st).map fun v => v.category).sum ≤ 8 := by
    show 1 + (st.map fun v => v.category).sum ≤ 8
    omega
  have fin : ∀ (a : Nat → Nat) (t : State) (H1 : Heap) (locs1 : List Loc), t.heap = H1 → s.vm.Alike t.vm → a 0 = q → (va_P (dC, dI) vwCl (bW dA a f sh) t.heap ∧ va_D (va_A [(q, .inr (ci, fs))] H.size) (bW dA a f sh)) → H.size ≤ H1.size → (∀ z : Nat, z < H.size → ¬ va_A [(q, .inr (ci, fs))] H.size z → H1[z]? = H[z]?) → va_S A s.heap H1 locs1 → W p l e R s m args below meth c H1 locs1 (nc + 1 + mc) (ns + N + ms) Q (F0 m (pc + 3 + 1 + 3) ls (.ref q :: st)) := by
    intro a t H1 locs1 ht hvm ha hB hz1 hk1 hS1
    obtain ⟨hP1, hD1⟩ := hB
    rw [ht] at hP1
    obtain ⟨hP2, hD2⟩ := c_join hP hD hk1 hFc hP1 hD1
    rw [← ha]
    exact kk a H1 locs1 ls hP2 hD2 hS1 hL
  have hpar : ∀ sig, parseMethodDescriptor y.desc = some sig → 0 = sig.parameters.length := fun sig h => by rw [h] at w6; exact (Option.some.inj w6).symm
  have hroom : 2 * (F0 m (pc + 3 + 1) ls (.ref q :: .ref q :: st)).monitorRoom + ((Value.ref q :: st).map fun v => v.category).sum ≤ 8 := lv_room hst2
  rcases hl with hl | ⟨host, hl⟩
  · exact va_callv (va_runI (As := []) (rest := .ref q :: st) (b := q) (bytes := bytes) (maxL := mL) ⟨hx, hb, rfl, hown, hts⟩ (hM q H.size) ⟨⟨rfl, rfl, Nat.le_trans hfr1 hfr, Nat.le_trans hlo1 hlo, tb_warm2 hts w1, List.mem_cons_self, hts _ w1, hts _ w2, w5, hpar, hts _ hl⟩, w7, hts _ w3⟩ hpre rfl rfl hL.1 rfl hroom hd3 ⟨Nat.le_trans hnc hce, Nat.le_trans hns hsl⟩) hS (fun z _ h => hFc z h) hFc fin
  · exact va_callv (va_runIN (As := []) (rest := .ref q :: st) (b := q) (bytes := bytes) (maxL := mL) ⟨hx, hb, rfl, hown, hts⟩ (hM q H.size) ⟨⟨⟨rfl, rfl, Nat.le_trans hfr1 hfr, Nat.le_trans hlo1 hlo, tb_warm2 hts w1, List.mem_cons_self⟩, hts _ w1, hts _ w2, w5, hpar, hts _ hl⟩, w7, hts _ w3⟩ hpre rfl rfl hL.1 rfl hroom hd3 ⟨Nat.le_trans hnc hce, Nat.le_trans hns hsl⟩) hS (fun z _ h => hFc z h) hFc fin
theorem c_ret (hC : cOK cc own nL fr lo ce sl C) {ci h0 : Nat} {fs : List Value} {f : MU} {sh : List mSC} (hE : mEndC C nc ns ci h0 fs f sh) (a : Nat → Nat) (ha : a 0 = h0) (hw : ws = bW (cA C) a f sh) (hd : decode cc pc = .ok (.return_, 1)) : wcn C nc ns ws pc L [] := by
  subst hw
  obtain ⟨p, l, e, R, s, m, args, below, meth, c, Q, dC, dI, dA, as, x1, x2, A⟩ := C
  obtain ⟨hx, hb, hml, hown, hts, hK, hao, hA, hfr, hlo, hce, hsl⟩ := hC
  obtain ⟨rfl, -, hr, hlk⟩ := hE
  intro H locs ls hP hD hS hL
  exact W.vret hx hb hr (fun t ht hW => ⟨⟨a, rfl, ha, by rw [ht]; exact hP, hD⟩, hS.F ht⟩) hS.2.2 hd
end cst
theorem c_one {h0 sz : Nat} {x : va_E} : va_D (va_A [(h0, x)] sz) [(h0, x)] := by
  refine ⟨fun i j y z hi hj _ => ?_, fun k z hk => va_A.in hk⟩
  have h1 := (List.getElem?_eq_some_iff.mp hi).1
  have h2 := (List.getElem?_eq_some_iff.mp hj).1
  simp only [List.length_cons, List.length_nil] at h1 h2
  omega
theorem mMCof {l : Launch} {dC : Nat → ClassId} {dI : Nat → Nat → Nat} {dA : Nat → ClassId} {y : MethodName} {cc : ByteArray} {mL fr lo mc ms ci : Nat} {fs : List Value} {f : MU} {sh : List mSC} (own : String) (L1 : List (Option Value)) (hy : plainName y.cls = true) (ho : y.cls = own) (hn : y.name = "<init>") (hlen : 1 ≤ mL) (hL0 : ∀ h0 : Nat, mPr (some (.ref h0) :: L1) = lv_args 0 [.ref h0]) (body : ∀ (C : mCtx) (h0 : Nat), cL C = l → cC C = dC → cI C = dI → cA C = dA → cOK cc own mL fr lo mc ms C → cIn C → mEndC C mc ms ci h0 fs f sh → wcn C 0 0 [(h0, .inr (ci, fs))] 0 (some (.ref h0) :: L1) []) : mMC l dC dI dA y cc mL fr lo mc ms ci fs f sh := by
  intro h0 sz
  refine Met.ofW (cc := cc) (maxL := mL) (ret := none) hy rfl ?_
  intro p e s m args below meth c s₁ B hml hv
  obtain ⟨rfl, hsz, hP, hK, hao⟩ := hv
  have hts := atoms_spec (ws := Cond.code y cc mL none :: TB) B.pre
  have hown : s.vm.findClass own = some m.cls := ho ▸ findClass_of_methodNamed B.named
  have hin : meth.name = "<init>" := (name_of_methodNamed B.named B.method).1.trans hn
  subst hsz
  have hl := lv_entry [.ref h0] (n := mL) hlen
  rw [lg_entry_eq]
  generalize (lg_sl [.ref h0] ++ List.replicate (mL - (lg_sl [.ref h0]).length) Slot.unset).toArray = ls at hl ⊢
  have h := body (p, l, e, { frames := fr, cells := mc, slots := ms, locals := lo }, s, m, [Value.ref h0].toArray, below, meth, c, MQ below (va_Qv (fun a : Nat → Nat => a 0 = h0) (fun a t => va_P (dC, dI) vwCl (bW dA a f sh) t.heap ∧ va_D (va_A [(h0, .inr (ci, fs))] s.heap.size) (bW dA a f sh)) (va_A [(h0, .inr (ci, fs))] s.heap.size)) [Value.ref h0].toArray s mc ms (va_A [(h0, .inr (ci, fs))] s.heap.size), dC, dI, dA, (fun _ => 0), 0, 0, va_A [(h0, .inr (ci, fs))] s.heap.size) h0 rfl rfl rfl rfl ⟨B.exec, B.bytes, hml, hown, fun w hw => hts w (List.mem_cons_of_mem _ hw), hK, hao, fun q h => Or.inr h, Nat.le_refl _, Nat.le_refl _, Nat.le_refl _, Nat.le_refl _⟩ hin ⟨rfl, rfl, B.returns, B.notSynchronized⟩
  refine h s.heap [] ls hP c_one va_S.rf ⟨hl.1.trans hml.symm, hl.2.1, fun i v hi => hl.2.2 (i, v) ?_⟩
  rw [← hL0 h0]
  exact mPr_mem.mpr hi
