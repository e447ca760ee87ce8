def mFld (own : String) (idx ci k : Nat) : Prop := ∃ (Cn : String) (T : u_T) (N : Nat), vwCl[ci]? = some (Cn, T, N) ∧ k < N ∧ (∀ w ∈ u_ws Cn T N, w ∈ TB) ∧ (Cond.fieldLink own idx (T k).1 (T k).2.1 (T k).2.2.1 ∈ TB ∨ ∃ host : String, Cond.fieldLinkNest own idx (T k).1 (T k).2.1 (T k).2.2.1 host ∈ TB)
def mFldP (own : String) (idx ci k : Nat) (ty : FieldType) : Prop := ∃ (Cn : String) (T : u_T) (N : Nat) (ty0 : Nat → FieldType), vwCl[ci]? = some (Cn, T, N) ∧ k < N ∧ (∀ w ∈ u_ws Cn T N, w ∈ TB) ∧ (Cond.fieldLink own idx (T k).1 (T k).2.1 (T k).2.2.1 ∈ TB ∨ ∃ host : String, Cond.fieldLinkNest own idx (T k).1 (T k).2.1 (T k).2.2.1 host ∈ TB) ∧ (∀ k, k < N → parseFieldDescriptor (T k).2.2.1 = some (ty0 k)) ∧ (∀ a, a < N → ∀ b, b < N → a ≠ b → (T a).2.1 ≠ (T b).2.1) ∧ (T k).2.2.2 = false ∧ parseFieldDescriptor (T k).2.2.1 = some ty
def mWd (dC : Nat → ClassId) (dI : Nat → Nat → Nat) (dA : Nat → ClassId) (as : Nat → Nat) (u : MU) (U : State) : Prop := va_P (dC, dI) vwCl (mW dA as u) U.heap ∧ va_K (dC, dI) vwCl (mTys dA) U
def mMI (l : Launch) (dC : Nat → ClassId) (dI : Nat → Nat → Nat) (dA : Nat → ClassId) (as : Nat → Nat) (y : MethodName) (cc : ByteArray) (mL : Nat) (rt : FieldType) (fr lo : Nat) (av : List Value) (u : MU) (r : Int32) (u' : MU) : Prop := Met l y (Cond.code y cc mL (some rt) :: TB) { frames := fr, cells := 0, slots := 0, locals := lo } (va_Pc av (mWd dC dI dA as u)) (va_Qi (fun x (_ : Unit) => x = r) (fun _ t => mWd dC dI dA as u' t) (mA as)) 0 0 (mA as)
def mMV (l : Launch) (dC : Nat → ClassId) (dI : Nat → Nat → Nat) (dA : Nat → ClassId) (as : Nat → Nat) (y : MethodName) (cc : ByteArray) (mL : Nat) (fr lo : Nat) (av : List Value) (u : MU) (u' : MU) : Prop := Met l y (Cond.code y cc mL none :: TB) { frames := fr, cells := 0, slots := 0, locals := lo } (va_Pc av (mWd dC dI dA as u)) (va_Qv (fun (_ : Unit) => True) (fun _ t => mWd dC dI dA as u' t) (mA as)) 0 0 (mA as)
def mEndI (C : mCtx) (ty : FieldType) (r : Int32) (u : MU) : Prop := match C with
  | (_, _, _, _, s, _, args, below, meth, _, Q, dC, dI, dA, as, nc, ns, A) => (nc = 0 ∧ ns = 0 ∧ A = mA as) ∧ Q = MQ below (va_Qi (fun x (_ : Unit) => x = r) (fun _ t => mWd dC dI dA as u t) (mA as)) args s 0 0 (mA as) ∧ meth.sig.returnType = some ty ∧ meth.locks = false
def mEndV (C : mCtx) (u : MU) : Prop := match C with
  | (_, _, _, _, s, _, args, below, meth, _, Q, dC, dI, dA, as, nc, ns, A) => (nc = 0 ∧ ns = 0 ∧ A = mA as) ∧ Q = MQ below (va_Qv (fun (_ : Unit) => True) (fun _ t => mWd dC dI dA as u t) (mA as)) args s 0 0 (mA as) ∧ meth.sig.returnType = none ∧ meth.locks = false
def mCal (y : MethodName) (bytes : ByteArray) (mL : Nat) (rt : Option FieldType) (n : Nat) : Prop := Cond.code y bytes mL rt ∈ TB ∧ Cond.initialized y.cls ∈ TB ∧ (Cond.instanceMethod y ∈ TB ∧ Cond.selects y.cls y y ∈ TB) ∧ (y.cls ≠ "java/lang/invoke/MethodHandle" ∧ y.cls ≠ "java/lang/invoke/VarHandle") ∧ (parseMethodDescriptor y.desc).map (fun d => d.parameters.length) = some n
def mCalS (y : MethodName) (bytes : ByteArray) (mL : Nat) (rt : Option FieldType) (n : Nat) : Prop := Cond.code y bytes mL rt ∈ TB ∧ Cond.initialized y.cls ∈ TB ∧ Cond.static y ∈ TB ∧ (y.cls ≠ "java/lang/invoke/MethodHandle" ∧ y.cls ≠ "java/lang/invoke/VarHandle") ∧ (parseMethodDescriptor y.desc).map (fun d => d.parameters.length) = some n
theorem mZ_nar {x : Int32} (h : mZ x = true) : x &&& 1 = x := by
  unfold mZ at h
  rw [Bool.or_eq_true, decide_eq_true_eq, decide_eq_true_eq] at h
  rcases h with rfl | rfl <;> decide
theorem mZ_fit {x : Int32} (h : mZ x = true) : fits .boolean (.int x) = true := by
  unfold mZ at h
  rw [Bool.or_eq_true, decide_eq_true_eq, decide_eq_true_eq] at h
  rcases h with rfl | rfl <;> decide
section zhp
variable {C : mCtx} {cc : ByteArray} {own : String} {nL fr lo : Nat} {u : MU} {pc : Nat} {L : List (Option Value)} {st : List Value}
theorem z_getO (hC : mOK cc own nL fr lo C) {idx ci k q : Nat} {fl : List (Option Nat)} {o : Option Nat} (hf : mFld own idx ci k) (hs : mSh[q]? = some (.inr (.inr (ci, fl)))) (hfl : fl[k]? = some o) (hd : decode cc pc = .ok (.getfield idx, 3)) (kk : wat C u (pc + 3) L (mV (cS C) (u q k) o :: st)) : wat C u pc L (.ref (cS C q) :: st) := by
  obtain ⟨p, l, e, R, s, m, args, below, meth, c, Q, dC, dI, dA, as, nc, ns, A⟩ := C
  obtain ⟨hx, hb, hml, hown, hts, hK, hD, hA, hnc, hns, hfr, hlo⟩ := hC
  obtain ⟨Cn, T, N, hc, hk, hin, hl⟩ := hf
  intro H locs ls hP hS hL
  rcases hl with hl | ⟨host, hl⟩
  · exact va_get hx hb hts hin hown hK hP q (mW_get hs) hc k hk (hts _ hl) (fun _ h => h) (mF_get hfl) hd (kk H locs ls hP hS hL)
  · exact va_getN hx hb hts hin hown hK hP q (mW_get hs) hc k hk (hts _ hl) (fun _ h => h) (mF_get hfl) hd (kk H locs ls hP hS hL)
theorem z_getI (hC : mOK cc own nL fr lo C) {idx ci k q : Nat} {fl : List (Option Nat)} (hf : mFld own idx ci k) (hs : mSh[q]? = some (.inr (.inr (ci, fl)))) (hfl : fl[k]? = some none) (hd : decode cc pc = .ok (.getfield idx, 3)) (kk : wat C u (pc + 3) L (.int (u q k) :: st)) : wat C u pc L (.ref (cS C q) :: st) := z_getO hC hf hs hfl hd kk
theorem z_getR (hC : mOK cc own nL fr lo C) {idx ci k q : Nat} (q' : Nat) {fl : List (Option Nat)} (hf : mFld own idx ci k) (hs : mSh[q]? = some (.inr (.inr (ci, fl)))) (hfl : fl[k]? = some (some q')) (hd : decode cc pc = .ok (.getfield idx, 3)) (kk : wat C u (pc + 3) L (.ref (cS C q') :: st)) : wat C u pc L (.ref (cS C q) :: st) := z_getO hC hf hs hfl hd kk
theorem z_putO (hC : mOK cc own nL fr lo C) {idx ci k q : Nat} {fl : List (Option Nat)} {ty : FieldType} {v : Int32} (hf : mFldP own idx ci k ty) (hs : mSh[q]? = some (.inr (.inr (ci, fl)))) (hfl : fl[k]? = some none) (hn : narrow ty (.int v) = .int v) (hfit : fits ty (.int v) = true) (hd : decode cc pc = .ok (.putfield idx, 3)) (kk : wat C (mup u q k v) (pc + 3) L st) : wat C u pc L (.int v :: .ref (cS C q) :: st) := by
  obtain ⟨p, l, e, R, s, m, args, below, meth, c, Q, dC, dI, dA, as, nc, ns, A⟩ := C
  obtain ⟨hx, hb, hml, hown, hts, hK, hD, hA, hnc, hns, hfr, hlo⟩ := hC
  obtain ⟨Cn, T, N, ty0, hc, hk, hin, hl, hty, hnm, hfin, hpd⟩ := hf
  intro H locs ls hP hS hL
  have hlen : k < (fl.mapIdx (fun j o => mV as (u q j) o)).length := by
    rw [List.length_mapIdx]
    exact (List.getElem?_eq_some_iff.mp hfl).1
  have fin : ∀ (H1 : Heap) (locs1 : List Loc), va_P (dC, dI) vwCl ((mW dA as u).set q (as q, .inr (ci, (fl.mapIdx (fun j o => mV as (u q j) o)).set k (.int v)))) H1 → va_D A ((mW dA as u).set q (as q, .inr (ci, (fl.mapIdx (fun j o => mV as (u q j) o)).set k (.int v)))) → va_S A s.heap H1 locs1 → W p l e R s m args below meth c H1 locs1 nc ns Q (F0 m (pc + 3) ls st) := by
    intro H1 locs1 hP1 _ hS1
    rw [mF_set hfl] at hP1
    have e := mW_row (dA := dA) (as := as) (u := u) hs (upd (u q) k v)
    refine kk H1 locs1 ls ?_ hS1 hL
    show va_P (dC, dI) vwCl (mW dA as (mrow u q (upd (u q) k v))) H1
    rw [← e]
    exact hP1
  rcases hl with hl | ⟨host, hl⟩
  · exact va_put hx hb hts hin ty0 hty hnm hown hK hP (hD.D hA dA u) hS q (mW_get hs) hc k hk (hts _ hl) (fun _ h => h) hfin hpd hn hfit hlen hd fin
  · exact va_putN hx hb hts hin ty0 hty hnm hown hK hP (hD.D hA dA u) hS q (mW_get hs) hc k hk (hts _ hl) (fun _ h => h) hfin hpd hn hfit hlen hd fin
theorem z_putI (hC : mOK cc own nL fr lo C) {idx ci k q : Nat} {fl : List (Option Nat)} {v : Int32} (hf : mFldP own idx ci k .int) (hs : mSh[q]? = some (.inr (.inr (ci, fl)))) (hfl : fl[k]? = some none) (hd : decode cc pc = .ok (.putfield idx, 3)) (kk : wat C (mup u q k v) (pc + 3) L st) : wat C u pc L (.int v :: .ref (cS C q) :: st) := z_putO hC hf hs hfl rfl rfl hd kk
theorem z_putZ (hC : mOK cc own nL fr lo C) {idx ci k q : Nat} {fl : List (Option Nat)} {v : Int32} (hz : mZ v = true) (hf : mFldP own idx ci k .boolean) (hs : mSh[q]? = some (.inr (.inr (ci, fl)))) (hfl : fl[k]? = some none) (hd : decode cc pc = .ok (.putfield idx, 3)) (kk : wat C (mup u q k v) (pc + 3) L st) : wat C u pc L (.int v :: .ref (cS C q) :: st) := z_putO hC hf hs hfl (by show Value.int (v &&& 1) = _; rw [mZ_nar hz]) (mZ_fit hz) hd kk
theorem z_iald (hC : mOK cc own nL fr lo C) {q n : Nat} {i : Int32} (hs : mSh[q]? = some (.inl (0, n))) (hi : mIx i n = true) (hd : decode cc pc = .ok (.iaload, 1)) (kk : wat C u (pc + 1) L (.int (u q i.toNatClampNeg) :: st)) : wat C u pc L (.int i :: .ref (cS C q) :: st) := by
  obtain ⟨p, l, e, R, s, m, args, below, meth, c, Q, dC, dI, dA, as, nc, ns, A⟩ := C
  obtain ⟨hx, hb, hml, hown, hts, hK, hD, hA, hnc, hns, hfr, hlo⟩ := hC
  intro H locs ls hP hS hL
  exact va_iald hx hb hK hP q 0 (mW_get hs) rfl (mIx_in hi) hd (kk H locs ls hP hS hL)
theorem z_zald (hC : mOK cc own nL fr lo C) {q n : Nat} {i : Int32} (hs : mSh[q]? = some (.inl (1, n))) (hi : mIx i n = true) (hd : decode cc pc = .ok (.baload, 1)) (kk : wat C u (pc + 1) L (.int (u q i.toNatClampNeg) :: st)) : wat C u pc L (.int i :: .ref (cS C q) :: st) := by
  obtain ⟨p, l, e, R, s, m, args, below, meth, c, Q, dC, dI, dA, as, nc, ns, A⟩ := C
  obtain ⟨hx, hb, hml, hown, hts, hK, hD, hA, hnc, hns, hfr, hlo⟩ := hC
  intro H locs ls hP hS hL
  exact va_zald hx hb hK hP q 1 (mW_get hs) rfl (mIx_in hi) hd (kk H locs ls hP hS hL)
theorem z_aald (hC : mOK cc own nL fr lo C) {q t : Nat} {nm : String} {ids : List Nat} {i : Int32} (q' : Nat) (hs : mSh[q]? = some (.inr (.inl (t, ids)))) (ht : ∀ dA : Nat → ClassId, (mTys dA)[t]? = some (dA t, .object nm)) (hi : mIx i ids.length = true) (hq : ids[i.toNatClampNeg]? = some q') (hd : decode cc pc = .ok (.aaload, 1)) (kk : wat C u (pc + 1) L (.ref (cS C q') :: st)) : wat C u pc L (.int i :: .ref (cS C q) :: st) := by
  obtain ⟨p, l, e, R, s, m, args, below, meth, c, Q, dC, dI, dA, as, nc, ns, A⟩ := C
  obtain ⟨hx, hb, hml, hown, hts, hK, hD, hA, hnc, hns, hfr, hlo⟩ := hC
  intro H locs ls hP hS hL
  refine va_aldq hx hb hK hP q t (mW_get hs) (ht dA) (mIx_in hi) hd ?_
  show W p l e R s m args below meth c H locs nc ns Q (F0 m (pc + 1) ls (va_rf ((ids[i.toNatClampNeg]?).map as) :: st))
  rw [hq]
  exact kk H locs ls hP hS hL
theorem z_iast (hC : mOK cc own nL fr lo C) {q n : Nat} {i x : Int32} (hs : mSh[q]? = some (.inl (0, n))) (hi : mIx i n = true) (hd : decode cc pc = .ok (.iastore, 1)) (kk : wat C (mup u q i.toNatClampNeg x) (pc + 1) L st) : wat C u pc L (.int x :: .int i :: .ref (cS C q) :: st) := by
  obtain ⟨p, l, e, R, s, m, args, below, meth, c, Q, dC, dI, dA, as, nc, ns, A⟩ := C
  obtain ⟨hx, hb, hml, hown, hts, hK, hD, hA, hnc, hns, hfr, hlo⟩ := hC
  intro H locs ls hP hS hL
  refine va_iast hx hb hK hP (hD.D hA dA u) hS q 0 (mW_get hs) rfl (mIx_in hi) hd (fun H1 locs1 hP1 _ hS1 => kk H1 locs1 ls ?_ hS1 hL)
  show va_P (dC, dI) vwCl (mW dA as (mrow u q (upd (u q) i.toNatClampNeg x))) H1
  rw [← mW_row (dA := dA) (as := as) (u := u) hs (upd (u q) i.toNatClampNeg x)]
  exact hP1
theorem z_zast (hC : mOK cc own nL fr lo C) {q n : Nat} {i x : Int32} (hz : mZ x = true) (hs : mSh[q]? = some (.inl (1, n))) (hi : mIx i n = true) (hd : decode cc pc = .ok (.bastore, 1)) (kk : wat C (mup u q i.toNatClampNeg x) (pc + 1) L st) : wat C u pc L (.int x :: .int i :: .ref (cS C q) :: st) := by
  obtain ⟨p, l, e, R, s, m, args, below, meth, c, Q, dC, dI, dA, as, nc, ns, A⟩ := C
  obtain ⟨hx, hb, hml, hown, hts, hK, hD, hA, hnc, hns, hfr, hlo⟩ := hC
  intro H locs ls hP hS hL
  refine va_zast hx hb hK hP (hD.D hA dA u) hS q 1 (mW_get hs) rfl (mIx_in hi) hd (fun H1 locs1 hP1 _ hS1 => kk H1 locs1 ls ?_ hS1 hL)
  show va_P (dC, dI) vwCl (mW dA as (mrow u q (upd (u q) i.toNatClampNeg x))) H1
  rw [← mW_row (dA := dA) (as := as) (u := u) hs (upd (u q) i.toNatClampNeg x)]
  have e : vp_nar .boolean x = x := mZ_nar hz
  rw [e] at hP1
  exact hP1
theorem z_copy (hC : mOK cc own nL fr lo C) {idx q q' n0 n1 : Nat} {sp dp n : Int32} (hw : Cond.methodLink own idx arraycopyName ∈ TB ∧ Cond.native arraycopyName ∈ TB ∧ Cond.static arraycopyName ∈ TB ∧ Cond.initialized "java/lang/System" ∈ TB) (hs : mSh[q]? = some (.inl (0, n0))) (hs' : mSh[q']? = some (.inl (0, n1))) (h1 : ¬ sp < 0) (h2 : ¬ dp < 0) (h3 : ¬ n < 0) (h4 : sp.toNatClampNeg + n.toNatClampNeg ≤ n0) (h5 : dp.toNatClampNeg + n.toNatClampNeg ≤ n1) (hfr : 1 ≤ fr) (hlo : (st.map fun v => v.category).sum + (nativeFrameWords "java/lang/System" "arraycopy" 5 + 11) ≤ lo) (hd : decode cc pc = .ok (.invokestatic idx, 3)) (kk : wat C (mrow u q' (va_cpy (u q) (u q') sp.toNatClampNeg dp.toNatClampNeg n.toNatClampNeg)) (pc + 3) L st) : wat C u pc L (.int n :: .int dp :: .ref (cS C q') :: .int sp :: .ref (cS C q) :: st) := by
  obtain ⟨p, l, e, R, s, m, args, below, meth, c, Q, dC, dI, dA, as, nc, ns, A⟩ := C
  obtain ⟨hx, hb, hml, hown, hts, hK, hD, hA, hnc, hns, hfr', hlo'⟩ := hC
  intro H locs ls hP hS hL
  refine va_copyi hx hb hL.1.symm hown (hts _ hw.1) (hts _ hw.2.1) (hts _ hw.2.2.1) (hts _ hw.2.2.2) hK hP (hD.D hA dA u) hS q q' 0 0 (mW_get hs) (mW_get hs') rfl rfl rfl h1 h2 h3 h4 h5 (fun _ _ => rfl) (Nat.le_trans hfr hfr') (Nat.le_trans hlo hlo') hd (fun H1 locs1 hP1 _ hS1 => kk H1 locs1 ls ?_ hS1 hL)
  rw [← mW_row (dA := dA) (as := as) (u := u) hs' (va_cpy (u q) (u q') sp.toNatClampNeg dp.toNatClampNeg n.toNatClampNeg)]
  exact hP1
theorem z_iret (hC : mOK cc own nL fr lo C) {r : Int32} (hE : mEndI C .int r u) (hd : decode cc pc = .ok (.ireturn, 1)) : wat C u pc L [.int r] := by
  obtain ⟨p, l, e, R, s, m, args, below, meth, c, Q, dC, dI, dA, as, nc, ns, A⟩ := C
  obtain ⟨hx, hb, hml, hown, hts, hK, hD, hA, hnc, hns, hfr, hlo⟩ := hC
  obtain ⟨⟨rfl, rfl, rfl⟩, rfl, hr, hlk⟩ := hE
  intro H locs ls hP hS hL
  exact W.iret hx hb hr (fun t ht hW => ⟨⟨r, (), rfl, rfl, by rw [ht]; exact hP, va_K.moved hW.alike hK⟩, hS.F ht⟩) hS.2.2 hd
theorem z_zret (hC : mOK cc own nL fr lo C) {r : Int32} (hE : mEndI C .boolean r u) (hz : mZ r = true) (hd : decode cc pc = .ok (.ireturn, 1)) : wat C u pc L [.int r] := by
  obtain ⟨p, l, e, R, s, m, args, below, meth, c, Q, dC, dI, dA, as, nc, ns, A⟩ := C
  obtain ⟨hx, hb, hml, hown, hts, hK, hD, hA, hnc, hns, hfr, hlo⟩ := hC
  obtain ⟨⟨rfl, rfl, rfl⟩, rfl, hr, hlk⟩ := hE
  intro H locs ls hP hS hL
  exact W.zret hx hb hr (by show Value.int (r &&& 1) = _; rw [mZ_nar hz]) (fun t ht hW => ⟨⟨r, (), rfl, rfl, by rw [ht]; exact hP, va_K.moved hW.alike hK⟩, hS.F ht⟩) hS.2.2 hd
theorem z_vret (hC : mOK cc own nL fr lo C) (hE : mEndV C u) (hd : decode cc pc = .ok (.return_, 1)) : wat C u pc L [] := by
  obtain ⟨p, l, e, R, s, m, args, below, meth, c, Q, dC, dI, dA, as, nc, ns, A⟩ := C
  obtain ⟨hx, hb, hml, hown, hts, hK, hD, hA, hnc, hns, hfr, hlo⟩ := hC
  obtain ⟨⟨rfl, rfl, rfl⟩, rfl, hr, hlk⟩ := hE
  intro H locs ls hP hS hL
  exact W.vret hx hb hr (fun t ht hW => ⟨⟨(), rfl, trivial, by rw [ht]; exact hP, va_K.moved hW.alike hK⟩, hS.F ht⟩) hS.2.2 hd
theorem mWd_blind {dC : Nat → ClassId} {dI : Nat → Nat → Nat} {dA : Nat → ClassId} {as : Nat → Nat} {av : List Value} : FrameBlind (va_Pc av (mWd dC dI dA as u)) := fun a U g mk q => ⟨q.1, q.2.1, va_K.moved (u := U) (U := U.calling g mk a) (Vm.Alike.refl U.vm) q.2.2⟩
theorem tb_warm2 {args : Array Value} {s : State} {w0 : Cond} (h : ∀ w ∈ TB, w.before args s = true) (h0 : w0 ∈ TB) : ∀ w ∈ w0 :: TB, ∀ (a' : Array Value) (U : State), s.WarmedH U.vm → w.before a' U = true := by
  intro w hw
  rcases List.mem_cons.mp hw with rfl | hw
  · exact tb_warm h _ h0
  · exact tb_warm h _ hw
theorem z_callI (hC : mOK cc own nL fr lo C) {y : MethodName} {bytes : ByteArray} {mL fr' lo' n idx q ci : Nat} {rt : FieldType} {fl : List (Option Nat)} {As : List Value} {r : Int32} {u' : MU} {stk : List Value} (hc : mCal y bytes mL (some rt) n) (hl : Cond.methodLink own idx y ∈ TB) (hs : mSh[q]? = some (.inr (.inr (ci, fl)))) (T : u_T) (N : Nat) (hci : vwCl[ci]? = some (y.cls, T, N)) (hM : mMI (cL C) (cC C) (cI C) (cA C) (cS C) y bytes mL rt fr' lo' (.ref (cS C q) :: As) u r u') (hn : As.length = n) (hfr : fr' + 1 ≤ fr) (hlo : 8 + (mL + 11) + lo' ≤ lo) (hst : (st.map fun v => v.category).sum ≤ 8) (hstk : stk = As.reverse ++ .ref (cS C q) :: st) (hd : decode cc pc = .ok (.invokevirtual idx, 3)) (kk : wat C u' (pc + 3) L (.int r :: st)) : wat C u pc L stk := by
  subst hstk
  obtain ⟨p, l, e, R, s, m, args, below, meth, c, Q, dC, dI, dA, as, nc, ns, A⟩ := C
  obtain ⟨hx, hb, hml, hown, hts, hK, hD, hA, hnc, hns, hfr', hlo'⟩ := hC
  obtain ⟨c1, c2, ⟨c3, c4⟩, c5, c6⟩ := hc
  intro H locs ls hP hS hL
  refine va_calli (va_runV (As := As) (rest := st) (b := as q) (C := y.cls) (bytes := bytes) (maxL := mL) (ret := some rt) ⟨hx, hb, rfl, hown, hts⟩ hM ⟨⟨rfl, rfl, Nat.le_trans hfr hfr', Nat.le_trans hlo hlo', tb_warm2 hts c1, List.mem_cons_self, hts _ c1, hts _ c2, c5, fun sig h => by rw [h] at c6; exact (Option.some.inj c6).symm, hts _ hl⟩, hts _ c3, hts _ c4⟩ ⟨mWd_blind, va_recv hK hP hci (mW_get hs), fun U hU hW => ⟨rfl, by rw [hU]; exact hP, va_K.moved hW.alike hK⟩⟩ rfl hn hL.1 rfl (lv_room hst) hd ⟨hnc, hns⟩) hS (fun q _ ⟨k, hk, e⟩ => e ▸ hA k hk) (fun q ⟨k, hk, e⟩ => e ▸ hA k hk) (fun x v t H1 locs1 ht hvm hw hB hz1 hk1 hS1 => ?_)
  subst hw
  refine kk H1 locs1 ls ?_ hS1 hL
  rw [← ht]
  exact hB.1
theorem z_callV (hC : mOK cc own nL fr lo C) {y : MethodName} {bytes : ByteArray} {mL fr' lo' n idx q ci : Nat} {fl : List (Option Nat)} {As : List Value} {u' : MU} {stk : List Value} (hc : mCal y bytes mL none n) (hl : Cond.methodLink own idx y ∈ TB) (hs : mSh[q]? = some (.inr (.inr (ci, fl)))) (T : u_T) (N : Nat) (hci : vwCl[ci]? = some (y.cls, T, N)) (hM : mMV (cL C) (cC C) (cI C) (cA C) (cS C) y bytes mL fr' lo' (.ref (cS C q) :: As) u u') (hn : As.length = n) (hfr : fr' + 1 ≤ fr) (hlo : 8 + (mL + 11) + lo' ≤ lo) (hst : (st.map fun v => v.category).sum ≤ 8) (hstk : stk = As.reverse ++ .ref (cS C q) :: st) (hd : decode cc pc = .ok (.invokevirtual idx, 3)) (kk : wat C u' (pc + 3) L st) : wat C u pc L stk := by
  subst hstk
  obtain ⟨p, l, e, R, s, m, args, below, meth, c, Q, dC, dI, dA, as, nc, ns, A⟩ := C
  obtain ⟨hx, hb, hml, hown, hts, hK, hD, hA, hnc, hns, hfr', hlo'⟩ := hC
  obtain ⟨c1, c2, ⟨c3, c4⟩, c5, c6⟩ := hc
  intro H locs ls hP hS hL
  refine va_callv (va_runV (As := As) (rest := st) (b := as q) (C := y.cls) (bytes := bytes) (maxL := mL) (ret := none) ⟨hx, hb, rfl, hown, hts⟩ hM ⟨⟨rfl, rfl, Nat.le_trans hfr hfr', Nat.le_trans hlo hlo', tb_warm2 hts c1, List.mem_cons_self, hts _ c1, hts _ c2, c5, fun sig h => by rw [h] at c6; exact (Option.some.inj c6).symm, hts _ hl⟩, hts _ c3, hts _ c4⟩ ⟨mWd_blind, va_recv hK hP hci (mW_get hs), fun U hU hW => ⟨rfl, by rw [hU]; exact hP, va_K.moved hW.alike hK⟩⟩ rfl hn hL.1 rfl (lv_room hst) hd ⟨hnc, hns⟩) hS (fun q _ ⟨k, hk, e⟩ => e ▸ hA k hk) (fun q ⟨k, hk, e⟩ => e ▸ hA k hk) (fun v t H1 locs1 ht hvm hw hB hz1 hk1 hS1 => ?_)
  refine kk H1 locs1 ls ?_ hS1 hL
  rw [← ht]
  exact hB.1
theorem z_callSI (hC : mOK cc own nL fr lo C) {y : MethodName} {bytes : ByteArray} {mL fr' lo' n idx : Nat} {rt : FieldType} {As : List Value} {r : Int32} {u' : MU} {stk : List Value} (hc : mCalS y bytes mL (some rt) n) (hl : Cond.methodLink own idx y ∈ TB) (hM : mMI (cL C) (cC C) (cI C) (cA C) (cS C) y bytes mL rt fr' lo' As u r u') (hn : As.length = n) (hfr : fr' + 1 ≤ fr) (hlo : 8 + (mL + 11) + lo' ≤ lo) (hst : (st.map fun v => v.category).sum ≤ 8) (hstk : stk = As.reverse ++ st) (hd : decode cc pc = .ok (.invokestatic idx, 3)) (kk : wat C u' (pc + 3) L (.int r :: st)) : wat C u pc L stk := by
  subst hstk
  obtain ⟨p, l, e, R, s, m, args, below, meth, c, Q, dC, dI, dA, as, nc, ns, A⟩ := C
  obtain ⟨hx, hb, hml, hown, hts, hK, hD, hA, hnc, hns, hfr', hlo'⟩ := hC
  obtain ⟨c1, c2, c3, c5, c6⟩ := hc
  intro H locs ls hP hS hL
  refine va_calli (va_runS (As := As) (rest := st) (bytes := bytes) (maxL := mL) (ret := some rt) ⟨hx, hb, rfl, hown, hts⟩ hM ⟨⟨rfl, rfl, Nat.le_trans hfr hfr', Nat.le_trans hlo hlo', tb_warm2 hts c1, List.mem_cons_self, hts _ c1, hts _ c2, c5, fun sig h => by rw [h] at c6; exact (Option.some.inj c6).symm, hts _ hl⟩, hts _ c3⟩ ⟨mWd_blind, fun U hU hW => ⟨rfl, by rw [hU]; exact hP, va_K.moved hW.alike hK⟩⟩ rfl hn hL.1 rfl (lv_room hst) hd ⟨hnc, hns⟩) hS (fun q _ ⟨k, hk, e⟩ => e ▸ hA k hk) (fun q ⟨k, hk, e⟩ => e ▸ hA k hk) (fun x v t H1 locs1 ht hvm hw hB hz1 hk1 hS1 => ?_)
  subst hw
  refine kk H1 locs1 ls ?_ hS1 hL
  rw [← ht]
  exact hB.1
theorem z_callSV (hC : mOK cc own nL fr lo C) {y : MethodName} {bytes : ByteArray} {mL fr' lo' n idx : Nat} {As : List Value} {u' : MU} {stk : List Value} (hc : mCalS y bytes mL none n) (hl : Cond.methodLink own idx y ∈ TB) (hM : mMV (cL C) (cC C) (cI C) (cA C) (cS C) y bytes mL fr' lo' As u u') (hn : As.length = n) (hfr : fr' + 1 ≤ fr) (hlo : 8 + (mL + 11) + lo' ≤ lo) (hst : (st.map fun v => v.category).sum ≤ 8) (hstk : stk = As.reverse ++ st) (hd : decode cc pc = .ok (.invokestatic idx, 3)) (kk : wat C u' (pc + 3) L st) : wat C u pc L stk := by
  subst hstk
  obtain ⟨p, l, e, R, s, m, args, below, meth, c, Q, dC, dI, dA, as, nc, ns, A⟩ := C
  obtain ⟨hx, hb, hml, hown, hts, hK, hD, hA, hnc, hns, hfr', hlo'⟩ := hC
  obtain ⟨c1, c2, c3, c5, c6⟩ := hc
  intro H locs ls hP hS hL
  refine va_callv (va_runS (As := As) (rest := st) (bytes := bytes) (maxL := mL) (ret := none) ⟨hx, hb, rfl, hown, hts⟩ hM ⟨⟨rfl, rfl, Nat.le_trans hfr hfr', Nat.le_trans hlo hlo', tb_warm2 hts c1, List.mem_cons_self, hts _ c1, hts _ c2, c5, fun sig h => by rw [h] at c6; exact (Option.some.inj c6).symm, hts _ hl⟩, hts _ c3⟩ ⟨mWd_blind, fun U hU hW => ⟨rfl, by rw [hU]; exact hP, va_K.moved hW.alike hK⟩⟩ rfl hn hL.1 rfl (lv_room hst) hd ⟨hnc, hns⟩) hS (fun q _ ⟨k, hk, e⟩ => e ▸ hA k hk) (fun q ⟨k, hk, e⟩ => e ▸ hA k hk) (fun v t H1 locs1 ht hvm hw hB hz1 hk1 hS1 => ?_)
  refine kk H1 locs1 ls ?_ hS1 hL
  rw [← ht]
  exact hB.1
theorem z_callNI (hC : mOK cc own nL fr lo C) {y : MethodName} {host : String} {bytes : ByteArray} {mL fr' lo' n idx : Nat} {rt : FieldType} {As : List Value} {r : Int32} {u' : MU} {stk : List Value} (hc : mCalS y bytes mL (some rt) n) (hl : Cond.methodLinkNest own idx y host ∈ TB) (hM : mMI (cL C) (cC C) (cI C) (cA C) (cS C) y bytes mL rt fr' lo' As u r u') (hn : As.length = n) (hfr : fr' + 1 ≤ fr) (hlo : 8 + (mL + 11) + lo' ≤ lo) (hst : (st.map fun v => v.category).sum ≤ 8) (hstk : stk = As.reverse ++ st) (hd : decode cc pc = .ok (.invokestatic idx, 3)) (kk : wat C u' (pc + 3) L (.int r :: st)) : wat C u pc L stk := by
  subst hstk
  obtain ⟨p, l, e, R, s, m, args, below, meth, c, Q, dC, dI, dA, as, nc, ns, A⟩ := C
  obtain ⟨hx, hb, hml, hown, hts, hK, hD, hA, hnc, hns, hfr', hlo'⟩ := hC
  obtain ⟨c1, c2, c3, c5, c6⟩ := hc
  intro H locs ls hP hS hL
  refine va_calli (va_runSN (As := As) (rest := st) (bytes := bytes) (maxL := mL) (ret := some rt) ⟨hx, hb, rfl, hown, hts⟩ hM ⟨⟨⟨rfl, rfl, Nat.le_trans hfr hfr', Nat.le_trans hlo hlo', tb_warm2 hts c1, List.mem_cons_self⟩, hts _ c1, hts _ c2, c5, fun sig h => by rw [h] at c6; exact (Option.some.inj c6).symm, hts _ hl⟩, hts _ c3, trivial⟩ ⟨mWd_blind, fun U hU hW => ⟨rfl, by rw [hU]; exact hP, va_K.moved hW.alike hK⟩⟩ rfl hn hL.1 rfl (lv_room hst) hd ⟨hnc, hns⟩) hS (fun q _ ⟨k, hk, e⟩ => e ▸ hA k hk) (fun q ⟨k, hk, e⟩ => e ▸ hA k hk) (fun x v t H1 locs1 ht hvm hw hB hz1 hk1 hS1 => ?_)
  subst hw
  refine kk H1 locs1 ls ?_ hS1 hL
  rw [← ht]
  exact hB.1
end zhp
theorem mMI.of {l : Launch} {dC : Nat → ClassId} {dI : Nat → Nat → Nat} {dA : Nat → ClassId} {as : Nat → Nat} {y : MethodName} {cc : ByteArray} {mL : Nat} {rt : FieldType} {fr lo : Nat} {av : List Value} {u : MU} {r : Int32} {u' : MU} (own : String) (L0 : List (Option Value)) (hD : mDis as) (hy : plainName y.cls = true) (ho : y.cls = own) (hlen : (lg_sl av).length ≤ mL) (hL0 : mPr L0 = lv_args 0 av) (body : ∀ C : mCtx, cL C = l → cC C = dC → cI C = dI → cA C = dA → cS C = as → mOK cc own mL fr lo C → mEndI C rt r u' → wat C u 0 L0 []) : mMI l dC dI dA as y cc mL rt fr lo av u r u' := by
  refine Met.ofW (cc := cc) (maxL := mL) (ret := some rt) hy rfl ?_
  intro p e s m args below meth c s₁ B hml hv
  obtain ⟨rfl, hP, hK⟩ := hv
  have hts := atoms_spec (ws := Cond.code y cc mL (some rt) :: TB) B.pre
  have hown : s.vm.findClass own = some m.cls := ho ▸ findClass_of_methodNamed B.named
  have hl := lv_entry av (n := mL) hlen
  rw [lg_entry_eq]
  generalize (lg_sl av ++ List.replicate (mL - (lg_sl av).length) Slot.unset).toArray = ls at hl ⊢
  have h := body (p, l, e, { frames := fr, cells := 0, slots := 0, locals := lo }, s, m, av.toArray, below, meth, c, MQ below (va_Qi (fun x (_ : Unit) => x = r) (fun _ t => mWd dC dI dA as u' t) (mA as)) av.toArray s 0 0 (mA as), dC, dI, dA, as, 0, 0, mA as) rfl rfl rfl rfl rfl ⟨B.exec, B.bytes, hml, hown, fun w hw => hts w (List.mem_cons_of_mem _ hw), hK, hD, fun k hk => ⟨k, hk, rfl⟩, Nat.zero_le _, Nat.zero_le _, Nat.le_refl _, Nat.le_refl _⟩ ⟨⟨rfl, rfl, rfl⟩, rfl, B.returns, B.notSynchronized⟩
  refine h s.heap [] ls hP va_S.rf ⟨hl.1.trans hml.symm, hl.2.1, fun i v hi => hl.2.2 (i, v) ?_⟩
  rw [← hL0]
  exact mPr_mem.mpr hi
theorem mMV.of {l : Launch} {dC : Nat → ClassId} {dI : Nat → Nat → Nat} {dA : Nat → ClassId} {as : Nat → Nat} {y : MethodName} {cc : ByteArray} {mL : Nat} {fr lo : Nat} {av : List Value} {u : MU} {u' : MU} (own : String) (L0 : List (Option Value)) (hD : mDis as) (hy : plainName y.cls = true) (ho : y.cls = own) (hlen : (lg_sl av).length ≤ mL) (hL0 : mPr L0 = lv_args 0 av) (body : ∀ C : mCtx, cL C = l → cC C = dC → cI C = dI → cA C = dA → cS C = as → mOK cc own mL fr lo C → mEndV C u' → wat C u 0 L0 []) : mMV l dC dI dA as y cc mL fr lo av u u' := by
  refine Met.ofW (cc := cc) (maxL := mL) (ret := none) hy rfl ?_
  intro p e s m args below meth c s₁ B hml hv
  obtain ⟨rfl, hP, hK⟩ := hv
  have hts := atoms_spec (ws := Cond.code y cc mL none :: TB) B.pre
  have hown : s.vm.findClass own = some m.cls := ho ▸ findClass_of_methodNamed B.named
  have hl := lv_entry av (n := mL) hlen
  rw [lg_entry_eq]
  generalize (lg_sl av ++ List.replicate (mL - (lg_sl av).length) Slot.unset).toArray = ls at hl ⊢
  have h := body (p, l, e, { frames := fr, cells := 0, slots := 0, locals := lo }, s, m, av.toArray, below, meth, c, MQ below (va_Qv (fun (_ : Unit) => True) (fun _ t => mWd dC dI dA as u' t) (mA as)) av.toArray s 0 0 (mA as), dC, dI, dA, as, 0, 0, mA as) rfl rfl rfl rfl rfl ⟨B.exec, B.bytes, hml, hown, fun w hw => hts w (List.mem_cons_of_mem _ hw), hK, hD, fun k hk => ⟨k, hk, rfl⟩, Nat.zero_le _, Nat.zero_le _, Nat.le_refl _, Nat.le_refl _⟩ ⟨⟨rfl, rfl, rfl⟩, rfl, B.returns, B.notSynchronized⟩
  refine h s.heap [] ls hP va_S.rf ⟨hl.1.trans hml.symm, hl.2.1, fun i v hi => hl.2.2 (i, v) ?_⟩
  rw [← hL0]
  exact mPr_mem.mpr hi
