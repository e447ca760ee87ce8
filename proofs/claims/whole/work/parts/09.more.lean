def irm (x y : Int32) : Int32 := x - x / y * y
def mNz (y : Int32) : Bool := !(decide (y = 0))
theorem mNz_ne {y : Int32} (h : mNz y = true) : ¬ y = 0 := by
  unfold mNz at h
  simpa using h
section zmo
variable {C : mCtx} {cc : ByteArray} {own : String} {nL fr lo : Nat} {u u' : MU} {pc : Nat} {L L' : List (Option Value)} {st : List Value}
theorem y_irem (hC : mOK cc own nL fr lo C) {x y : Int32} (hd : decode cc pc = .ok (.irem, 1)) (hne : ¬ y = 0) (kk : wat C u (pc + 1) L (.int (irm x y) :: st)) : wat C u pc L (.int y :: .int x :: st) := z_irem hC hd hne kk
theorem y_istore_n (hC : mOK cc own nL fr lo C) {k : Fin 4} {i : Nat} {x : Int32} (L' : List (Option Value)) (hd : decode cc pc = .ok (.istore_n k, 1)) (hi : (k : Nat) = i) (hc : mOne L = true) (hn : i < L.length) (hn2 : i < nL) (hL : L.set i (some (.int x)) = L') (kk : wat C u (pc + 1) L' st) : wat C u pc L (.int x :: st) := z_istore_n hC hd hi hc hn hn2 (hL ▸ kk)
theorem y_istore (hC : mOK cc own nL fr lo C) {i : Nat} {x : Int32} (L' : List (Option Value)) (hd : decode cc pc = .ok (.istore i, 2)) (hc : mOne L = true) (hn : i < L.length) (hn2 : i < nL) (hL : L.set i (some (.int x)) = L') (kk : wat C u (pc + 2) L' st) : wat C u pc L (.int x :: st) := z_istore hC hd hc hn hn2 (hL ▸ kk)
theorem y_astore_n (hC : mOK cc own nL fr lo C) {k : Fin 4} {i q : Nat} (L' : List (Option Value)) (hd : decode cc pc = .ok (.astore_n k, 1)) (hi : (k : Nat) = i) (hc : mOne L = true) (hn : i < L.length) (hn2 : i < nL) (hL : L.set i (some (.ref (cS C q))) = L') (kk : wat C u (pc + 1) L' st) : wat C u pc L (.ref (cS C q) :: st) := z_astore_n hC hd hi hc hn hn2 (hL ▸ kk)
theorem y_astore (hC : mOK cc own nL fr lo C) {i q : Nat} (L' : List (Option Value)) (hd : decode cc pc = .ok (.astore i, 2)) (hc : mOne L = true) (hn : i < L.length) (hn2 : i < nL) (hL : L.set i (some (.ref (cS C q))) = L') (kk : wat C u (pc + 2) L' st) : wat C u pc L (.ref (cS C q) :: st) := z_astore hC hd hc hn hn2 (hL ▸ kk)
theorem y_iinc (hC : mOK cc own nL fr lo C) {i : Nat} {n : Int} {x : Int32} (v : Int32) (L' : List (Option Value)) (hd : decode cc pc = .ok (.iinc i n, 3)) (hl : L[i]? = some (some (.int x))) (hv : x + Int32.ofInt n = v) (hc : mOne L = true) (hn2 : i < nL) (hL : L.set i (some (.int v)) = L') (kk : wat C u (pc + 3) L' st) : wat C u pc L st := z_iinc hC hd hl hv hc hn2 (hL ▸ kk)
theorem y_putI (hC : mOK cc own nL fr lo C) {idx ci k q : Nat} {fl : List (Option Nat)} {v : Int32} (hf : mFldP own idx ci k .int) (hs : mSh[q]? = some (.inr (.inr (ci, fl)))) (hfl : fl[k]? = some none) (hd : decode cc pc = .ok (.putfield idx, 3)) (hu : mup u q k v = u') (kk : wat C u' (pc + 3) L st) : wat C u pc L (.int v :: .ref (cS C q) :: st) := z_putI hC hf hs hfl hd (hu ▸ kk)
theorem y_putZ (hC : mOK cc own nL fr lo C) {idx ci k q : Nat} {fl : List (Option Nat)} {v : Int32} (hz : mZ v = true) (hf : mFldP own idx ci k .boolean) (hs : mSh[q]? = some (.inr (.inr (ci, fl)))) (hfl : fl[k]? = some none) (hd : decode cc pc = .ok (.putfield idx, 3)) (hu : mup u q k v = u') (kk : wat C u' (pc + 3) L st) : wat C u pc L (.int v :: .ref (cS C q) :: st) := z_putZ hC hz hf hs hfl hd (hu ▸ kk)
theorem y_iast (hC : mOK cc own nL fr lo C) {q n : Nat} {i x : Int32} (hs : mSh[q]? = some (.inl (0, n))) (hi : mIx i n = true) (hd : decode cc pc = .ok (.iastore, 1)) (hu : mup u q i.toNatClampNeg x = u') (kk : wat C u' (pc + 1) L st) : wat C u pc L (.int x :: .int i :: .ref (cS C q) :: st) := z_iast hC hs hi hd (hu ▸ kk)
theorem y_zast (hC : mOK cc own nL fr lo C) {q n : Nat} {i x : Int32} (hz : mZ x = true) (hs : mSh[q]? = some (.inl (1, n))) (hi : mIx i n = true) (hd : decode cc pc = .ok (.bastore, 1)) (hu : mup u q i.toNatClampNeg x = u') (kk : wat C u' (pc + 1) L st) : wat C u pc L (.int x :: .int i :: .ref (cS C q) :: st) := z_zast hC hz hs hi hd (hu ▸ kk)
theorem y_copy (hC : mOK cc own nL fr lo C) {idx q q' n0 n1 : Nat} {sp dp n : Int32} (hw : Cond.methodLink own idx arraycopyName ∈ TB ∧ Cond.native arraycopyName ∈ TB ∧ Cond.static arraycopyName ∈ TB ∧ Cond.initialized "java/lang/System" ∈ TB) (hs : mSh[q]? = some (.inl (0, n0))) (hs' : mSh[q']? = some (.inl (0, n1))) (h1 : ¬ sp < 0) (h2 : ¬ dp < 0) (h3 : ¬ n < 0) (h4 : sp.toNatClampNeg + n.toNatClampNeg ≤ n0) (h5 : dp.toNatClampNeg + n.toNatClampNeg ≤ n1) (hfr : 1 ≤ fr) (hlo : (st.map fun v => v.category).sum + (nativeFrameWords "java/lang/System" "arraycopy" 5 + 11) ≤ lo) (hd : decode cc pc = .ok (.invokestatic idx, 3)) (hu : mrow u q' (va_cpy (u q) (u q') sp.toNatClampNeg dp.toNatClampNeg n.toNatClampNeg) = u') (kk : wat C u' (pc + 3) L st) : wat C u pc L (.int n :: .int dp :: .ref (cS C q') :: .int sp :: .ref (cS C q) :: st) := z_copy hC hw hs hs' h1 h2 h3 h4 h5 hfr hlo hd (hu ▸ kk)
end zmo
theorem mMIof {l : Launch} {dC : Nat → ClassId} {dI : Nat → Nat → Nat} {dA : Nat → ClassId} {as : Nat → Nat} {y : MethodName} {cc : ByteArray} {mL : Nat} {rt : FieldType} {fr lo : Nat} {av : List Value} {u : MU} {r : Int32} {u' : MU} (own : String) (L0 : List (Option Value)) (hD : mDis as) (hy : plainFor y = true) (ho : y.cls = own) (hlen : (lg_sl av).length ≤ mL) (hL0 : mPr L0 = lv_args 0 av) (body : ∀ C : mCtx, cL C = l → cC C = dC → cI C = dI → cA C = dA → cS C = as → mOK cc own mL fr lo C → mEndI C rt r u' → wat C u 0 L0 []) : mMI l dC dI dA as y cc mL rt fr lo av u r u' := by
  refine va_MetF (cc := cc) (maxL := mL) (ret := some rt) hy rfl ?_
  intro p e s m args below meth c s₁ B hml hv
  obtain ⟨rfl, hP, hK⟩ := hv
  have hts := atoms_spec (ws := Cond.code y cc mL (some rt) :: TB) B.pre
  have hown : s.vm.findClass own = some m.cls := ho ▸ findClass_of_methodNamed B.named
  have hl := lv_entry av (n := mL) hlen
  rw [lg_entry_eq]
  generalize (lg_sl av ++ List.replicate (mL - (lg_sl av).length) Slot.unset).toArray = ls at hl ⊢
  have h := body (p, l, e, { frames := fr, cells := 0, slots := 0, locals := lo }, s, m, av.toArray, below, meth, c, MQ below (va_Qi (fun x (_ : Unit) => x = r) (fun _ t => mWd dC dI dA as u' t) (mA as)) av.toArray s 0 0 (mA as), dC, dI, dA, as, 0, 0, mA as) rfl rfl rfl rfl rfl ⟨B.exec, B.bytes, hml, hown, fun w hw => hts w (List.mem_cons_of_mem _ hw), hK, hD, fun k hk => ⟨k, hk, rfl⟩, Nat.zero_le _, Nat.zero_le _, Nat.le_refl _, Nat.le_refl _⟩ ⟨⟨rfl, rfl, rfl⟩, rfl, B.returns, B.notSynchronized⟩
  refine h s.heap [] ls hP va_S.rf ⟨hl.1.trans hml.symm, hl.2.1, fun i v hi => hl.2.2 (i, v) ?_⟩
  rw [← hL0]
  exact mPr_mem.mpr hi
theorem mMVof {l : Launch} {dC : Nat → ClassId} {dI : Nat → Nat → Nat} {dA : Nat → ClassId} {as : Nat → Nat} {y : MethodName} {cc : ByteArray} {mL : Nat} {fr lo : Nat} {av : List Value} {u : MU} {u' : MU} (own : String) (L0 : List (Option Value)) (hD : mDis as) (hy : plainFor y = true) (ho : y.cls = own) (hlen : (lg_sl av).length ≤ mL) (hL0 : mPr L0 = lv_args 0 av) (body : ∀ C : mCtx, cL C = l → cC C = dC → cI C = dI → cA C = dA → cS C = as → mOK cc own mL fr lo C → mEndV C u' → wat C u 0 L0 []) : mMV l dC dI dA as y cc mL fr lo av u u' := by
  refine va_MetF (cc := cc) (maxL := mL) (ret := none) hy rfl ?_
  intro p e s m args below meth c s₁ B hml hv
  obtain ⟨rfl, hP, hK⟩ := hv
  have hts := atoms_spec (ws := Cond.code y cc mL none :: TB) B.pre
  have hown : s.vm.findClass own = some m.cls := ho ▸ findClass_of_methodNamed B.named
  have hl := lv_entry av (n := mL) hlen
  rw [lg_entry_eq]
  generalize (lg_sl av ++ List.replicate (mL - (lg_sl av).length) Slot.unset).toArray = ls at hl ⊢
  have h := body (p, l, e, { frames := fr, cells := 0, slots := 0, locals := lo }, s, m, av.toArray, below, meth, c, MQ below (va_Qv (fun (_ : Unit) => True) (fun _ t => mWd dC dI dA as u' t) (mA as)) av.toArray s 0 0 (mA as), dC, dI, dA, as, 0, 0, mA as) rfl rfl rfl rfl rfl ⟨B.exec, B.bytes, hml, hown, fun w hw => hts w (List.mem_cons_of_mem _ hw), hK, hD, fun k hk => ⟨k, hk, rfl⟩, Nat.zero_le _, Nat.zero_le _, Nat.le_refl _, Nat.le_refl _⟩ ⟨⟨rfl, rfl, rfl⟩, rfl, B.returns, B.notSynchronized⟩
  refine h s.heap [] ls hP va_S.rf ⟨hl.1.trans hml.symm, hl.2.1, fun i v hi => hl.2.2 (i, v) ?_⟩
  rw [← hL0]
  exact mPr_mem.mpr hi
