/-! the world behind both constructors; the state stands there -/
def mRf (c : mSC) : List Nat := match c with
  | .inl _ => []
  | .inr (.inl x) => x.2
  | .inr (.inr x) => x.2.filterMap id
theorem mE_congr {dA : Nat → ClassId} {a b : Nat → Nat} {f : Nat → Int32} (c : mSC) (h : ∀ q ∈ mRf c, a q = b q) : mE dA a f c = mE dA b f c := by
  match c, h with
  | .inl x, _ => rfl
  | .inr (.inl x), h =>
    show (Sum.inl (dA x.1, x.2.length, .inr (.inr (.inr (.inr (fun i => (x.2[i]?).map a))))) : va_E) = Sum.inl (dA x.1, x.2.length, .inr (.inr (.inr (.inr (fun i => (x.2[i]?).map b)))))
    have e : (fun i : Nat => (x.2[i]?).map a) = (fun i : Nat => (x.2[i]?).map b) := by
      funext i
      cases hi : x.2[i]? with
      | none => rfl
      | some q =>
        show some (a q) = some (b q)
        rw [h q (List.mem_of_getElem? hi)]
    rw [e]
  | .inr (.inr x), h =>
    show (Sum.inr (x.1, x.2.mapIdx (fun j o => mV a (f j) o)) : va_E) = Sum.inr (x.1, x.2.mapIdx (fun j o => mV b (f j) o))
    have e : x.2.mapIdx (fun j o => mV a (f j) o) = x.2.mapIdx (fun j o => mV b (f j) o) := by
      apply List.ext_getElem?
      intro i
      rw [List.getElem?_mapIdx, List.getElem?_mapIdx]
      cases hi : x.2[i]? with
      | none => rfl
      | some o =>
        cases o with
        | none => rfl
        | some q =>
          show some (Value.ref (a q)) = some (Value.ref (b q))
          rw [h q (List.mem_filterMap.mpr ⟨some q, List.mem_of_getElem? hi, rfl⟩)]
    rw [e]
theorem bWk_congr {dA : Nat → ClassId} {a b : Nat → Nat} {f : MU} : ∀ (sh : List mSC) (k : Nat), (∀ i : Nat, i < sh.length → a (k + i) = b (k + i)) → (∀ c ∈ sh, ∀ q ∈ mRf c, a q = b q) → bWk dA a f k sh = bWk dA b f k sh
  | [], _, _, _ => rfl
  | c :: cs, k, h1, h2 => by
    rw [bWk, bWk, mE_congr c (h2 c List.mem_cons_self), show a k = b k from h1 0 (Nat.zero_lt_succ _), bWk_congr cs (k + 1) (fun i hi => by have := h1 (i + 1) (Nat.succ_lt_succ hi); rw [show k + 1 + i = k + (i + 1) by omega]; exact this) (fun x hx => h2 x (List.mem_cons_of_mem _ hx))]
theorem bWk_app {dA : Nat → ClassId} {a : Nat → Nat} {f : MU} : ∀ (s1 s2 : List mSC) (k : Nat), bWk dA a f k (s1 ++ s2) = bWk dA a f k s1 ++ bWk dA a f (k + s1.length) s2
  | [], s2, k => rfl
  | c :: cs, s2, k => by
    rw [List.cons_append, bWk, bWk, List.cons_append, bWk_app cs s2 (k + 1), List.length_cons, show k + 1 + cs.length = k + (cs.length + 1) by omega]
theorem mW_bWk (dA : Nat → ClassId) (a : Nat → Nat) (u : MU) : mW dA a u = bWk dA a u 0 mSh := by
  apply List.ext_getElem?
  intro i
  rw [bWk_get, Nat.zero_add]
  unfold mW
  rw [List.getElem?_mapIdx]
def sAs (a b : Nat → Nat) : Nat → Nat := fun k => if k < 88 then a k else b (k - 88)
theorem sAs_lt {a b : Nat → Nat} {k : Nat} (h : k < 88) : sAs a b k = a k := if_pos h
theorem mShX_len : mShX.length = 88 := by decide +kernel
theorem mShX_rf : mShX.all (fun c => (mRf c).all (fun q => decide (q < 88))) = true := by decide +kernel
set_option maxHeartbeats 4000000 in
set_option maxRecDepth 100000 in
theorem st_m (dA : Nat → ClassId) (a b : Nat → Nat) : bWk dA (sAs a b) u6 88 (oMdl 88) = bW dA b zU (oMdl 0) := by
  rw [← bWx_k, ← bWx_eq]
  rfl
theorem st_W (dA : Nat → ClassId) (a b : Nat → Nat) : bW dA a u6 mShX ++ bW dA b zU (oMdl 0) = mW dA (sAs a b) u6 := by
  rw [mW_bWk, show mSh = mShX ++ oMdl 88 from rfl, bWk_app, mShX_len, Nat.zero_add, st_m]
  congr 1
  refine bWk_congr mShX 0 (fun i hi => ?_) (fun c hc q hq => ?_)
  · rw [mShX_len] at hi
    rw [Nat.zero_add, sAs_lt hi]
  · have h1 := List.all_eq_true.mp (List.all_eq_true.mp mShX_rf c hc) q hq
    rw [sAs_lt (of_decide_eq_true h1)]
theorem dis_of {A : Nat → Prop} {dA : Nat → ClassId} {as : Nat → Nat} {u : MU} (h : va_D A (mW dA as u)) : mDis as ∧ ∀ k : Nat, k < 111 → A (as k) := by
  have at' : ∀ k : Nat, k < 111 → ∃ e : va_E, (mW dA as u)[k]? = some (as k, e) := by
    intro k hk
    have hl : k < mSh.length := by rw [mSh_len]; exact hk
    exact ⟨_, mW_get (List.getElem?_eq_getElem hl)⟩
  refine ⟨fun i j hi hj hij => ?_, fun k hk => ?_⟩
  · obtain ⟨e1, h1⟩ := at' i hi
    obtain ⟨e2, h2⟩ := at' j hj
    exact h.1 i j _ _ h1 h2 hij
  · obtain ⟨e1, h1⟩ := at' k hk
    exact h.2 k _ h1
theorem pA_z (w : Nat → Int32) : pA w 0 31 0 = ([], none) := by
  rw [pA, if_neg (by omega)]
theorem rOK_z {q : Nat} {w : Nat → Int32} (h1 : u6 q 1 = 0) (h2 : u6 q 2 = -6) (h7 : u6 q 7 = 0) (h10 : u6 q 10 = 0) : rOK u6 q w 0 := by
  unfold rOK
  rw [pA_z]
  refine ⟨⟨by omega, h1, fun j hj => by omega⟩, h2, h7, Nat.zero_le _, trivial, fun _ => ⟨h10, Nat.zero_le _⟩, fun st hst => ?_⟩
  cases hst
theorem inv0 : Inv u6 := by
  refine ⟨fun r hr => ?_, fun j hj => ?_, ?_, fun k hk => ?_, Or.inl rfl⟩
  · have e : tN u6 r = 0 := rfl
    rw [e]
    refine ⟨by omega, rfl, ?_⟩
    match r, hr with
    | 0, _ => exact rOK_z rfl rfl rfl rfl
    | 1, _ => exact rOK_z rfl rfl rfl rfl
    | 2, _ => exact rOK_z rfl rfl rfl rfl
    | 3, _ => exact rOK_z rfl rfl rfl rfl
    | 4, _ => exact rOK_z rfl rfl rfl rfl
    | 5, _ => exact rOK_z rfl rfl rfl rfl
    | n + 6, h => omega
  · exact ⟨rfl, 0, by omega, rfl⟩
  · exact ⟨rfl, ⟨⟨0, by omega, rfl⟩, fun j hj => ⟨⟨0, by omega, rfl⟩, 0, by omega, rfl⟩⟩, fun j hj => ⟨rfl, rfl⟩⟩
  · match k, hk with
    | 0, _ => exact ⟨rfl, rfl, fun j hj => ⟨rfl, 0, by omega, rfl⟩, rfl, ⟨⟨0, by omega, rfl⟩, fun j hj => ⟨⟨0, by omega, rfl⟩, 0, by omega, rfl⟩⟩, fun j hj => ⟨rfl, rfl⟩⟩
    | 1, _ => exact ⟨rfl, rfl, fun j hj => ⟨rfl, 0, by omega, rfl⟩, rfl, ⟨⟨0, by omega, rfl⟩, fun j hj => ⟨⟨0, by omega, rfl⟩, 0, by omega, rfl⟩⟩, fun j hj => ⟨rfl, rfl⟩⟩
    | n + 2, h => omega
