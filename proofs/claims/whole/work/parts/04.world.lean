/-! what a run of a method is: data of fixed cells, and a walk that speaks of them alone -/
abbrev MU : Type := Nat → Nat → Int32
abbrev mR : Type := Option (Int32 × MU)
def mrow (u : MU) (k : Nat) (f : Nat → Int32) : MU := fun a => if a = k then f else u a
def mup (u : MU) (k j : Nat) (v : Int32) : MU := mrow u k (upd (u k) j v)
def mIx (i : Int32) (n : Nat) : Bool := !(decide (i < 0)) && decide (i.toNatClampNeg < n)
def mZ (x : Int32) : Bool := decide (x = 0) || decide (x = 1)
def gd (c : Bool) (k : mR) : mR := if c = true then k else none
def mB (a : mR) (k : Int32 → MU → mR) : mR := match a with
  | some x => k x.1 x.2
  | none => none
theorem gd_some {c : Bool} {k : mR} {r : Int32 × MU} (h : gd c k = some r) : c = true ∧ k = some r := by
  unfold gd at h
  by_cases hc : c = true
  · rw [if_pos hc] at h; exact ⟨hc, h⟩
  · rw [if_neg hc] at h; cases h
theorem mB_some {a : mR} {k : Int32 → MU → mR} {r : Int32 × MU} (h : mB a k = some r) : ∃ (x : Int32) (v : MU), a = some (x, v) ∧ k x v = some r := by
  unfold mB at h
  cases a with
  | none => cases h
  | some z => exact ⟨z.1, z.2, rfl, h⟩
theorem mIx_in {i : Int32} {n : Nat} (h : mIx i n = true) : vp_in i n := by
  unfold mIx at h
  simp only [Bool.and_eq_true, Bool.not_eq_true', decide_eq_false_iff_not, decide_eq_true_eq] at h
  intro q
  rcases q with q | q
  · exact h.1 q
  · omega
/-- the words of the tables that a call hands on -/
def okF : Cond → Bool
  | .fieldLinkNest _ _ _ _ _ _ => true
  | _ => false
def okM : Cond → Bool
  | .methodLinkNest _ _ _ _ => true
  | _ => false
def okw (w : Cond) : Bool := goodWord w || (okF w || okM w)
def TB : List Cond := lw_tbl.filter okw
theorem tb_mem {w : Cond} (i : Nat) (h : lw_tbl[i]? = some w) (ho : okw w = true) : w ∈ TB := List.mem_filter.mpr ⟨List.mem_of_getElem? h, ho⟩
theorem tb_all (ws : List Cond) (is : List Nat) (h : ws.map some = is.map (fun i => lw_tbl[i]?)) (ho : ws.all okw = true) : ∀ w ∈ ws, w ∈ TB := by
  intro w hw
  have h1 := List.all_eq_true.mp ho w hw
  have h2 : some w ∈ ws.map some := List.mem_map.mpr ⟨w, hw, rfl⟩
  rw [h] at h2
  obtain ⟨i, -, hi⟩ := List.mem_map.mp h2
  exact tb_mem i hi h1
theorem tb_warm {args : Array Value} {s : State} (h : ∀ w ∈ TB, w.before args s = true) : ∀ w ∈ TB, ∀ (a' : Array Value) (U : State), s.WarmedH U.vm → w.before a' U = true := by
  intro w hw a' U hW
  have hb := h w hw
  have ho := (List.mem_filter.mp hw).2
  unfold okw at ho
  rw [Bool.or_eq_true, Bool.or_eq_true] at ho
  rcases ho with ho | ho | ho
  · exact word_at hW (good_of_word ho) hb
  · cases w <;> first | (exfalso; simp [okF] at ho; done) | exact va_Nw.use rfl (va_Nw.warmF hW (va_Nw.of rfl hb))
  · cases w <;> first | (exfalso; simp [okM] at ho; done) | exact va_Nw.use rfl (va_Nw.warmM hW (va_Nw.of rfl hb))
/-- the cells: a row of numbers (which row kind, how long), a row of cells, an object (which of vwCl, its fields: a cell, or a number) -/
abbrev mSC : Type := (Nat × Nat) ⊕ ((Nat × List Nat) ⊕ (Nat × List (Option Nat)))
def mV (as : Nat → Nat) (x : Int32) (o : Option Nat) : Value := match o with
  | some q => .ref (as q)
  | none => .int x
def mE (dA : Nat → ClassId) (as : Nat → Nat) (f : Nat → Int32) (c : mSC) : va_E := match c with
  | .inl x => .inl (dA x.1, x.2, .inl f)
  | .inr (.inl x) => .inl (dA x.1, x.2.length, .inr (.inr (.inr (.inr (fun i => (x.2[i]?).map as)))))
  | .inr (.inr x) => .inr (x.1, x.2.mapIdx (fun j o => mV as (f j) o))
abbrev oRow (n : Nat) : mSC := .inl (0, n)
abbrev oBow (n : Nat) : mSC := .inl (1, n)
abbrev oRtn (q : Nat) : List mSC := [.inr (.inr (5, [some (q + 1), none, none, some (q + 2), some (q + 3), some (q + 4), some (q + 5), none, some (q + 6), some (q + 7), none, none])), oRow 30, oRow 15, oRow 15, oRow 15, oRow 15, oRow 30, oRow 30]
abbrev oPrg (q : Nat) : List mSC := [.inr (.inr (4, [some (q + 1), some (q + 2), none])), oRow 16, oRow 16]
abbrev oImg (q : Nat) : List mSC := [.inr (.inr (1, [some (q + 1), some (q + 2), none])), oRow 18] ++ oPrg (q + 2)
abbrev oLay (q : Nat) : List mSC := [.inr (.inr (2, [some (q + 1), some (q + 4), some (q + 5), some (q + 6), none, none]))] ++ oPrg (q + 1) ++ [oRow 16, oRow 16, oRow 16]
abbrev oEff (q : Nat) : List mSC := [.inr (.inr (0, [some (q + 1), some (q + 2), some (q + 3), some (q + 4), some (q + 5), none])), oRow 72, oRow 72, oRow 72, oRow 72, oBow 6]
abbrev oMac (q : Nat) : List mSC := [.inr (.inr (3, [some (q + 1), some (q + 2), none, none, none])), oRow 18, oRow 16]
abbrev oMdl (q : Nat) : List mSC := [.inr (.inr (7, [some (q + 1), some (q + 2), some (q + 3), some (q + 4), some (q + 5), none, none, none, none, none, none, none, none, none, some (q + 6), some (q + 7), some (q + 8), some (q + 9), some (q + 10), some (q + 11), none, some (q + 12), some (q + 13), some (q + 14), some (q + 15), some (q + 16), none, some (q + 17), some (q + 18), some (q + 19), none, none, some (q + 20), none, none, some (q + 21), some (q + 22), none, none])),
  oRow 180, oRow 6, oRow 18, oRow 16, oRow 16, oRow 72, oRow 72, oRow 72, oRow 72, oRow 6, oRow 18, oRow 16, oRow 16, oRow 16, oRow 16, oRow 16, oRow 20, oRow 20, oRow 20, oRow 16, oRow 102, oBow 2]
def mShX : List mSC := [.inr (.inr (6, [some 1, some 2, some 8, some 9, some 12, some 13, some 20, some 27])), .inr (.inl (2, [30, 38, 46, 54, 62, 70]))] ++ oEff 2 ++ [oRow 18] ++ oPrg 9 ++ [.inr (.inl (3, [78, 83]))] ++ oLay 13 ++ oLay 20 ++ oMac 27 ++ oRtn 30 ++ oRtn 38 ++ oRtn 46 ++ oRtn 54 ++ oRtn 62 ++ oRtn 70 ++ oImg 78 ++ oImg 83
def mSh : List mSC := mShX ++ oMdl 88
def mLen (a : Nat) : Nat := match mSh[a]? with
  | some (.inl x) => x.2
  | _ => 0
def mW (dA : Nat → ClassId) (as : Nat → Nat) (u : MU) : va_W := mSh.mapIdx (fun k c => (as k, mE dA as (u k) c))
theorem mW_get {dA : Nat → ClassId} {as : Nat → Nat} {u : MU} {k : Nat} {c : mSC} (h : mSh[k]? = some c) : (mW dA as u)[k]? = some (as k, mE dA as (u k) c) := by
  unfold mW
  rw [List.getElem?_mapIdx, h]
  rfl
theorem mW_row {dA : Nat → ClassId} {as : Nat → Nat} {u : MU} {k : Nat} {c : mSC} (h : mSh[k]? = some c) (f : Nat → Int32) : (mW dA as u).set k (as k, mE dA as f c) = mW dA as (mrow u k f) := by
  apply List.ext_getElem?
  intro i
  rw [List.getElem?_set]
  by_cases hi : k = i
  · subst hi
    rw [if_pos rfl, mW_get h]
    have hl : k < (mW dA as u).length := by
      have := (List.getElem?_eq_some_iff.mp h).1
      unfold mW
      rw [List.length_mapIdx]
      exact this
    rw [if_pos hl]
    simp [mrow]
  · rw [if_neg hi]
    unfold mW
    rw [List.getElem?_mapIdx, List.getElem?_mapIdx]
    congr 1
    funext c
    simp [mrow, Ne.symm hi]
theorem mF_get {as : Nat → Nat} {f : Nat → Int32} {fl : List (Option Nat)} {k : Nat} {o : Option Nat} (h : fl[k]? = some o) : (fl.mapIdx (fun j o => mV as (f j) o))[k]? = some (mV as (f k) o) := by
  rw [List.getElem?_mapIdx, h]
  rfl
theorem mF_set {as : Nat → Nat} {f : Nat → Int32} {fl : List (Option Nat)} {k : Nat} (h : fl[k]? = some none) (v : Int32) : (fl.mapIdx (fun j o => mV as (f j) o)).set k (.int v) = fl.mapIdx (fun j o => mV as (upd f k v j) o) := by
  apply List.ext_getElem?
  intro i
  rw [List.getElem?_set]
  by_cases hi : k = i
  · subst hi
    have hl : k < (fl.mapIdx (fun j o => mV as (f j) o)).length := by
      rw [List.length_mapIdx]
      exact (List.getElem?_eq_some_iff.mp h).1
    rw [if_pos rfl, if_pos hl, List.getElem?_mapIdx, h]
    simp [mV, upd]
  · rw [if_neg hi, List.getElem?_mapIdx, List.getElem?_mapIdx]
    congr 1
    funext o
    simp [upd, Ne.symm hi]
