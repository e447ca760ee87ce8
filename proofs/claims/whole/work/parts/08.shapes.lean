def okX4 (q : Nat) : Prop := mSh[q]? = some (.inr (.inr (4, [some (q + 1), some (q + 2), none]))) ∧ mSh[q + 1]? = some (.inl (0, 16)) ∧ mSh[q + 2]? = some (.inl (0, 16))
def okX5 (q : Nat) : Prop := mSh[q]? = some (.inr (.inr (5, [some (q + 1), none, none, some (q + 2), some (q + 3), some (q + 4), some (q + 5), none, some (q + 6), some (q + 7), none, none]))) ∧ mSh[q + 1]? = some (.inl (0, 30)) ∧ mSh[q + 2]? = some (.inl (0, 15)) ∧ mSh[q + 3]? = some (.inl (0, 15)) ∧ mSh[q + 4]? = some (.inl (0, 15)) ∧ mSh[q + 5]? = some (.inl (0, 15)) ∧ mSh[q + 6]? = some (.inl (0, 30)) ∧ mSh[q + 7]? = some (.inl (0, 30))
def okX1 (q : Nat) : Prop := mSh[q]? = some (.inr (.inr (1, [some (q + 1), some (q + 2), none]))) ∧ mSh[q + 1]? = some (.inl (0, 18)) ∧ okX4 (q + 2)
def okX2 (q : Nat) : Prop := mSh[q]? = some (.inr (.inr (2, [some (q + 1), some (q + 4), some (q + 5), some (q + 6), none, none]))) ∧ okX4 (q + 1) ∧ mSh[q + 4]? = some (.inl (0, 16)) ∧ mSh[q + 5]? = some (.inl (0, 16)) ∧ mSh[q + 6]? = some (.inl (0, 16))
def okI (a : Nat) : Prop := mSh[a]? = some (.inl (0, mLen a))
theorem ok4_9 : okX4 9 := ⟨rfl, rfl, rfl⟩
theorem ok2_13 : okX2 13 := ⟨rfl, ⟨rfl, rfl, rfl⟩, rfl, rfl, rfl⟩
theorem ok2_20 : okX2 20 := ⟨rfl, ⟨rfl, rfl, rfl⟩, rfl, rfl, rfl⟩
def rtn (i : Int32) : Nat := 30 + 8 * i.toNatClampNeg
def img (i : Int32) : Nat := 78 + 5 * i.toNatClampNeg
theorem mIx_lt {i : Int32} {n : Nat} (h : mIx i n = true) : i.toNatClampNeg < n := by
  unfold mIx at h
  rw [Bool.and_eq_true, decide_eq_true_eq] at h
  exact h.2
theorem rtn_ok {i : Int32} (h : mIx i 6 = true) : okX5 (rtn i) := by
  have h1 := mIx_lt h
  unfold rtn
  generalize i.toNatClampNeg = j at h1 ⊢
  match j, h1 with
  | 0, _ => exact ⟨rfl, rfl, rfl, rfl, rfl, rfl, rfl, rfl⟩
  | 1, _ => exact ⟨rfl, rfl, rfl, rfl, rfl, rfl, rfl, rfl⟩
  | 2, _ => exact ⟨rfl, rfl, rfl, rfl, rfl, rfl, rfl, rfl⟩
  | 3, _ => exact ⟨rfl, rfl, rfl, rfl, rfl, rfl, rfl, rfl⟩
  | 4, _ => exact ⟨rfl, rfl, rfl, rfl, rfl, rfl, rfl, rfl⟩
  | 5, _ => exact ⟨rfl, rfl, rfl, rfl, rfl, rfl, rfl, rfl⟩
  | n + 6, h => omega
theorem rtn_at {i : Int32} (h : mIx i 6 = true) : ([30, 38, 46, 54, 62, 70] : List Nat)[i.toNatClampNeg]? = some (rtn i) := by
  have h1 := mIx_lt h
  unfold rtn
  generalize i.toNatClampNeg = j at h1 ⊢
  match j, h1 with
  | 0, _ => rfl
  | 1, _ => rfl
  | 2, _ => rfl
  | 3, _ => rfl
  | 4, _ => rfl
  | 5, _ => rfl
  | n + 6, h => omega
theorem img_ok {i : Int32} (h : mIx i 2 = true) : okX1 (img i) := by
  have h1 := mIx_lt h
  unfold img
  generalize i.toNatClampNeg = j at h1 ⊢
  match j, h1 with
  | 0, _ => exact ⟨rfl, rfl, ⟨rfl, rfl, rfl⟩⟩
  | 1, _ => exact ⟨rfl, rfl, ⟨rfl, rfl, rfl⟩⟩
  | n + 2, h => omega
theorem img_at {i : Int32} (h : mIx i 2 = true) : ([78, 83] : List Nat)[i.toNatClampNeg]? = some (img i) := by
  have h1 := mIx_lt h
  unfold img
  generalize i.toNatClampNeg = j at h1 ⊢
  match j, h1 with
  | 0, _ => rfl
  | 1, _ => rfl
  | n + 2, h => omega
def mS (v : MU) (k : MU → mR) : mR := k v
theorem mS_some {v : MU} {k : MU → mR} {r : Int32 × MU} (h : mS v k = some r) : ∃ w : MU, v = w ∧ k w = some r := ⟨v, rfl, h⟩
def FU : Nat := 5000
theorem mOK.dis {cc : ByteArray} {own : String} {nL fr lo : Nat} {C : mCtx} (h : mOK cc own nL fr lo C) : mDis (cS C) := by
  obtain ⟨p, l, e, R, s, m, args, below, meth, c, Q, dC, dI, dA, as, nc, ns, A⟩ := C
  exact h.2.2.2.2.2.2.1
theorem tab_out {x : Int32} {a : Nat} (h : ∀ k : Nat, k ≤ a → ¬ x = nI k) (ha : a < 2 ^ 30) : x.toInt < 0 ∨ (a : Int) < x.toInt := by
  by_cases h1 : x.toInt < 0
  · exact Or.inl h1
  · by_cases h2 : (a : Int) < x.toInt
    · exact Or.inr h2
    · exfalso
      have h3 : ¬ x < 0 := fun q => h1 (by simpa using Int32.lt_iff_toInt_lt.mp q)
      obtain ⟨j, hj, rfl⟩ := nI_of h3
      rw [nI_toInt hj] at h2
      exact h j (by omega) rfl

theorem sh_0 : mSh[0]? = some (.inr (.inr (6, [some 1, some 2, some 8, some 9, some 12, some 13, some 20, some 27]))) := by decide +kernel
theorem sh_1 : mSh[1]? = some (.inr (.inl (2, [30, 38, 46, 54, 62, 70]))) := by decide +kernel
theorem sh_2 : mSh[2]? = some (.inr (.inr (0, [some 3, some 4, some 5, some 6, some 7, none]))) := by decide +kernel
theorem sh_3 : mSh[3]? = some (.inl (0, 72)) := by decide +kernel
theorem sh_4 : mSh[4]? = some (.inl (0, 72)) := by decide +kernel
theorem sh_5 : mSh[5]? = some (.inl (0, 72)) := by decide +kernel
theorem sh_6 : mSh[6]? = some (.inl (0, 72)) := by decide +kernel
theorem sh_7 : mSh[7]? = some (.inl (1, 6)) := by decide +kernel
theorem sh_8 : mSh[8]? = some (.inl (0, 18)) := by decide +kernel
theorem sh_12 : mSh[12]? = some (.inr (.inl (3, [78, 83]))) := by decide +kernel
theorem sh_27 : mSh[27]? = some (.inr (.inr (3, [some 28, some 29, none, none, none]))) := by decide +kernel
theorem sh_28 : mSh[28]? = some (.inl (0, 18)) := by decide +kernel
theorem sh_29 : mSh[29]? = some (.inl (0, 16)) := by decide +kernel
theorem sh_88 : mSh[88]? = some (.inr (.inr (7, [some 89, some 90, some 91, some 92, some 93, none, none, none, none, none, none, none, none, none, some 94, some 95, some 96, some 97, some 98, some 99, none, some 100, some 101, some 102, some 103, some 104, none, some 105, some 106, some 107, none, none, some 108, none, none, some 109, some 110, none, none]))) := by decide +kernel
theorem sh_89 : mSh[89]? = some (.inl (0, 180)) := by decide +kernel
theorem sh_90 : mSh[90]? = some (.inl (0, 6)) := by decide +kernel
theorem sh_91 : mSh[91]? = some (.inl (0, 18)) := by decide +kernel
theorem sh_92 : mSh[92]? = some (.inl (0, 16)) := by decide +kernel
theorem sh_93 : mSh[93]? = some (.inl (0, 16)) := by decide +kernel
theorem sh_94 : mSh[94]? = some (.inl (0, 72)) := by decide +kernel
theorem sh_95 : mSh[95]? = some (.inl (0, 72)) := by decide +kernel
theorem sh_96 : mSh[96]? = some (.inl (0, 72)) := by decide +kernel
theorem sh_97 : mSh[97]? = some (.inl (0, 72)) := by decide +kernel
theorem sh_98 : mSh[98]? = some (.inl (0, 6)) := by decide +kernel
theorem sh_99 : mSh[99]? = some (.inl (0, 18)) := by decide +kernel
theorem sh_100 : mSh[100]? = some (.inl (0, 16)) := by decide +kernel
theorem sh_101 : mSh[101]? = some (.inl (0, 16)) := by decide +kernel
theorem sh_102 : mSh[102]? = some (.inl (0, 16)) := by decide +kernel
theorem sh_103 : mSh[103]? = some (.inl (0, 16)) := by decide +kernel
theorem sh_104 : mSh[104]? = some (.inl (0, 16)) := by decide +kernel
theorem sh_105 : mSh[105]? = some (.inl (0, 20)) := by decide +kernel
theorem sh_106 : mSh[106]? = some (.inl (0, 20)) := by decide +kernel
theorem sh_107 : mSh[107]? = some (.inl (0, 20)) := by decide +kernel
theorem sh_108 : mSh[108]? = some (.inl (0, 16)) := by decide +kernel
theorem sh_109 : mSh[109]? = some (.inl (0, 102)) := by decide +kernel
theorem sh_110 : mSh[110]? = some (.inl (1, 2)) := by decide +kernel
