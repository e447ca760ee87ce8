def bt (x : Int32) (i : Nat) : Bool := x.toBitVec.getLsbD i
theorem b_ext {x y : Int32} (h : ∀ i, i < 32 → bt x i = bt y i) : x = y := Int32.toBitVec_inj.mp (BitVec.eq_of_getLsbD_eq (fun i hi => h i hi))
theorem b_or (x y : Int32) (i : Nat) : bt (x ||| y) i = (bt x i || bt y i) := by unfold bt; rw [Int32.toBitVec_or, BitVec.getLsbD_or]
theorem b_and (x y : Int32) (i : Nat) : bt (x &&& y) i = (bt x i && bt y i) := by unfold bt; rw [Int32.toBitVec_and, BitVec.getLsbD_and]
theorem b_xor (x y : Int32) (i : Nat) : bt (x ^^^ y) i = (bt x i ^^ bt y i) := by unfold bt; rw [Int32.toBitVec_xor, BitVec.getLsbD_xor]
theorem b_big {x : Int32} {i : Nat} (h : 32 ≤ i) : bt x i = false := BitVec.getLsbD_of_ge _ _ h
theorem b_m1 : ∀ i, i < 32 → bt (-1) i = true := by decide +kernel
theorem b_0 (i : Nat) : bt 0 i = false := BitVec.getLsbD_zero
theorem s_l : ∀ n, n < 32 → ((nI n &&& 31).toBitVec.smod 32).toNat = n := by decide +kernel
theorem b_shl (n : Nat) (hn : n < 32) (x : Int32) {i : Nat} (hi : i < 32) : bt (x <<< (nI n &&& 31)) i = (decide (n ≤ i) && bt x (i - n)) := by
  unfold bt
  rw [Int32.toBitVec_shiftLeft]
  show (x.toBitVec <<< ((nI n &&& 31).toBitVec.smod 32).toNat).getLsbD i = _
  rw [s_l n hn, BitVec.getLsbD_shiftLeft]
  rcases Nat.lt_or_ge i n with h | h
  · simp [h, Nat.not_le.mpr h]
  · simp [hi, h, Nat.not_lt.mpr h]
theorem b_sshr (n : Nat) (hn : n < 32) (x : Int32) {i : Nat} (hi : i < 32) : bt (x >>> (nI n &&& 31)) i = if n + i < 32 then bt x (n + i) else bt x 31 := by
  unfold bt
  rw [Int32.toBitVec_shiftRight]
  show (x.toBitVec.sshiftRight ((nI n &&& 31).toBitVec.smod 32).toNat).getLsbD i = _
  rw [s_l n hn, BitVec.getLsbD_sshiftRight, BitVec.msb_eq_getLsbD_last]
  simp [hi]
theorem btI_bt : ∀ j : Nat, j < 32 → ∀ k : Nat, k < 32 → bt (btI j) k = decide (j = k) := by decide +kernel
theorem tb_one (x : Int32) : (x &&& 1) = 1 ↔ bt x 0 = true := by
  constructor
  · intro h
    have := congrArg (fun z => bt z 0) h
    simp only [b_and] at this
    rw [show bt 1 0 = true by decide] at this
    simpa using this
  · intro h
    apply b_ext
    intro i hi
    rw [b_and]
    by_cases h0 : i = 0
    · subst h0; rw [h]; decide
    · have : ∀ i : Nat, i < 32 → i ≠ 0 → bt 1 i = false := by decide +kernel
      rw [this i hi h0, Bool.and_false]
theorem tb_zero (x : Int32) : (x &&& 1) = 0 ↔ bt x 0 = false := by
  constructor
  · intro h
    have := congrArg (fun z => bt z 0) h
    simp only [b_and] at this
    rw [show bt 1 0 = true by decide, b_0] at this
    simpa using this
  · intro h
    apply b_ext
    intro i hi
    rw [b_and, b_0]
    by_cases h0 : i = 0
    · subst h0; rw [h]; rfl
    · have : ∀ i : Nat, i < 32 → i ≠ 0 → bt 1 i = false := by decide +kernel
      rw [this i hi h0, Bool.and_false]
theorem tb_sh1 {x : Int32} {k : Nat} (hk : k < 32) : ((x >>> (nI k &&& 31)) &&& 1) = 1 ↔ bt x k = true := by
  rw [tb_one, b_sshr k hk x (by omega), Nat.add_zero, if_pos hk]
theorem tb_sh0 {x : Int32} {k : Nat} (hk : k < 32) : ((x >>> (nI k &&& 31)) &&& 1) = 0 ↔ bt x k = false := by
  rw [tb_zero, b_sshr k hk x (by omega), Nat.add_zero, if_pos hk]
theorem isub_iff {a b : Int32} : isub a b ↔ ∀ i : Nat, i < 32 → bt a i = true → bt b i = true := by
  unfold isub
  constructor
  · intro h i hi ha
    rw [← h, b_or, ha, Bool.true_or]
  · intro h
    apply b_ext
    intro i hi
    rw [b_or]
    cases ha : bt a i with
    | false => simp
    | true => rw [h i hi ha]; rfl
theorem isub.rf (a : Int32) : isub a a := isub_iff.mpr fun _ _ h => h
theorem isub.tr {a b c : Int32} (h : isub a b) (g : isub b c) : isub a c := isub_iff.mpr fun i hi ha => isub_iff.mp g i hi (isub_iff.mp h i hi ha)
theorem isub.antisymm {a b : Int32} (h : isub a b) (g : isub b a) : a = b := by
  apply b_ext
  intro i hi
  cases ha : bt a i with
  | true => rw [isub_iff.mp h i hi ha]
  | false =>
    cases hb : bt b i with
    | false => rfl
    | true => rw [isub_iff.mp g i hi hb] at ha; cases ha
theorem isub.left (a b : Int32) : isub a (a ||| b) := isub_iff.mpr fun i _ ha => by rw [b_or, ha]; rfl
theorem isub.right (a b : Int32) : isub b (a ||| b) := isub_iff.mpr fun i _ hb => by rw [b_or, hb, Bool.or_true]
theorem isub.or {a b c : Int32} (h : isub a c) (g : isub b c) : isub (a ||| b) c := isub_iff.mpr fun i hi hab => by
  rw [b_or, Bool.or_eq_true] at hab
  rcases hab with q | q
  · exact isub_iff.mp h i hi q
  · exact isub_iff.mp g i hi q
theorem isub.zero (a : Int32) : isub 0 a := isub_iff.mpr fun i _ h => by rw [b_0] at h; cases h
/-- how many bits -/
def pcn (x : Int32) : Nat := (List.range 32).countP (fun i => bt x i)
theorem pcn_le {a b : Int32} (h : isub a b) : pcn a ≤ pcn b := by
  unfold pcn
  apply List.countP_mono_left
  intro i hi ha
  exact isub_iff.mp h i (List.mem_range.mp hi) ha
theorem pcn_le32 (a : Int32) : pcn a ≤ 32 := by
  unfold pcn
  have := List.countP_le_length (p := fun i => bt a i) (l := List.range 32)
  simpa using this
theorem countP_lt {p q : Nat → Bool} {l : List Nat} (h : ∀ i ∈ l, p i = true → q i = true) {j : Nat} (hj : j ∈ l) (hp : p j = false) (hq : q j = true) : l.countP p < l.countP q := by
  induction l with
  | nil => cases hj
  | cons a l ih =>
    have hle : l.countP p ≤ l.countP q := List.countP_mono_left (fun i hi => h i (List.mem_cons_of_mem _ hi))
    rw [List.countP_cons, List.countP_cons]
    rcases List.mem_cons.mp hj with rfl | hj
    · rw [hp, hq]; simp; omega
    · have := ih (fun i hi => h i (List.mem_cons_of_mem _ hi)) hj
      have h2 : (if p a = true then 1 else 0) ≤ (if q a = true then 1 else 0) := by
        by_cases c : p a = true
        · rw [if_pos c, if_pos (h a List.mem_cons_self c)]; exact Nat.le_refl _
        · rw [if_neg c]; exact Nat.zero_le _
      omega
theorem pcn_lt {a b : Int32} (h : isub a b) (hne : ¬ a = b) : pcn a < pcn b := by
  have : ∃ i : Nat, i < 32 ∧ bt a i = false ∧ bt b i = true := by
    apply Classical.byContradiction
    intro q
    apply hne
    apply h.antisymm
    apply isub_iff.mpr
    intro i hi hb
    cases ha : bt a i with
    | true => rfl
    | false => exact absurd ⟨i, hi, ha, hb⟩ q
  obtain ⟨i, hi, h1, h2⟩ := this
  exact countP_lt (fun k hk hp => isub_iff.mp h k (List.mem_range.mp hk) hp) (List.mem_range.mpr hi) h1 h2
theorem cb_bt {s : Nat} (hs : s < 6) : ∀ (ss : List pSt) (b : Int32), (∀ st ∈ ss, stOK st) → (bt (ss.foldl cbA b) s = true ↔ bt b s = true ∨ ∃ st ∈ ss, st.1 = 3 ∧ st.2.2.1 = s) := by
  intro ss
  induction ss with
  | nil => intro b _; simp
  | cons a ss ih =>
    intro b h
    rw [List.foldl_cons, ih _ (fun st hst => h st (List.mem_cons_of_mem _ hst))]
    have ha := h a List.mem_cons_self
    unfold cbA
    by_cases c : a.1 = 3
    · rw [if_pos c, b_or, Bool.or_eq_true, btI_bt _ (by have := ha.2.2.2.1; omega) _ (by omega), decide_eq_true_eq]
      constructor
      · rintro ((q | q) | ⟨st, h1, h2⟩)
        · exact Or.inl q
        · exact Or.inr ⟨a, List.mem_cons_self, c, q⟩
        · exact Or.inr ⟨st, List.mem_cons_of_mem _ h1, h2⟩
      · rintro (q | ⟨st, h1, h2⟩)
        · exact Or.inl (Or.inl q)
        · rcases List.mem_cons.mp h1 with rfl | h1
          · exact Or.inl (Or.inr h2.2)
          · exact Or.inr ⟨st, h1, h2⟩
    · rw [if_neg c]
      constructor
      · rintro (q | ⟨st, h1, h2⟩)
        · exact Or.inl q
        · exact Or.inr ⟨st, List.mem_cons_of_mem _ h1, h2⟩
      · rintro (q | ⟨st, h1, h2⟩)
        · exact Or.inl q
        · rcases List.mem_cons.mp h1 with rfl | h1
          · exact absurd h2.1 c
          · exact Or.inr ⟨st, h1, h2⟩
