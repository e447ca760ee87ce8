theorem for_s {α : Type} {L : Nat → Nat → α → MU → mR} {Q : mR → Prop} {I : Nat → α → MU → Prop} {m : Nat} (step : ∀ (F i : Nat) (a : α) (u : MU), i < m → I i a u → Q (L (F + 1) i a u) ∨ ∃ (a' : α) (u' : MU), L (F + 1) i a u = L F (i + 1) a' u' ∧ I (i + 1) a' u') (exit : ∀ (F : Nat) (a : α) (u : MU), I m a u → Q (L (F + 1) m a u)) : ∀ (i : Nat) (a : α) (u : MU) (F : Nat), i ≤ m → I i a u → m - i < F → Q (L F i a u) := by
  have main : ∀ (d i : Nat) (a : α) (u : MU) (F : Nat), m - i ≤ d → i ≤ m → I i a u → m - i < F → Q (L F i a u) := by
    intro d
    induction d with
    | zero =>
      intro i a u F h1 h2 h3 h4
      obtain ⟨F, rfl⟩ : ∃ g, F = g + 1 := ⟨F - 1, by omega⟩
      have : i = m := by omega
      subst this
      exact exit F a u h3
    | succ d ih =>
      intro i a u F h1 h2 h3 h4
      obtain ⟨F, rfl⟩ : ∃ g, F = g + 1 := ⟨F - 1, by omega⟩
      by_cases c : i < m
      · rcases step F i a u c h3 with h | ⟨a', u', e1, e2⟩
        · exact h
        · rw [e1]
          exact ih (i + 1) a' u' F (by omega) (by omega) e2 (by omega)
      · have : i = m := by omega
        subst this
        exact exit F a u h3
  intro i a u F
  exact main (m - i) i a u F (Nat.le_refl _)
def cnt (P : Nat → Bool) : Nat → Nat
  | 0 => 0
  | n + 1 => cnt P n + (if P n = true then 1 else 0)
theorem cnt_le (P : Nat → Bool) : ∀ n : Nat, cnt P n ≤ n := by
  intro n
  induction n with
  | zero => exact Nat.le_refl _
  | succ n ih => rw [cnt]; split <;> omega
theorem cnt_mono {P Q : Nat → Bool} : ∀ n : Nat, (∀ i : Nat, i < n → P i = true → Q i = true) → cnt P n ≤ cnt Q n := by
  intro n
  induction n with
  | zero => intro _; exact Nat.le_refl _
  | succ n ih =>
    intro h
    have := ih (fun i hi => h i (by omega))
    rw [cnt, cnt]
    by_cases c : P n = true
    · rw [if_pos c, if_pos (h n (by omega) c)]; omega
    · rw [if_neg c]; omega
theorem cnt_lt {P Q : Nat → Bool} : ∀ n : Nat, (∀ i : Nat, i < n → P i = true → Q i = true) → ∀ j : Nat, j < n → P j = false → Q j = true → cnt P n < cnt Q n := by
  intro n
  induction n with
  | zero => intro _ j h; omega
  | succ n ih =>
    intro h j hj hp hq
    rw [cnt, cnt]
    by_cases c : j = n
    · subst c
      have := cnt_mono j (fun i hi => h i (by omega))
      rw [hp, hq, if_pos rfl, if_neg (by decide)]
      omega
    · have := ih (fun i hi => h i (by omega)) j (by omega) hp hq
      by_cases c2 : P n = true
      · rw [if_pos c2, if_pos (h n (by omega) c2)]; omega
      · rw [if_neg c2]; omega
theorem cnt_cong {P Q : Nat → Bool} (n : Nat) (h : ∀ i : Nat, i < n → P i = Q i) : cnt P n = cnt Q n := Nat.le_antisymm (cnt_mono n (fun i hi q => by rw [← h i hi]; exact q)) (cnt_mono n (fun i hi q => by rw [h i hi]; exact q))
theorem cnt_lt_self {P : Nat → Bool} {n j : Nat} (hj : j < n) (h : P j = false) : cnt P n < n := by
  have h1 := cnt_lt (P := P) (Q := fun _ => true) n (fun _ _ _ => rfl) j hj h rfl
  have h2 := cnt_le (fun _ => true) n
  omega
theorem pigeon : ∀ (m : Nat) (f : Nat → Nat), (∀ i : Nat, i < m → f i < m) → (∀ i j : Nat, i < m → j < m → f i = f j → i = j) → ∀ k : Nat, k < m → ∃ i : Nat, i < m ∧ f i = k := by
  intro m
  induction m with
  | zero => intro f _ _ k hk; omega
  | succ m ih =>
    intro f hf hi k hk
    by_cases c : k = f m
    · exact ⟨m, by omega, c.symm⟩
    · have hg := ih (fun i => if f i = m then f m else f i) (fun i him => by
        by_cases q : f i = m
        · simp only [q, if_true]
          have h1 := hf m (by omega)
          have h2 : f m ≠ m := fun e => by
            have := hi i m (by omega) (by omega) (by rw [q, e])
            omega
          omega
        · simp only [q, if_false]
          have := hf i (by omega)
          omega) (fun i j hi' hj' e => by
        by_cases q1 : f i = m
        · by_cases q2 : f j = m
          · exact hi i j (by omega) (by omega) (by rw [q1, q2])
          · simp only [q1, q2, if_true, if_false] at e
            have := hi m j (by omega) (by omega) e
            omega
        · by_cases q2 : f j = m
          · simp only [q1, q2, if_true, if_false] at e
            have := hi i m (by omega) (by omega) e
            omega
          · simp only [q1, q2, if_false] at e
            exact hi i j (by omega) (by omega) e)
      by_cases km : k = m
      · apply Classical.byContradiction
        intro no
        have nf : ∀ i : Nat, i < m + 1 → f i ≠ m := fun i hi' e => no ⟨i, hi', by rw [e, km]⟩
        have hl : f m < m := by
          have h1 := hf m (by omega)
          have h2 := nf m (by omega)
          omega
        obtain ⟨i, h1, h2⟩ := hg (f m) hl
        simp only [nf i (by omega), if_false] at h2
        have := hi i m (by omega) (by omega) h2
        omega
      · obtain ⟨i, h1, h2⟩ := hg k (by omega)
        by_cases q : f i = m
        · simp only [q, if_true] at h2
          exact absurd h2.symm c
        · simp only [q, if_false] at h2
          exact ⟨i, by omega, h2⟩
/-- a strict order of the first m numbers -/
def sto (R : Nat → Nat → Bool) : Prop := (∀ a : Nat, R a a = false) ∧ (∀ a b c : Nat, R a b = true → R b c = true → R a c = true) ∧ ∀ a b : Nat, a = b ∨ R a b = true ∨ R b a = true
theorem sto.lt {R : Nat → Nat → Bool} (h : sto R) {m d c : Nat} (hd : d < m) (hr : R d c = true) : cnt (fun x => R x d) m < cnt (fun x => R x c) m := cnt_lt m (fun i _ q => h.2.1 i d c q hr) d hd (h.1 d) hr
theorem sto.bound {R : Nat → Nat → Bool} (h : sto R) {m c : Nat} (hc : c < m) : cnt (fun x => R x c) m < m := cnt_lt_self hc (h.1 c)
theorem sto.inj {R : Nat → Nat → Bool} (h : sto R) {m c d : Nat} (hc : c < m) (hd : d < m) (e : cnt (fun x => R x c) m = cnt (fun x => R x d) m) : c = d := by
  rcases h.2.2 c d with q | q | q
  · exact q
  · have := h.lt hc q; omega
  · have := h.lt hd q; omega
theorem sto.iff {R : Nat → Nat → Bool} (h : sto R) {m c d : Nat} (hc : c < m) (hd : d < m) : R d c = true ↔ cnt (fun x => R x d) m < cnt (fun x => R x c) m := by
  constructor
  · exact h.lt hd
  · intro q
    rcases h.2.2 d c with e | e | e
    · subst e; omega
    · exact e
    · have := h.lt hc e; omega
theorem sto.surj {R : Nat → Nat → Bool} (h : sto R) {m : Nat} : ∀ k : Nat, k < m → ∃ c : Nat, c < m ∧ cnt (fun x => R x c) m = k := pigeon m (fun c => cnt (fun x => R x c) m) (fun c hc => h.bound hc) (fun c d hc hd e => h.inj hc hd e)
/-- who goes ahead: in order, by stages backwards, by ranks -/
def ah (how : Nat) (S a b : Nat → Nat) (d c : Nat) : Bool := if how = 0 then decide (d < c) else if S d = S c then (if how = 1 then decide (c < d) else if a d = a c then (if b d = b c then decide (d < c) else decide (b d < b c)) else decide (a d < a c)) else decide (S d < S c)
theorem ah_sto (how : Nat) (S a b : Nat → Nat) : sto (ah how S a b) := by
  unfold ah
  refine ⟨fun x => ?_, fun x y z => ?_, fun x y => ?_⟩
  · by_cases h0 : how = 0
    · simp [h0]
    · by_cases h1 : how = 1
      · simp [h1]
      · simp [h0, h1]
  · by_cases h0 : how = 0
    · simp only [h0, if_true, decide_eq_true_eq]; omega
    · simp only [h0, if_false]
      by_cases h1 : how = 1
      · simp only [h1, if_true]
        split <;> split <;> split <;> simp only [decide_eq_true_eq] <;> omega
      · simp only [h1, if_false]
        repeat' split
        all_goals simp only [decide_eq_true_eq]
        all_goals omega
  · by_cases h0 : how = 0
    · simp only [h0, if_true, decide_eq_true_eq]; omega
    · simp only [h0, if_false]
      by_cases h1 : how = 1
      · simp only [h1, if_true]
        split <;> split <;> simp only [decide_eq_true_eq] <;> omega
      · simp only [h1, if_false]
        repeat' split
        all_goals simp only [decide_eq_true_eq]
        all_goals omega
def pos (how : Nat) (S a b : Nat → Nat) (m c : Nat) : Nat := cnt (fun d => ah how S a b d c) m
def stI (B : Nat → Nat → Bool) (f : Nat → Nat) (k : Nat) : Nat → Nat
  | 0 => 0
  | e + 1 => if B e k = true then max (stI B f k e) (f e + 1) else stI B f k e
theorem stI_cong {B : Nat → Nat → Bool} {f g : Nat → Nat} {k : Nat} : ∀ n : Nat, (∀ e : Nat, e < n → f e = g e) → stI B f k n = stI B g k n := by
  intro n
  induction n with
  | zero => intro _; rfl
  | succ n ih =>
    intro h
    rw [stI, stI, ih (fun e he => h e (by omega)), h n (by omega)]
theorem stI_le {B : Nat → Nat → Bool} {f : Nat → Nat} {k : Nat} : ∀ n : Nat, (∀ e : Nat, e < n → f e ≤ e) → stI B f k n ≤ n := by
  intro n
  induction n with
  | zero => intro _; exact Nat.le_refl _
  | succ n ih =>
    intro h
    have h1 := ih (fun e he => h e (by omega))
    have h2 := h n (by omega)
    rw [stI]
    split
    · omega
    · omega
def sgF (B : Nat → Nat → Bool) : Nat → Nat → Nat
  | 0, _ => 0
  | f + 1, k => stI B (sgF B f) k k
theorem sgF_st {B : Nat → Nat → Bool} : ∀ (n k f : Nat), k < n → k < f → sgF B f k = sgF B (k + 1) k := by
  intro n
  induction n with
  | zero => intro k f h; omega
  | succ n ih =>
    intro k f h1 h2
    obtain ⟨f, rfl⟩ : ∃ g, f = g + 1 := ⟨f - 1, by omega⟩
    rw [sgF, sgF]
    refine stI_cong k (fun e he => ?_)
    rw [ih e f (by omega) (by omega), ← ih e k (by omega) he]
def stg (B : Nat → Nat → Bool) (k : Nat) : Nat := sgF B (k + 1) k
theorem stg_eq (B : Nat → Nat → Bool) (k : Nat) : stg B k = stI B (stg B) k k := by
  unfold stg
  rw [sgF]
  refine stI_cong k (fun e he => ?_)
  exact sgF_st (e + 1) e k (by omega) he
theorem stg_le (B : Nat → Nat → Bool) : ∀ n k : Nat, k < n → stg B k ≤ k := by
  intro n
  induction n with
  | zero => intro k h; omega
  | succ n ih =>
    intro k h
    rw [stg_eq]
    exact stI_le k (fun e he => ih e (by omega))
def smx (S : Nat → Nat) : Nat → Nat
  | 0 => 0
  | n + 1 => max (smx S n) (S n + 1)
theorem smx_le {S : Nat → Nat} : ∀ n : Nat, (∀ e : Nat, e < n → S e ≤ e) → smx S n ≤ n := by
  intro n
  induction n with
  | zero => intro _; exact Nat.le_refl _
  | succ n ih =>
    intro h
    have h1 := ih (fun e he => h e (by omega))
    have h2 := h n (by omega)
    rw [smx]
    omega
def fpT (B : Nat → Nat → Bool) : Nat → Nat
  | 0 => 0
  | c + 1 => fpT B c + cnt (fun e => !(B e c)) c
theorem fpT_le (B : Nat → Nat → Bool) : ∀ n : Nat, fpT B n ≤ n * n := by
  intro n
  induction n with
  | zero => exact Nat.le_refl _
  | succ n ih =>
    rw [fpT]
    have := cnt_le (fun e => !(B e n)) n
    have e : (n + 1) * (n + 1) = n * n + n + n + 1 := by rw [Nat.add_mul, Nat.mul_add]; omega
    omega
theorem cau_sym (M : Nat → Nat → Int32) (p q : Nat) : cau M p q = cau M q p := by
  unfold cau
  have h1 : ((M 1 p &&& (M 1 q ||| M 2 q)) = 0 ∧ (M 1 q &&& (M 1 p ||| M 2 p)) = 0) = ((M 1 q &&& (M 1 p ||| M 2 p)) = 0 ∧ (M 1 p &&& (M 1 q ||| M 2 q)) = 0) := propext And.comm
  have h2 : ((M 0 p &&& (M 1 q ||| M 2 q)) = 0 ∧ (M 0 q &&& (M 1 p ||| M 2 p)) = 0) = ((M 0 q &&& (M 1 p ||| M 2 p)) = 0 ∧ (M 0 p &&& (M 1 q ||| M 2 q)) = 0) := propext And.comm
  have h3 : (M 3 p = 1 ∧ M 3 q = 1) = (M 3 q = 1 ∧ M 3 p = 1) := propext And.comm
  simp only [h1, h2, h3]
