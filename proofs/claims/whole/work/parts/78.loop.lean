/-- the loop's body: which call, by the script's j-th number -/
theorem law_body {C : mCtx} {u : MU} {b Ln j : Nat} {xs : Nat → Int32} (hC : mOK cL_law RL 4 2048 84000 C) (hX : mScr C b Ln xs) (hLn : Ln ≤ 2560) (hj : j + 4 < Ln) (hI : Inv u) (next : ∀ t : MU, Inv t → wat C t 634 (lawL C b j) []) : wat C u 26 (lawL C b j) [] := by
  refine y_aloadv hC dL_law_26 rfl rfl ?_
  refine z_iload_n hC dL_law_27 rfl rfl ?_
  refine y_sld hC hX hLn (by omega) dL_law_28 ?_
  refine z_bipush (v := 31) hC dL_law_29 (by decide) ?_
  refine z_iand hC dL_law_31 ?_
  generalize xs j &&& 31 = x
  by_cases h0 : x = nI 0
  · exact z_tin hC 120 dL_law_32 (nI 0) h0 (by decide) (by decide) rfl (by decide) (law_say hC hX hLn hj hI next)
  by_cases h1 : x = nI 1
  · exact z_tin hC 153 dL_law_32 (nI 1) h1 (by decide) (by decide) rfl (by decide) (law_wipe hC hX hLn hj hI next)
  by_cases h2 : x = nI 2
  · exact z_tin hC 176 dL_law_32 (nI 2) h2 (by decide) (by decide) rfl (by decide) (law_fault hC hX hLn hj hI next)
  by_cases h3 : x = nI 3
  · exact z_tin hC 199 dL_law_32 (nI 3) h3 (by decide) (by decide) rfl (by decide) (law_set hC hX hLn hj hI next)
  by_cases h4 : x = nI 4
  · exact z_tin hC 232 dL_law_32 (nI 4) h4 (by decide) (by decide) rfl (by decide) (law_get hC hX hLn hj hI next)
  by_cases h5 : x = nI 5
  · exact z_tin hC 255 dL_law_32 (nI 5) h5 (by decide) (by decide) rfl (by decide) (law_effect hC hX hLn hj hI next)
  by_cases h6 : x = nI 6
  · exact z_tin hC 298 dL_law_32 (nI 6) h6 (by decide) (by decide) rfl (by decide) (law_causes hC hX hLn hj hI next)
  by_cases h7 : x = nI 7
  · exact z_tin hC 351 dL_law_32 (nI 7) h7 (by decide) (by decide) rfl (by decide) (law_call hC hX hLn hj hI next)
  by_cases h8 : x = nI 8
  · exact z_tin hC 384 dL_law_32 (nI 8) h8 (by decide) (by decide) rfl (by decide) (law_drop hC hX hLn hj hI next)
  by_cases h9 : x = nI 9
  · exact z_tin hC 407 dL_law_32 (nI 9) h9 (by decide) (by decide) rfl (by decide) (law_swap hC hX hLn hj hI next)
  by_cases h10 : x = nI 10
  · exact z_tin hC 430 dL_law_32 (nI 10) h10 (by decide) (by decide) rfl (by decide) (law_told hC hX hLn hj hI next)
  by_cases h11 : x = nI 11
  · exact z_tin hC 463 dL_law_32 (nI 11) h11 (by decide) (by decide) rfl (by decide) (law_stages hC hX hLn hj hI next)
  by_cases h12 : x = nI 12
  · exact z_tin hC 486 dL_law_32 (nI 12) h12 (by decide) (by decide) rfl (by decide) (law_run hC hX hLn hj hI next)
  by_cases h13 : x = nI 13
  · exact z_tin hC 519 dL_law_32 (nI 13) h13 (by decide) (by decide) rfl (by decide) (law_thrower hC hX hLn hj hI next)
  by_cases h14 : x = nI 14
  · exact z_tin hC 552 dL_law_32 (nI 14) h14 (by decide) (by decide) rfl (by decide) (law_commit hC hX hLn hj hI next)
  by_cases h15 : x = nI 15
  · exact z_tin hC 565 dL_law_32 (nI 15) h15 (by decide) (by decide) rfl (by decide) (law_image hC hX hLn hj hI next)
  by_cases h16 : x = nI 16
  · exact z_tin hC 588 dL_law_32 (nI 16) h16 (by decide) (by decide) rfl (by decide) (law_restore hC hX hLn hj hI next)
  by_cases h17 : x = nI 17
  · exact z_tin hC 611 dL_law_32 (nI 17) h17 (by decide) (by decide) rfl (by decide) (law_count hC hX hLn hj hI next)
  refine z_tout hC 634 dL_law_32 (tab_out (a := 17) (fun k hk => ?_) (by decide)) (by decide) (next u hI)
  match k, hk with
  | 0, _ => exact h0
  | 1, _ => exact h1
  | 2, _ => exact h2
  | 3, _ => exact h3
  | 4, _ => exact h4
  | 5, _ => exact h5
  | 6, _ => exact h6
  | 7, _ => exact h7
  | 8, _ => exact h8
  | 9, _ => exact h9
  | 10, _ => exact h10
  | 11, _ => exact h11
  | 12, _ => exact h12
  | 13, _ => exact h13
  | 14, _ => exact h14
  | 15, _ => exact h15
  | 16, _ => exact h16
  | 17, _ => exact h17
  | n + 18, h => omega
theorem nI_sub5 {Ln : Nat} (h : Ln ≤ 2560) : (nI Ln - 5).toInt = (Ln : Int) - 5 := by
  have e1 : (nI Ln).toInt = (Ln : Int) := nI_toInt (by omega)
  rw [Int32.toInt_sub, e1, show (5 : Int32).toInt = 5 from by decide]
  exact Int.bmod_eq_of_le (by omega) (by omega)
/-- the law's loop: where the script ends, it goes to its end -/
theorem law_loop {C : mCtx} {b Ln : Nat} {xs : Nat → Int32} (hC : mOK cL_law RL 4 2048 84000 C) (hX : mScr C b Ln xs) (hLn : Ln ≤ 2560) (fin : ∀ (u : MU) (j : Nat), wat C u 640 (lawL C b j) []) : ∀ (n j : Nat) (u : MU), j ≤ Ln → Ln < j + n → Inv u → wat C u 18 (lawL C b j) [] := by
  intro n
  induction n with
  | zero => intro j u h1 h2; omega
  | succ n ih =>
    intro j u hjl hn hI
    refine z_iload_n hC dL_law_18 rfl rfl ?_
    refine y_aloadv hC dL_law_19 rfl rfl ?_
    refine y_slen hC hX dL_law_20 ?_
    refine z_iconst (v := 5) hC dL_law_21 (by decide) ?_
    refine z_isub hC dL_law_22 ?_
    refine z_icmp_gt hC 640 dL_law_23 (by decide) (fun _ => fin u j) (fun h => ?_)
    have hj : j + 4 < Ln := by
      rw [Int32.lt_iff_toInt_lt, nI_sub5 hLn, nI_toInt (by omega)] at h
      omega
    refine law_body hC hX hLn hj hI (fun t hI2 => ?_)
    refine y_iinc hC (nI (j + 5)) (lawL C b (j + 5)) dL_law_634 rfl (nI_add j 5) rfl (Nat.le_of_ble_eq_true rfl) rfl ?_
    refine z_goto hC 18 dL_law_637 (by decide) ?_
    exact ih (j + 5) t (by omega) (by omega) hI2
