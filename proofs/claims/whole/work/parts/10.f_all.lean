set_option maxRecDepth 100000 in
def f_X0_forget (u : MU) : mR := mS (mup u 2 5 0) (fun u1 => some (0, u1))
set_option maxRecDepth 100000 in
def b_X5_calleeBits_33 (k4 : Int32 → Int32 → MU → mR) (q0 : Nat) (x1 : Int32) (x2 : Int32) (u : MU) : mR := k4 x1 (x2 + 1) u
set_option maxRecDepth 100000 in
def b_X5_calleeBits_4 (k4 : Int32 → Int32 → MU → mR) (q0 : Nat) (x1 : Int32) (x2 : Int32) (u : MU) : mR := (if (u q0 7) ≤ x2 then some (x1, u) else gd (mIx x2 15) ((if (u (q0 + 2) x2.toNatClampNeg) = (nI 3) then gd (mIx x2 15) (b_X5_calleeBits_33 k4 q0 (x1 ||| (1 <<< ((u (q0 + 4) x2.toNatClampNeg) &&& 31))) x2 u) else b_X5_calleeBits_33 k4 q0 x1 x2 u)))
set_option maxRecDepth 100000 in
def l_X5_calleeBits_4 (q0 : Nat) : Nat → Int32 → Int32 → MU → mR
  | 0, _, _, _ => none
  | n + 1, x1, x2, u => b_X5_calleeBits_4 (fun x1 x2 u => l_X5_calleeBits_4 q0 n x1 x2 u) q0 x1 x2 u
set_option maxRecDepth 100000 in
def f_X5_calleeBits (q0 : Nat) (u : MU) : mR := l_X5_calleeBits_4 q0 FU 0 0 u
set_option maxRecDepth 100000 in
def b_X0_knowsBits_28 (k2 : Int32 → MU → mR) (x1 : Int32) (x2 : Int32) (u : MU) : mR := k2 (x2 + 1) u
set_option maxRecDepth 100000 in
def b_X0_knowsBits_2 (k2 : Int32 → MU → mR) (x1 : Int32) (x2 : Int32) (u : MU) : mR := (if (nI 6) ≤ x2 then some (1, u) else (if ((x1 >>> (x2 &&& 31)) &&& 1) = 1 then gd (mIx x2 6) ((if (u 7 x2.toNatClampNeg) = 0 then some (0, u) else b_X0_knowsBits_28 k2 x1 x2 u)) else b_X0_knowsBits_28 k2 x1 x2 u))
set_option maxRecDepth 100000 in
def l_X0_knowsBits_2 (x1 : Int32) : Nat → Int32 → MU → mR
  | 0, _, _ => none
  | n + 1, x2, u => b_X0_knowsBits_2 (fun x2 u => l_X0_knowsBits_2 x1 n x2 u) x1 x2 u
set_option maxRecDepth 100000 in
def f_X0_knowsBits (x1 : Int32) (u : MU) : mR := l_X0_knowsBits_2 x1 FU 0 u
set_option maxRecDepth 100000 in
def b_X0_findKnown_29 (k2 : Int32 → MU → mR) (x2 : Int32) (s2 : Int32) (s1 : Int32) (u : MU) : mR := gd (mZ s2) (gd (mIx s1 6) (mS (mup u 7 s1.toNatClampNeg s2) (fun u3 => k2 (x2 + 1) u3)))
set_option maxRecDepth 100000 in
def b_X0_findKnown_84 (k38 : Int32 → MU → mR) (k46 : Int32 → Int32 → MU → mR) (x2 : Int32) (x3 : Int32) (s2 : Int32) (s1 : Int32) (u : MU) : mR := gd (mZ s2) (gd (mIx s1 6) (mS (mup u 7 s1.toNatClampNeg s2) (fun u3 => k46 x2 (x3 + 1) u3)))
set_option maxRecDepth 100000 in
def b_X0_findKnown_83 (k38 : Int32 → MU → mR) (k46 : Int32 → Int32 → MU → mR) (x2 : Int32) (x3 : Int32) (s1 : Int32) (u : MU) : mR := b_X0_findKnown_84 k38 k46 x2 x3 0 s1 u
set_option maxRecDepth 100000 in
def b_X0_findKnown_46 (k38 : Int32 → MU → mR) (k46 : Int32 → Int32 → MU → mR) (x2 : Int32) (x3 : Int32) (u : MU) : mR := (if (nI 6) ≤ x3 then k38 (x2 + 1) u else gd (mIx x3 6) ((if (u 7 x3.toNatClampNeg) = 0 then b_X0_findKnown_83 k38 k46 x2 x3 x3 u else gd (mIx x3 6) (mB (f_X5_calleeBits (rtn x3) u) (fun r5 u5 => mB (f_X0_knowsBits r5 u5) (fun r6 u6 => (if r6 = 0 then b_X0_findKnown_83 k38 k46 x2 x3 x3 u6 else b_X0_findKnown_84 k38 k46 x2 x3 1 x3 u6)))))))
set_option maxRecDepth 100000 in
def l_X0_findKnown_46 (k38 : Int32 → MU → mR) : Nat → Int32 → Int32 → MU → mR
  | 0, _, _, _ => none
  | n + 1, x2, x3, u => b_X0_findKnown_46 k38 (fun x2 x3 u => l_X0_findKnown_46 k38 n x2 x3 u) x2 x3 u
set_option maxRecDepth 100000 in
def b_X0_findKnown_38 (k38 : Int32 → MU → mR) (x2 : Int32) (u : MU) : mR := (if (nI 6) ≤ x2 then some (0, u) else l_X0_findKnown_46 k38 FU x2 0 u)
set_option maxRecDepth 100000 in
def l_X0_findKnown_38 : Nat → Int32 → MU → mR
  | 0, _, _ => none
  | n + 1, x2, u => b_X0_findKnown_38 (fun x2 u => l_X0_findKnown_38 n x2 u) x2 u
set_option maxRecDepth 100000 in
def b_X0_findKnown_2 (k2 : Int32 → MU → mR) (x2 : Int32) (u : MU) : mR := (if (nI 6) ≤ x2 then l_X0_findKnown_38 FU 0 u else gd (mIx x2 6) ((if (u (rtn x2) 2) = ((-6)) then b_X0_findKnown_29 k2 x2 1 x2 u else b_X0_findKnown_29 k2 x2 0 x2 u)))
set_option maxRecDepth 100000 in
def l_X0_findKnown_2 : Nat → Int32 → MU → mR
  | 0, _, _ => none
  | n + 1, x2, u => b_X0_findKnown_2 (fun x2 u => l_X0_findKnown_2 n x2 u) x2 u
set_option maxRecDepth 100000 in
def f_X0_findKnown (u : MU) : mR := l_X0_findKnown_2 FU 0 u
set_option maxRecDepth 100000 in
def f_X6_placeOf (x0 : Int32) (x1 : Int32) (u : MU) : mR := (if (nI 18) ≤ x0 then some ((nI 6) + (irm ((x0 - (nI 18)) + x1) (nI 12)), u) else some (x0, u))
set_option maxRecDepth 100000 in
def b_X0_startWithOwn_165 (k53 : Int32 → Int32 → MU → mR) (q1 : Nat) (x3 : Int32) (x4 : Int32) (x5 : Int32) (u : MU) : mR := k53 x4 (x5 + 1) u
set_option maxRecDepth 100000 in
def b_X0_startWithOwn_217 (k174 : Int32 → Int32 → MU → mR) (q1 : Nat) (x3 : Int32) (x4 : Int32) (x5 : Int32) (u : MU) : mR := k174 x4 (x5 + 1) u
set_option maxRecDepth 100000 in
def b_X0_startWithOwn_174 (k174 : Int32 → Int32 → MU → mR) (q1 : Nat) (x3 : Int32) (x4 : Int32) (x5 : Int32) (u : MU) : mR := (if (u q1 10) ≤ x5 then some (0, u) else gd (mIx x5 30) ((if (u (q1 + 6) x5.toNatClampNeg) = (nI 2) then gd (mIx x4 72) (gd (mIx x5 30) (mB (f_X6_placeOf (u (q1 + 7) x5.toNatClampNeg) x3 u) (fun r6 u6 => gd (mIx x4 72) (mS (mup u6 3 x4.toNatClampNeg ((u 3 x4.toNatClampNeg) ||| (1 <<< (r6 &&& 31)))) (fun u8 => b_X0_startWithOwn_217 k174 q1 x3 x4 x5 u8))))) else b_X0_startWithOwn_217 k174 q1 x3 x4 x5 u)))
set_option maxRecDepth 100000 in
def l_X0_startWithOwn_174 (q1 : Nat) (x3 : Int32) : Nat → Int32 → Int32 → MU → mR
  | 0, _, _, _ => none
  | n + 1, x4, x5, u => b_X0_startWithOwn_174 (fun x4 x5 u => l_X0_startWithOwn_174 q1 x3 n x4 x5 u) q1 x3 x4 x5 u
set_option maxRecDepth 100000 in
def b_X0_startWithOwn_53 (k53 : Int32 → Int32 → MU → mR) (q1 : Nat) (x3 : Int32) (x4 : Int32) (x5 : Int32) (u : MU) : mR := (if (u q1 7) ≤ x5 then l_X0_startWithOwn_174 q1 x3 FU x4 0 u else gd (mIx x5 15) (mB (f_X6_placeOf (u (q1 + 3) x5.toNatClampNeg) x3 u) (fun r3 u3 => gd (mIx x5 15) ((if (u3 (q1 + 2) x5.toNatClampNeg) = 0 then gd (mIx x4 72) (gd (mIx x4 72) (mS (mup u3 4 x4.toNatClampNeg ((u3 4 x4.toNatClampNeg) ||| (1 <<< (r3 &&& 31)))) (fun u8 => b_X0_startWithOwn_165 k53 q1 x3 x4 x5 u8))) else (if (u3 (q1 + 2) x5.toNatClampNeg) = 1 then gd (mIx x4 72) (gd (mIx x4 72) (mS (mup u3 5 x4.toNatClampNeg ((u3 5 x4.toNatClampNeg) ||| (1 <<< (r3 &&& 31)))) (fun u12 => b_X0_startWithOwn_165 k53 q1 x3 x4 x5 u12))) else (if (u3 (q1 + 2) x5.toNatClampNeg) = nI 2 then gd (mIx x4 72) (gd (mIx x4 72) (mS (mup u3 3 x4.toNatClampNeg ((u3 3 x4.toNatClampNeg) ||| (1 <<< (r3 &&& 31)))) (fun u16 => gd (mIx x4 72) (mS (mup u16 6 x4.toNatClampNeg 1) (fun u18 => b_X0_startWithOwn_165 k53 q1 x3 x4 x5 u18))))) else b_X0_startWithOwn_165 k53 q1 x3 x4 x5 u3)))))))
set_option maxRecDepth 100000 in
def l_X0_startWithOwn_53 (q1 : Nat) (x3 : Int32) : Nat → Int32 → Int32 → MU → mR
  | 0, _, _, _ => none
  | n + 1, x4, x5, u => b_X0_startWithOwn_53 (fun x4 x5 u => l_X0_startWithOwn_53 q1 x3 n x4 x5 u) q1 x3 x4 x5 u
set_option maxRecDepth 100000 in
def f_X0_startWithOwn (q1 : Nat) (x2 : Int32) (x3 : Int32) (u : MU) : mR := gd (mIx ((x2 * (nI 12)) + x3) 72) (mS (mup u 3 ((x2 * (nI 12)) + x3).toNatClampNeg 0) (fun u2 => gd (mIx ((x2 * (nI 12)) + x3) 72) (mS (mup u2 4 ((x2 * (nI 12)) + x3).toNatClampNeg 0) (fun u4 => gd (mIx ((x2 * (nI 12)) + x3) 72) (mS (mup u4 5 ((x2 * (nI 12)) + x3).toNatClampNeg 0) (fun u6 => gd (mIx ((x2 * (nI 12)) + x3) 72) (mS (mup u6 6 ((x2 * (nI 12)) + x3).toNatClampNeg 0) (fun u8 => gd (mIx x2 6) ((if (u8 7 x2.toNatClampNeg) = 0 then some (0, u8) else l_X0_startWithOwn_53 q1 x3 FU ((x2 * (nI 12)) + x3) 0 u8))))))))))
set_option maxRecDepth 100000 in
def f_X0_take (x1 : Int32) (x2 : Int32) (u : MU) : mR := gd (mIx x2 72) (gd (mIx x1 72) (gd (mIx x2 72) (gd (mIx x1 72) (gd (mIx x2 72) (gd (mIx x1 72) (gd (mIx x2 72) (gd (mIx x1 72) (gd (mIx x1 72) (gd (mIx x2 72) (gd (mIx x1 72) (mS (mup u 3 x1.toNatClampNeg ((u 3 x1.toNatClampNeg) ||| (u 3 x2.toNatClampNeg))) (fun u12 => gd (mIx x1 72) (gd (mIx x2 72) (gd (mIx x1 72) (mS (mup u12 4 x1.toNatClampNeg ((u12 4 x1.toNatClampNeg) ||| (u12 4 x2.toNatClampNeg))) (fun u16 => gd (mIx x1 72) (gd (mIx x2 72) (gd (mIx x1 72) (mS (mup u16 5 x1.toNatClampNeg ((u16 5 x1.toNatClampNeg) ||| (u16 5 x2.toNatClampNeg))) (fun u20 => gd (mIx x1 72) (gd (mIx x2 72) (gd (mIx x1 72) (mS (mup u20 6 x1.toNatClampNeg ((u20 6 x1.toNatClampNeg) ||| (u20 6 x2.toNatClampNeg))) (fun u24 => (if (((((u 3 x2.toNatClampNeg) &&& ((u 3 x1.toNatClampNeg) ^^^ ((-1)))) ||| ((u 4 x2.toNatClampNeg) &&& ((u 4 x1.toNatClampNeg) ^^^ ((-1))))) ||| ((u 5 x2.toNatClampNeg) &&& ((u 5 x1.toNatClampNeg) ^^^ ((-1))))) ||| ((u 6 x2.toNatClampNeg) &&& ((u 6 x1.toNatClampNeg) ^^^ ((-1))))) = 0 then some (0, u24) else some (1, u24))))))))))))))))))))))))))
set_option maxRecDepth 100000 in
def b_X0_takeFromCallees_75 (k6 : Int32 → Int32 → MU → mR) (q1 : Nat) (x2 : Int32) (x3 : Int32) (x4 : Int32) (x5 : Int32) (u : MU) : mR := k6 x4 (x5 + 1) u
set_option maxRecDepth 100000 in
def b_X0_takeFromCallees_73 (k6 : Int32 → Int32 → MU → mR) (q1 : Nat) (x2 : Int32) (x3 : Int32) (x5 : Int32) (s0 : Int32) (u : MU) : mR := b_X0_takeFromCallees_75 k6 q1 x2 x3 s0 x5 u
set_option maxRecDepth 100000 in
def b_X0_takeFromCallees_68 (k6 : Int32 → Int32 → MU → mR) (q1 : Nat) (x2 : Int32) (x3 : Int32) (x5 : Int32) (u : MU) : mR := b_X0_takeFromCallees_73 k6 q1 x2 x3 x5 1 u
set_option maxRecDepth 100000 in
def b_X0_takeFromCallees_6 (k6 : Int32 → Int32 → MU → mR) (q1 : Nat) (x2 : Int32) (x3 : Int32) (x4 : Int32) (x5 : Int32) (u : MU) : mR := (if (u q1 7) ≤ x5 then gd (mZ x4) (some (x4, u)) else gd (mIx x5 15) ((if (u (q1 + 2) x5.toNatClampNeg) = (nI 3) then gd (mIx x5 15) (mB (f_X6_placeOf (u (q1 + 3) x5.toNatClampNeg) x3 u) (fun r6 u6 => gd (mIx x5 15) (mB (f_X0_take x2 (((u6 (q1 + 4) x5.toNatClampNeg) * (nI 12)) + (r6 - (nI 6))) u6) (fun r8 u8 => (if r8 = 0 then (if x4 = 0 then b_X0_takeFromCallees_73 k6 q1 x2 x3 x5 0 u8 else b_X0_takeFromCallees_68 k6 q1 x2 x3 x5 u8) else b_X0_takeFromCallees_68 k6 q1 x2 x3 x5 u8))))) else b_X0_takeFromCallees_75 k6 q1 x2 x3 x4 x5 u)))
set_option maxRecDepth 100000 in
def l_X0_takeFromCallees_6 (q1 : Nat) (x2 : Int32) (x3 : Int32) : Nat → Int32 → Int32 → MU → mR
  | 0, _, _, _ => none
  | n + 1, x4, x5, u => b_X0_takeFromCallees_6 (fun x4 x5 u => l_X0_takeFromCallees_6 q1 x2 x3 n x4 x5 u) q1 x2 x3 x4 x5 u
set_option maxRecDepth 100000 in
def f_X0_takeFromCallees (q1 : Nat) (x2 : Int32) (x3 : Int32) (u : MU) : mR := l_X0_takeFromCallees_6 q1 x2 x3 FU 0 0 u
set_option maxRecDepth 100000 in
def b_X0_goRound_66 (k4 : Int32 → Int32 → MU → mR) (k31 : Int32 → Int32 → Int32 → MU → mR) (x3 : Int32) (x4 : Int32) (s0 : Int32) (u : MU) : mR := k31 s0 x3 (x4 + 1) u
set_option maxRecDepth 100000 in
def b_X0_goRound_61 (k4 : Int32 → Int32 → MU → mR) (k31 : Int32 → Int32 → Int32 → MU → mR) (x3 : Int32) (x4 : Int32) (u : MU) : mR := b_X0_goRound_66 k4 k31 x3 x4 1 u
set_option maxRecDepth 100000 in
def b_X0_goRound_73 (k4 : Int32 → Int32 → MU → mR) (x2 : Int32) (x3 : Int32) (u : MU) : mR := k4 x2 (x3 + 1) u
set_option maxRecDepth 100000 in
def b_X0_goRound_31 (k4 : Int32 → Int32 → MU → mR) (k31 : Int32 → Int32 → Int32 → MU → mR) (x2 : Int32) (x3 : Int32) (x4 : Int32) (u : MU) : mR := (if (nI 12) ≤ x4 then b_X0_goRound_73 k4 x2 x3 u else gd (mIx x3 6) (mB (f_X0_takeFromCallees (rtn x3) ((x3 * (nI 12)) + x4) x4 u) (fun r3 u3 => (if r3 = 0 then (if x2 = 0 then b_X0_goRound_66 k4 k31 x3 x4 0 u3 else b_X0_goRound_61 k4 k31 x3 x4 u3) else b_X0_goRound_61 k4 k31 x3 x4 u3))))
set_option maxRecDepth 100000 in
def l_X0_goRound_31 (k4 : Int32 → Int32 → MU → mR) : Nat → Int32 → Int32 → Int32 → MU → mR
  | 0, _, _, _, _ => none
  | n + 1, x2, x3, x4, u => b_X0_goRound_31 k4 (fun x2 x3 x4 u => l_X0_goRound_31 k4 n x2 x3 x4 u) x2 x3 x4 u
set_option maxRecDepth 100000 in
def b_X0_goRound_4 (k4 : Int32 → Int32 → MU → mR) (x2 : Int32) (x3 : Int32) (u : MU) : mR := (if (nI 6) ≤ x3 then gd (mZ x2) (some (x2, u)) else gd (mIx x3 6) ((if (u 7 x3.toNatClampNeg) = 0 then b_X0_goRound_73 k4 x2 x3 u else gd (mIx x3 6) (mB (f_X5_calleeBits (rtn x3) u) (fun r6 u6 => (if r6 = 0 then b_X0_goRound_73 k4 x2 x3 u6 else l_X0_goRound_31 k4 FU x2 x3 0 u6))))))
set_option maxRecDepth 100000 in
def l_X0_goRound_4 : Nat → Int32 → Int32 → MU → mR
  | 0, _, _, _ => none
  | n + 1, x2, x3, u => b_X0_goRound_4 (fun x2 x3 u => l_X0_goRound_4 n x2 x3 u) x2 x3 u
set_option maxRecDepth 100000 in
def f_X0_goRound (u : MU) : mR := l_X0_goRound_4 FU 0 0 u
set_option maxRecDepth 100000 in
def b_X0_find_23 (k15 : Int32 → MU → mR) (k23 : Int32 → Int32 → MU → mR) (x2 : Int32) (x3 : Int32) (u : MU) : mR := (if (nI 12) ≤ x3 then k15 (x2 + 1) u else gd (mIx x2 6) (mB (f_X0_startWithOwn (rtn x2) x2 x3 u) (fun r3 u3 => k23 x2 (x3 + 1) u3)))
set_option maxRecDepth 100000 in
def l_X0_find_23 (k15 : Int32 → MU → mR) : Nat → Int32 → Int32 → MU → mR
  | 0, _, _, _ => none
  | n + 1, x2, x3, u => b_X0_find_23 k15 (fun x2 x3 u => l_X0_find_23 k15 n x2 x3 u) x2 x3 u
set_option maxRecDepth 100000 in
def b_X0_find_77 (u : MU) : mR := mS (mup u 2 5 1) (fun u1 => some (0, u1))
set_option maxRecDepth 100000 in
def b_X0_find_54 (k54 : Int32 → Int32 → MU → mR) (x2 : Int32) (x3 : Int32) (u : MU) : mR := (if (nI 3961) ≤ x3 then b_X0_find_77 u else (if x2 = 0 then b_X0_find_77 u else mB (f_X0_goRound u) (fun r3 u3 => k54 r3 (x3 + 1) u3)))
set_option maxRecDepth 100000 in
def l_X0_find_54 : Nat → Int32 → Int32 → MU → mR
  | 0, _, _, _ => none
  | n + 1, x2, x3, u => b_X0_find_54 (fun x2 x3 u => l_X0_find_54 n x2 x3 u) x2 x3 u
set_option maxRecDepth 100000 in
def b_X0_find_15 (k15 : Int32 → MU → mR) (x2 : Int32) (u : MU) : mR := (if (nI 6) ≤ x2 then l_X0_find_54 FU 1 0 u else l_X0_find_23 k15 FU x2 0 u)
set_option maxRecDepth 100000 in
def l_X0_find_15 : Nat → Int32 → MU → mR
  | 0, _, _ => none
  | n + 1, x2, u => b_X0_find_15 (fun x2 u => l_X0_find_15 n x2 u) x2 u
set_option maxRecDepth 100000 in
def f_X0_find (u : MU) : mR := (if (u 2 5) = 0 then mB (f_X0_findKnown u) (fun r2 u2 => l_X0_find_15 FU 0 u2) else some (0, u))
set_option maxRecDepth 100000 in
def b_X0_knowsAll_2 (k2 : Int32 → MU → mR) (q1 : Nat) (x2 : Int32) (u : MU) : mR := (if (u q1 2) ≤ x2 then some (1, u) else gd (mIx x2 16) (gd (mIx (u (q1 + 1) x2.toNatClampNeg) 6) ((if (u 7 (u (q1 + 1) x2.toNatClampNeg).toNatClampNeg) = 0 then some (0, u) else k2 (x2 + 1) u))))
set_option maxRecDepth 100000 in
def l_X0_knowsAll_2 (q1 : Nat) : Nat → Int32 → MU → mR
  | 0, _, _ => none
  | n + 1, x2, u => b_X0_knowsAll_2 (fun x2 u => l_X0_knowsAll_2 q1 n x2 u) q1 x2 u
set_option maxRecDepth 100000 in
def f_X0_knowsAll (q1 : Nat) (u : MU) : mR := l_X0_knowsAll_2 q1 FU 0 u
set_option maxRecDepth 100000 in
def f_X0_part (x1 : Int32) (x2 : Int32) (x3 : Int32) (u : MU) : mR := (if x3 = 0 then gd (mIx ((x1 * (nI 12)) + x2) 72) (some (u 3 ((x1 * (nI 12)) + x2).toNatClampNeg, u)) else (if x3 = 1 then gd (mIx ((x1 * (nI 12)) + x2) 72) (some (u 4 ((x1 * (nI 12)) + x2).toNatClampNeg, u)) else (if x3 = nI 2 then gd (mIx ((x1 * (nI 12)) + x2) 72) (some (u 5 ((x1 * (nI 12)) + x2).toNatClampNeg, u)) else (if x3 = nI 3 then gd (mIx ((x1 * (nI 12)) + x2) 72) (some (u 6 ((x1 * (nI 12)) + x2).toNatClampNeg, u)) else some (0, u)))))
set_option maxRecDepth 100000 in
def b_X0_between_114 (x5 : Int32) (x6 : Int32) (x9 : Int32) (u : MU) : mR := gd (mIx x5 72) ((if (u 6 x5.toNatClampNeg) = 1 then gd (mIx x6 72) ((if (u 6 x6.toNatClampNeg) = 1 then some (x9 ||| (nI 4), u) else some (x9, u))) else some (x9, u)))
set_option maxRecDepth 100000 in
def b_X0_between_84 (x5 : Int32) (x6 : Int32) (x7 : Int32) (x8 : Int32) (x9 : Int32) (u : MU) : mR := gd (mIx x5 72) (gd (mIx x6 72) ((if (((u 3 x5.toNatClampNeg) &&& x8) ||| ((u 3 x6.toNatClampNeg) &&& x7)) = 0 then b_X0_between_114 x5 x6 x9 u else b_X0_between_114 x5 x6 (x9 ||| (nI 2)) u)))
set_option maxRecDepth 100000 in
def f_X0_between (x1 : Int32) (x2 : Int32) (x3 : Int32) (x4 : Int32) (u : MU) : mR := gd (mIx ((x1 * (nI 12)) + x2) 72) (gd (mIx ((x1 * (nI 12)) + x2) 72) (gd (mIx ((x3 * (nI 12)) + x4) 72) (gd (mIx ((x3 * (nI 12)) + x4) 72) (gd (mIx ((x1 * (nI 12)) + x2) 72) (gd (mIx ((x3 * (nI 12)) + x4) 72) ((if (((u 4 ((x1 * (nI 12)) + x2).toNatClampNeg) &&& ((u 4 ((x3 * (nI 12)) + x4).toNatClampNeg) ||| (u 5 ((x3 * (nI 12)) + x4).toNatClampNeg))) ||| ((u 4 ((x3 * (nI 12)) + x4).toNatClampNeg) &&& ((u 4 ((x1 * (nI 12)) + x2).toNatClampNeg) ||| (u 5 ((x1 * (nI 12)) + x2).toNatClampNeg)))) = 0 then b_X0_between_84 ((x1 * (nI 12)) + x2) ((x3 * (nI 12)) + x4) ((u 4 ((x1 * (nI 12)) + x2).toNatClampNeg) ||| (u 5 ((x1 * (nI 12)) + x2).toNatClampNeg)) ((u 4 ((x3 * (nI 12)) + x4).toNatClampNeg) ||| (u 5 ((x3 * (nI 12)) + x4).toNatClampNeg)) 0 u else b_X0_between_84 ((x1 * (nI 12)) + x2) ((x3 * (nI 12)) + x4) ((u 4 ((x1 * (nI 12)) + x2).toNatClampNeg) ||| (u 5 ((x1 * (nI 12)) + x2).toNatClampNeg)) ((u 4 ((x3 * (nI 12)) + x4).toNatClampNeg) ||| (u 5 ((x3 * (nI 12)) + x4).toNatClampNeg)) (0 ||| 1) u)))))))
set_option maxRecDepth 100000 in
def f_X0_free (q1 : Nat) (x2 : Int32) (x3 : Int32) (u : MU) : mR := gd (mIx x2 16) (gd (mIx x2 16) (gd (mIx x3 16) (gd (mIx x3 16) (mB (f_X0_between (u (q1 + 1) x2.toNatClampNeg) (u (q1 + 2) x2.toNatClampNeg) (u (q1 + 1) x3.toNatClampNeg) (u (q1 + 2) x3.toNatClampNeg) u) (fun r5 u5 => (if r5 = 0 then some (1, u5) else some (0, u5)))))))
set_option maxRecDepth 100000 in
def f_X4_copyFrom (q0 : Nat) (q1 : Nat) (u : MU) : mR := mS (mrow u (q0 + 1) (va_cpy (u (q1 + 1)) (u (q0 + 1)) (0 : Int32).toNatClampNeg (0 : Int32).toNatClampNeg (nI 16 : Int32).toNatClampNeg)) (fun u1 => mS (mrow u1 (q0 + 2) (va_cpy (u1 (q1 + 2)) (u1 (q0 + 2)) (0 : Int32).toNatClampNeg (0 : Int32).toNatClampNeg (nI 16 : Int32).toNatClampNeg)) (fun u2 => mS (mup u2 q0 2 (u2 q1 2)) (fun u3 => some (0, u3))))
set_option maxRecDepth 100000 in
def f_X1_keep (q0 : Nat) (q1 : Nat) (q2 : Nat) (u : MU) : mR := gd (decide ((0 : Int32).toNatClampNeg + (nI 18 : Int32).toNatClampNeg ≤ (mLen q1))) (mS (mrow u (q0 + 1) (va_cpy (u q1) (u (q0 + 1)) (0 : Int32).toNatClampNeg (0 : Int32).toNatClampNeg (nI 18 : Int32).toNatClampNeg)) (fun u1 => mB (f_X4_copyFrom (q0 + 2) q2 u1) (fun r3 u3 => mS (mup u3 q0 2 1) (fun u4 => some (0, u4)))))
set_option maxRecDepth 100000 in
def f_J9_max_7cf53 (x0 : Int32) (x1 : Int32) (u : MU) : mR := (if x0 < x1 then some (x1, u) else some (x0, u))
set_option maxRecDepth 100000 in
def f_X2_goesAhead (q0 : Nat) (x1 : Int32) (x2 : Int32) (x3 : Int32) (u : MU) : mR := (if x3 = 0 then (if x2 ≤ x1 then some (0, u) else some (1, u)) else gd (mIx x1 16) (gd (mIx x2 16) ((if (u (q0 + 4) x1.toNatClampNeg) = (u (q0 + 4) x2.toNatClampNeg) then (if x3 = 1 then (if x1 ≤ x2 then some (0, u) else some (1, u)) else gd (mIx x1 16) (gd (mIx x2 16) ((if (u (q0 + 1 + 1) x1.toNatClampNeg) = (u (q0 + 1 + 1) x2.toNatClampNeg) then gd (mIx x1 16) (gd (mIx x2 16) ((if (u (q0 + 1 + 2) x1.toNatClampNeg) = (u (q0 + 1 + 2) x2.toNatClampNeg) then (if x2 ≤ x1 then some (0, u) else some (1, u)) else gd (mIx x1 16) (gd (mIx x2 16) ((if (u (q0 + 1 + 2) x2.toNatClampNeg) ≤ (u (q0 + 1 + 2) x1.toNatClampNeg) then some (0, u) else some (1, u))))))) else gd (mIx x1 16) (gd (mIx x2 16) ((if (u (q0 + 1 + 1) x2.toNatClampNeg) ≤ (u (q0 + 1 + 1) x1.toNatClampNeg) then some (0, u) else some (1, u)))))))) else gd (mIx x1 16) (gd (mIx x2 16) ((if (u (q0 + 4) x2.toNatClampNeg) ≤ (u (q0 + 4) x1.toNatClampNeg) then some (0, u) else some (1, u))))))))
set_option maxRecDepth 100000 in
def b_X2_position_37 (k5 : Int32 → Int32 → MU → mR) (q0 : Nat) (x1 : Int32) (x2 : Int32) (x3 : Int32) (x4 : Int32) (u : MU) : mR := k5 x3 (x4 + 1) u
set_option maxRecDepth 100000 in
def b_X2_position_5 (k5 : Int32 → Int32 → MU → mR) (q0 : Nat) (x1 : Int32) (x2 : Int32) (x3 : Int32) (x4 : Int32) (u : MU) : mR := (if (u (q0 + 1) 2) ≤ x4 then some (x3, u) else (if x4 = x1 then b_X2_position_37 k5 q0 x1 x2 x3 x4 u else mB (f_X2_goesAhead q0 x4 x1 x2 u) (fun r3 u3 => (if r3 = 0 then b_X2_position_37 k5 q0 x1 x2 x3 x4 u3 else b_X2_position_37 k5 q0 x1 x2 (x3 + 1) x4 u3))))
set_option maxRecDepth 100000 in
def l_X2_position_5 (q0 : Nat) (x1 : Int32) (x2 : Int32) : Nat → Int32 → Int32 → MU → mR
  | 0, _, _, _ => none
  | n + 1, x3, x4, u => b_X2_position_5 (fun x3 x4 u => l_X2_position_5 q0 x1 x2 n x3 x4 u) q0 x1 x2 x3 x4 u
set_option maxRecDepth 100000 in
def f_X2_position (q0 : Nat) (x1 : Int32) (x2 : Int32) (u : MU) : mR := l_X2_position_5 q0 x1 x2 FU 0 0 u
set_option maxRecDepth 100000 in
def b_X2_lay_98 (k20 : Int32 → MU → mR) (k41 : Int32 → Int32 → MU → mR) (q0 : Nat) (x3 : Int32) (x4 : Int32) (u : MU) : mR := k41 x3 (x4 + 1) u
set_option maxRecDepth 100000 in
def b_X2_lay_41 (k20 : Int32 → MU → mR) (k41 : Int32 → Int32 → MU → mR) (q0 : Nat) (x3 : Int32) (x4 : Int32) (u : MU) : mR := (if x3 ≤ x4 then gd (mIx x3 16) (mB (f_J9_max_7cf53 (u q0 4) ((u (q0 + 4) x3.toNatClampNeg) + 1) u) (fun r3 u3 => mS (mup u3 q0 4 r3) (fun u4 => k20 (x3 + 1) u4))) else mB (f_X0_free (q0 + 1) x4 x3 u) (fun r5 u5 => (if r5 = 0 then gd (mIx x3 16) (gd (mIx x4 16) (mB (f_J9_max_7cf53 (u5 (q0 + 4) x3.toNatClampNeg) ((u5 (q0 + 4) x4.toNatClampNeg) + 1) u5) (fun r9 u9 => gd (mIx x3 16) (mS (mup u9 (q0 + 4) x3.toNatClampNeg r9) (fun u11 => b_X2_lay_98 k20 k41 q0 x3 x4 u11))))) else mS (mup u5 q0 5 ((u5 q0 5) + 1)) (fun u12 => b_X2_lay_98 k20 k41 q0 x3 x4 u12))))
set_option maxRecDepth 100000 in
def l_X2_lay_41 (k20 : Int32 → MU → mR) (q0 : Nat) : Nat → Int32 → Int32 → MU → mR
  | 0, _, _, _ => none
  | n + 1, x3, x4, u => b_X2_lay_41 k20 (fun x3 x4 u => l_X2_lay_41 k20 q0 n x3 x4 u) q0 x3 x4 u
set_option maxRecDepth 100000 in
def b_X2_lay_131 (k131 : Int32 → MU → mR) (q0 : Nat) (x3 : Int32) (u : MU) : mR := (if (u (q0 + 1) 2) ≤ x3 then some (0, u) else mB (f_X2_position q0 x3 (nI 2) u) (fun r2 u2 => gd (mIx x3 16) (mS (mup u2 (q0 + 5) x3.toNatClampNeg r2) (fun u4 => k131 (x3 + 1) u4))))
set_option maxRecDepth 100000 in
def l_X2_lay_131 (q0 : Nat) : Nat → Int32 → MU → mR
  | 0, _, _ => none
  | n + 1, x3, u => b_X2_lay_131 (fun x3 u => l_X2_lay_131 q0 n x3 u) q0 x3 u
set_option maxRecDepth 100000 in
def b_X2_lay_20 (k20 : Int32 → MU → mR) (q0 : Nat) (x3 : Int32) (u : MU) : mR := (if (u (q0 + 1) 2) ≤ x3 then l_X2_lay_131 q0 FU 0 u else gd (mIx x3 16) (mS (mup u (q0 + 4) x3.toNatClampNeg 0) (fun u3 => l_X2_lay_41 k20 q0 FU x3 0 u3)))
set_option maxRecDepth 100000 in
def l_X2_lay_20 (q0 : Nat) : Nat → Int32 → MU → mR
  | 0, _, _ => none
  | n + 1, x3, u => b_X2_lay_20 (fun x3 u => l_X2_lay_20 q0 n x3 u) q0 x3 u
set_option maxRecDepth 100000 in
def f_X2_lay (q0 : Nat) (q1 : Nat) (u : MU) : mR := mB (f_X4_copyFrom (q0 + 1) q1 u) (fun r1 u1 => mS (mup u1 q0 4 0) (fun u2 => mS (mup u2 q0 5 0) (fun u3 => l_X2_lay_20 q0 FU 0 u3)))
set_option maxRecDepth 100000 in
def b_X2_arrange_2 (k2 : Int32 → MU → mR) (q0 : Nat) (x1 : Int32) (x2 : Int32) (u : MU) : mR := (if (u (q0 + 1) 2) ≤ x2 then some (0, u) else mB (f_X2_position q0 x2 x1 u) (fun r2 u2 => gd (mIx r2 16) (mS (mup u2 (q0 + 6) r2.toNatClampNeg x2) (fun u4 => k2 (x2 + 1) u4))))
set_option maxRecDepth 100000 in
def l_X2_arrange_2 (q0 : Nat) (x1 : Int32) : Nat → Int32 → MU → mR
  | 0, _, _ => none
  | n + 1, x2, u => b_X2_arrange_2 (fun x2 u => l_X2_arrange_2 q0 x1 n x2 u) q0 x1 x2 u
set_option maxRecDepth 100000 in
def f_X2_arrange (q0 : Nat) (x1 : Int32) (u : MU) : mR := l_X2_arrange_2 q0 x1 FU 0 u
set_option maxRecDepth 100000 in
def b_X2_sizeOfStage_28 (k4 : Int32 → Int32 → MU → mR) (q0 : Nat) (x1 : Int32) (x2 : Int32) (x3 : Int32) (u : MU) : mR := k4 x2 (x3 + 1) u
set_option maxRecDepth 100000 in
def b_X2_sizeOfStage_4 (k4 : Int32 → Int32 → MU → mR) (q0 : Nat) (x1 : Int32) (x2 : Int32) (x3 : Int32) (u : MU) : mR := (if (u (q0 + 1) 2) ≤ x3 then some (x2, u) else gd (mIx x3 16) ((if (u (q0 + 4) x3.toNatClampNeg) = x1 then b_X2_sizeOfStage_28 k4 q0 x1 (x2 + 1) x3 u else b_X2_sizeOfStage_28 k4 q0 x1 x2 x3 u)))
set_option maxRecDepth 100000 in
def l_X2_sizeOfStage_4 (q0 : Nat) (x1 : Int32) : Nat → Int32 → Int32 → MU → mR
  | 0, _, _, _ => none
  | n + 1, x2, x3, u => b_X2_sizeOfStage_4 (fun x2 x3 u => l_X2_sizeOfStage_4 q0 x1 n x2 x3 u) q0 x1 x2 x3 u
set_option maxRecDepth 100000 in
def f_X2_sizeOfStage (q0 : Nat) (x1 : Int32) (u : MU) : mR := l_X2_sizeOfStage_4 q0 x1 FU 0 0 u
set_option maxRecDepth 100000 in
def b_X2_mostOfOneStage_4 (k4 : Int32 → Int32 → MU → mR) (q0 : Nat) (x1 : Int32) (x2 : Int32) (u : MU) : mR := (if (u q0 4) ≤ x2 then some (x1, u) else mB (f_X2_sizeOfStage q0 x2 u) (fun r2 u2 => mB (f_J9_max_7cf53 x1 r2 u2) (fun r3 u3 => k4 r3 (x2 + 1) u3)))
set_option maxRecDepth 100000 in
def l_X2_mostOfOneStage_4 (q0 : Nat) : Nat → Int32 → Int32 → MU → mR
  | 0, _, _, _ => none
  | n + 1, x1, x2, u => b_X2_mostOfOneStage_4 (fun x1 x2 u => l_X2_mostOfOneStage_4 q0 n x1 x2 u) q0 x1 x2 u
set_option maxRecDepth 100000 in
def f_X2_mostOfOneStage (q0 : Nat) (u : MU) : mR := l_X2_mostOfOneStage_4 q0 FU 0 0 u
set_option maxRecDepth 100000 in
def b_X2_firstFullestStage_7 (k7 : Int32 → Int32 → MU → mR) (q0 : Nat) (x1 : Int32) (x2 : Int32) (u : MU) : mR := (if (u q0 4) ≤ x2 then some ((-6), u) else mB (f_X2_sizeOfStage q0 x2 u) (fun r2 u2 => (if r2 = x1 then some (x2, u2) else k7 x1 (x2 + 1) u2)))
set_option maxRecDepth 100000 in
def l_X2_firstFullestStage_7 (q0 : Nat) : Nat → Int32 → Int32 → MU → mR
  | 0, _, _, _ => none
  | n + 1, x1, x2, u => b_X2_firstFullestStage_7 (fun x1 x2 u => l_X2_firstFullestStage_7 q0 n x1 x2 u) q0 x1 x2 u
set_option maxRecDepth 100000 in
def f_X2_firstFullestStage (q0 : Nat) (u : MU) : mR := mB (f_X2_mostOfOneStage q0 u) (fun r1 u1 => l_X2_firstFullestStage_7 q0 FU r1 0 u1)
set_option maxRecDepth 100000 in
def b_X2_isNormal_2 (k2 : Int32 → MU → mR) (q0 : Nat) (x1 : Int32) (u : MU) : mR := (if (u (q0 + 1) 2) ≤ x1 then some (1, u) else gd (mIx x1 16) ((if (u (q0 + 5) x1.toNatClampNeg) = x1 then k2 (x1 + 1) u else some (0, u))))
set_option maxRecDepth 100000 in
def l_X2_isNormal_2 (q0 : Nat) : Nat → Int32 → MU → mR
  | 0, _, _ => none
  | n + 1, x1, u => b_X2_isNormal_2 (fun x1 u => l_X2_isNormal_2 q0 n x1 u) q0 x1 u
set_option maxRecDepth 100000 in
def f_X2_isNormal (q0 : Nat) (u : MU) : mR := l_X2_isNormal_2 q0 FU 0 u
set_option maxRecDepth 100000 in
def b_X2_sameNormalForm_31 (k31 : Int32 → MU → mR) (q0 : Nat) (q1 : Nat) (x2 : Int32) (u : MU) : mR := (if (u (q0 + 1) 2) ≤ x2 then some (1, u) else gd (mIx x2 16) (gd (mIx x2 16) (gd (mIx (u (q0 + 6) x2.toNatClampNeg) 16) (gd (mIx (u (q1 + 6) x2.toNatClampNeg) 16) ((if (u (q0 + 1 + 1) (u (q0 + 6) x2.toNatClampNeg).toNatClampNeg) = (u (q1 + 1 + 1) (u (q1 + 6) x2.toNatClampNeg).toNatClampNeg) then gd (mIx (u (q0 + 6) x2.toNatClampNeg) 16) (gd (mIx (u (q1 + 6) x2.toNatClampNeg) 16) ((if (u (q0 + 1 + 2) (u (q0 + 6) x2.toNatClampNeg).toNatClampNeg) = (u (q1 + 1 + 2) (u (q1 + 6) x2.toNatClampNeg).toNatClampNeg) then k31 (x2 + 1) u else some (0, u)))) else some (0, u)))))))
set_option maxRecDepth 100000 in
def l_X2_sameNormalForm_31 (q0 : Nat) (q1 : Nat) : Nat → Int32 → MU → mR
  | 0, _, _ => none
  | n + 1, x2, u => b_X2_sameNormalForm_31 (fun x2 u => l_X2_sameNormalForm_31 q0 q1 n x2 u) q0 q1 x2 u
set_option maxRecDepth 100000 in
def f_X2_sameNormalForm (q0 : Nat) (q1 : Nat) (u : MU) : mR := (if (u (q0 + 1) 2) = (u (q1 + 1) 2) then mB (f_X2_arrange q0 (nI 2) u) (fun r2 u2 => mB (f_X2_arrange q1 (nI 2) u2) (fun r3 u3 => l_X2_sameNormalForm_31 q0 q1 FU 0 u3)) else some (0, u))
set_option maxRecDepth 100000 in
def f_X5_leafStart (q0 : Nat) (x1 : Int32) (u : MU) : mR := (if x1 = 0 then some (0, u) else gd (mIx (x1 - 1) 15) (some (u (q0 + 5) (x1 - 1).toNatClampNeg, u)))
set_option maxRecDepth 100000 in
def b_X3_sumOfLeaves_86 (k10 : Int32 → Int32 → MU → mR) (q1 : Nat) (x2 : Int32) (x3 : Int32) (x4 : Int32) (x5 : Int32) (u : MU) : mR := k10 x4 (x5 + 1) u
set_option maxRecDepth 100000 in
def b_X3_sumOfLeaves_10 (k10 : Int32 → Int32 → MU → mR) (q1 : Nat) (x2 : Int32) (x3 : Int32) (x4 : Int32) (x5 : Int32) (u : MU) : mR := gd (mIx x2 15) ((if (u (q1 + 5) x2.toNatClampNeg) ≤ x5 then some (x4, u) else gd (mIx x5 30) (gd (mIx x5 30) ((if (u (q1 + 6) x5.toNatClampNeg) = 0 then b_X3_sumOfLeaves_86 k10 q1 x2 x3 (x4 + (u (q1 + 7) x5.toNatClampNeg)) x5 u else gd (mIx x5 30) ((if (u (q1 + 6) x5.toNatClampNeg) = 1 then b_X3_sumOfLeaves_86 k10 q1 x2 x3 (x4 + x3) x5 u else mB (f_X6_placeOf (u (q1 + 7) x5.toNatClampNeg) x3 u) (fun r8 u8 => gd (mIx r8 18) (b_X3_sumOfLeaves_86 k10 q1 x2 x3 (x4 + (u8 28 r8.toNatClampNeg)) x5 u8)))))))))
set_option maxRecDepth 100000 in
def l_X3_sumOfLeaves_10 (q1 : Nat) (x2 : Int32) (x3 : Int32) : Nat → Int32 → Int32 → MU → mR
  | 0, _, _, _ => none
  | n + 1, x4, x5, u => b_X3_sumOfLeaves_10 (fun x4 x5 u => l_X3_sumOfLeaves_10 q1 x2 x3 n x4 x5 u) q1 x2 x3 x4 x5 u
set_option maxRecDepth 100000 in
def f_X3_sumOfLeaves (q1 : Nat) (x2 : Int32) (x3 : Int32) (u : MU) : mR := mB (f_X5_leafStart q1 x2 u) (fun r1 u1 => l_X3_sumOfLeaves_10 q1 x2 x3 FU 0 r1 u1)
set_option maxRecDepth 100000 in
def f_X3_doSimple (q1 : Nat) (x2 : Int32) (x3 : Int32) (x4 : Int32) (u : MU) : mR := gd (mIx x2 15) ((if (u (q1 + 2) x2.toNatClampNeg) = 0 then mB (f_X3_sumOfLeaves q1 x2 x4 u) (fun r3 u3 => gd (mIx x3 18) (mS (mup u3 28 x3.toNatClampNeg (irm r3 (nI 100))) (fun u5 => some (0, u5)))) else (if (u (q1 + 2) x2.toNatClampNeg) = 1 then gd (mIx x3 18) (mB (f_X3_sumOfLeaves q1 x2 x4 u) (fun r8 u8 => gd (mIx x3 18) (mS (mup u8 28 x3.toNatClampNeg (irm ((u 28 x3.toNatClampNeg) + r8) (nI 100))) (fun u10 => some (0, u10))))) else gd (mIx x3 18) ((if (u 28 x3.toNatClampNeg) = 0 then some (1, u) else some (0, u))))))
set_option maxRecDepth 100000 in
def b_X3_doRoutine_111 (self : Int32 → Int32 → Int32 → MU → mR) (k17 : Nat → Int32 → MU → mR) (x3 : Int32) (x4 : Int32) (q5 : Nat) (x6 : Int32) (s0 : Int32) (u : MU) : mR := (if s0 = 0 then k17 q5 (x6 + 1) u else some (s0, u))
set_option maxRecDepth 100000 in
def b_X3_doRoutine_17 (self : Int32 → Int32 → Int32 → MU → mR) (k17 : Nat → Int32 → MU → mR) (x3 : Int32) (x4 : Int32) (q5 : Nat) (x6 : Int32) (u : MU) : mR := (if (u q5 7) ≤ x6 then some (0, u) else (if (u 27 4) < (nI 200) then mS (mup u 27 4 ((u 27 4) + 1)) (fun u3 => gd (mIx x6 15) (mB (f_X6_placeOf (u3 (q5 + 3) x6.toNatClampNeg) x3 u3) (fun r5 u5 => gd (mIx x6 15) ((if (u5 (q5 + 2) x6.toNatClampNeg) = (nI 3) then gd (mIx x6 15) (mB (self (u5 (q5 + 4) x6.toNatClampNeg) (r5 - (nI 6)) (x4 + 1) u5) (fun r10 u10 => b_X3_doRoutine_111 self k17 x3 x4 q5 x6 r10 u10)) else mB (f_X3_doSimple q5 x6 r5 x3 u5) (fun r8 u8 => b_X3_doRoutine_111 self k17 x3 x4 q5 x6 r8 u8)))))) else some (nI 2, u)))
set_option maxRecDepth 100000 in
def l_X3_doRoutine_17 (self : Int32 → Int32 → Int32 → MU → mR) (x3 : Int32) (x4 : Int32) : Nat → Nat → Int32 → MU → mR
  | 0, _, _, _ => none
  | n + 1, q5, x6, u => b_X3_doRoutine_17 self (fun q5 x6 u => l_X3_doRoutine_17 self x3 x4 n q5 x6 u) x3 x4 q5 x6 u
set_option maxRecDepth 100000 in
def g_X3_doRoutine (self : Int32 → Int32 → Int32 → MU → mR) (x2 : Int32) (x3 : Int32) (x4 : Int32) (u : MU) : mR := (if x4 ≤ (nI 20) then gd (mIx x2 6) (l_X3_doRoutine_17 self x3 x4 FU (rtn x2) 0 u) else some (nI 2, u))
set_option maxRecDepth 100000 in
def f_X3_doRoutine : Nat → Int32 → Int32 → Int32 → MU → mR
  | 0, _, _, _, _ => none
  | n + 1, x2, x3, x4, u => g_X3_doRoutine (fun x2 x3 x4 u => f_X3_doRoutine n x2 x3 x4 u) x2 x3 x4 u
set_option maxRecDepth 100000 in
def b_X3_perform_103 (k26 : Int32 → MU → mR) (q2 : Nat) (q3 : Nat) (x5 : Int32) (u : MU) : mR := mS (mup u 27 3 ((u 27 3) + (u 27 4))) (fun u1 => k26 (x5 + 1) u1)
set_option maxRecDepth 100000 in
def b_X3_perform_26 (k26 : Int32 → MU → mR) (q2 : Nat) (q3 : Nat) (x5 : Int32) (u : MU) : mR := (if (u q2 2) ≤ x5 then some (1, u) else gd (mIx x5 (mLen q3)) (mS (mup u 27 4 0) (fun u3 => gd (mIx (u q3 x5.toNatClampNeg) 16) (gd (mIx (u q3 x5.toNatClampNeg) 16) (mB (f_X3_doRoutine 21 (u3 (q2 + 1) (u q3 x5.toNatClampNeg).toNatClampNeg) (u3 (q2 + 2) (u q3 x5.toNatClampNeg).toNatClampNeg) 1 u3) (fun r6 u6 => (if r6 = (nI 2) then some (0, u6) else (if r6 = 1 then gd (mIx (u6 27 2) 16) (mS (mup u6 29 (u6 27 2).toNatClampNeg (u q3 x5.toNatClampNeg)) (fun u10 => mS (mup u10 27 2 ((u10 27 2) + 1)) (fun u11 => b_X3_perform_103 k26 q2 q3 x5 u11))) else b_X3_perform_103 k26 q2 q3 x5 u6))))))))
set_option maxRecDepth 100000 in
def l_X3_perform_26 (q2 : Nat) (q3 : Nat) : Nat → Int32 → MU → mR
  | 0, _, _ => none
  | n + 1, x5, u => b_X3_perform_26 (fun x5 u => l_X3_perform_26 q2 q3 n x5 u) q2 q3 x5 u
set_option maxRecDepth 100000 in
def f_X3_perform (q2 : Nat) (q3 : Nat) (q4 : Nat) (u : MU) : mR := gd (decide ((0 : Int32).toNatClampNeg + (nI 18 : Int32).toNatClampNeg ≤ (mLen q4))) (mS (mrow u 28 (va_cpy (u q4) (u 28) (0 : Int32).toNatClampNeg (0 : Int32).toNatClampNeg (nI 18 : Int32).toNatClampNeg)) (fun u1 => mS (mup u1 27 2 0) (fun u3 => mS (mup u3 27 3 0) (fun u4 => l_X3_perform_26 q2 q3 FU 0 u4))))
set_option maxRecDepth 100000 in
def f_X4_append (q0 : Nat) (x1 : Int32) (x2 : Int32) (u : MU) : mR := (if (nI 16) ≤ (u q0 2) then some (0, u) else gd (mIx (u q0 2) 16) (mS (mup u (q0 + 1) (u q0 2).toNatClampNeg x1) (fun u3 => gd (mIx (u3 q0 2) 16) (mS (mup u3 (q0 + 2) (u3 q0 2).toNatClampNeg x2) (fun u5 => mS (mup u5 q0 2 ((u5 q0 2) + 1)) (fun u6 => some (0, u6)))))))
set_option maxRecDepth 100000 in
def b_X4_remove_2 (k2 : Int32 → MU → mR) (q0 : Nat) (x2 : Int32) (u : MU) : mR := (if ((u q0 2) - 1) ≤ x2 then mS (mup u q0 2 ((u q0 2) - 1)) (fun u2 => some (0, u2)) else gd (mIx (x2 + 1) 16) (gd (mIx x2 16) (mS (mup u (q0 + 1) x2.toNatClampNeg (u (q0 + 1) (x2 + 1).toNatClampNeg)) (fun u5 => gd (mIx (x2 + 1) 16) (gd (mIx x2 16) (mS (mup u5 (q0 + 2) x2.toNatClampNeg (u5 (q0 + 2) (x2 + 1).toNatClampNeg)) (fun u8 => k2 (x2 + 1) u8)))))))
set_option maxRecDepth 100000 in
def l_X4_remove_2 (q0 : Nat) : Nat → Int32 → MU → mR
  | 0, _, _ => none
  | n + 1, x2, u => b_X4_remove_2 (fun x2 u => l_X4_remove_2 q0 n x2 u) q0 x2 u
set_option maxRecDepth 100000 in
def f_X4_remove (q0 : Nat) (x1 : Int32) (u : MU) : mR := l_X4_remove_2 q0 FU x1 u
set_option maxRecDepth 100000 in
def f_X4_exchangeWithNext (q0 : Nat) (x1 : Int32) (u : MU) : mR := gd (mIx x1 16) (gd (mIx x1 16) (gd (mIx (x1 + 1) 16) (gd (mIx x1 16) (mS (mup u (q0 + 1) x1.toNatClampNeg (u (q0 + 1) (x1 + 1).toNatClampNeg)) (fun u5 => gd (mIx (x1 + 1) 16) (gd (mIx x1 16) (mS (mup u5 (q0 + 2) x1.toNatClampNeg (u5 (q0 + 2) (x1 + 1).toNatClampNeg)) (fun u8 => gd (mIx (x1 + 1) 16) (mS (mup u8 (q0 + 1) (x1 + 1).toNatClampNeg (u (q0 + 1) x1.toNatClampNeg)) (fun u10 => gd (mIx (x1 + 1) 16) (mS (mup u10 (q0 + 2) (x1 + 1).toNatClampNeg (u (q0 + 2) x1.toNatClampNeg)) (fun u12 => some (0, u12)))))))))))))
set_option maxRecDepth 100000 in
def f_X5_kindOf (x0 : Int32) (u : MU) : mR := (if x0 = (nI 61) then some (0, u) else (if x0 = (nI 35) then some (0, u) else (if x0 = (nI 43) then some (1, u) else (if x0 = (nI 94) then some (1, u) else (if x0 = (nI 63) then some (nI 2, u) else some (nI 3, u))))))
set_option maxRecDepth 100000 in
def f_X5_readCallee (q0 : Nat) (x1 : Int32) (u : MU) : mR := (if (u q0 1) ≤ (u q0 11) then some (0, u) else gd (mIx (u q0 11) 30) ((if (u (q0 + 1) (u q0 11).toNatClampNeg) < (nI 48) then some (0, u) else gd (mIx (u q0 11) 30) ((if (u (q0 + 1) (u q0 11).toNatClampNeg) < (nI 54) then gd (mIx (u q0 11) 30) (gd (mIx x1 15) (mS (mup u (q0 + 4) x1.toNatClampNeg ((u (q0 + 1) (u q0 11).toNatClampNeg) - (nI 48))) (fun u8 => mS (mup u8 q0 11 ((u8 q0 11) + 1)) (fun u9 => some (1, u9))))) else some (0, u))))))
set_option maxRecDepth 100000 in
def f_X5_isFigure (x0 : Int32) (u : MU) : mR := (if x0 < (nI 48) then some (0, u) else (if (nI 57) < x0 then some (0, u) else some (1, u)))
set_option maxRecDepth 100000 in
def b_X5_readIndex_43 (q0 : Nat) (x1 : Int32) (u : MU) : mR := (if (u q0 11) < (u q0 1) then gd (mIx (u q0 11) 30) ((if (u (q0 + 1) (u q0 11).toNatClampNeg) = (nI 112) then mS (mup u q0 11 ((u q0 11) + 1)) (fun u7 => some ((nI 18) + (irm x1 (nI 12)), u7)) else mB (f_X5_isFigure (u (q0 + 1) (u q0 11).toNatClampNeg) u) (fun r4 u4 => (if r4 = 0 then some ((-1), u4) else mS (mup u4 q0 11 ((u4 q0 11) + 1)) (fun u6 => some ((nI 6) + (irm (((u (q0 + 1) (u q0 11).toNatClampNeg) - (nI 48)) + x1) (nI 12)), u6)))))) else some ((-1), u))
set_option maxRecDepth 100000 in
def b_X5_readIndex_2 (k2 : Int32 → MU → mR) (q0 : Nat) (x1 : Int32) (u : MU) : mR := (if (u q0 1) ≤ (u q0 11) then b_X5_readIndex_43 q0 x1 u else gd (mIx (u q0 11) 30) ((if (u (q0 + 1) (u q0 11).toNatClampNeg) = (nI 62) then mS (mup u q0 11 ((u q0 11) + 1)) (fun u4 => k2 (x1 + 1) u4) else b_X5_readIndex_43 q0 x1 u)))
set_option maxRecDepth 100000 in
def l_X5_readIndex_2 (q0 : Nat) : Nat → Int32 → MU → mR
  | 0, _, _ => none
  | n + 1, x1, u => b_X5_readIndex_2 (fun x1 u => l_X5_readIndex_2 q0 n x1 u) q0 x1 u
set_option maxRecDepth 100000 in
def f_X5_readIndex (q0 : Nat) (u : MU) : mR := l_X5_readIndex_2 q0 FU 0 u
set_option maxRecDepth 100000 in
def f_X5_isLetter (x0 : Int32) (u : MU) : mR := (if x0 < (nI 97) then some (0, u) else (if (nI 103) ≤ x0 then some (0, u) else some (1, u)))
set_option maxRecDepth 100000 in
def f_X5_readLetter (q0 : Nat) (u : MU) : mR := (if (u q0 1) ≤ (u q0 11) then some ((-1), u) else gd (mIx (u q0 11) 30) (mB (f_X5_isLetter (u (q0 + 1) (u q0 11).toNatClampNeg) u) (fun r3 u3 => (if r3 = 0 then some ((-1), u3) else gd (mIx (u3 q0 11) 30) (mS (mup u3 q0 11 ((u3 q0 11) + 1)) (fun u6 => some ((u3 (q0 + 1) (u3 q0 11).toNatClampNeg) - (nI 97), u6)))))))
set_option maxRecDepth 100000 in
def f_X5_addLeaf (q0 : Nat) (x1 : Int32) (x2 : Int32) (u : MU) : mR := (if x2 = ((-1)) then some (0, u) else (if (u q0 10) < (nI 30) then gd (mIx (u q0 10) 30) (mS (mup u (q0 + 6) (u q0 10).toNatClampNeg x1) (fun u4 => gd (mIx (u4 q0 10) 30) (mS (mup u4 (q0 + 7) (u4 q0 10).toNatClampNeg x2) (fun u6 => mS (mup u6 q0 10 ((u6 q0 10) + 1)) (fun u7 => some (1, u7)))))) else some (0, u)))
set_option maxRecDepth 100000 in
def f_X5_readLeaf (q0 : Nat) (u : MU) : mR := gd (mIx (u q0 11) 30) (mB (f_X5_isFigure (u (q0 + 1) (u q0 11).toNatClampNeg) u) (fun r2 u2 => (if r2 = 0 then (if (u (q0 + 1) (u q0 11).toNatClampNeg) = (nI 112) then mS (mup u2 q0 11 ((u2 q0 11) + 1)) (fun u15 => mB (f_X5_addLeaf q0 1 0 u15) (fun r16 u16 => gd (mZ r16) (some (r16, u16)))) else mB (f_X5_isLetter (u (q0 + 1) (u q0 11).toNatClampNeg) u2) (fun r5 u5 => (if r5 = 0 then (if (u (q0 + 1) (u q0 11).toNatClampNeg) = (nI 64) then mS (mup u5 q0 11 ((u5 q0 11) + 1)) (fun u8 => mB (f_X5_readIndex q0 u8) (fun r9 u9 => mB (f_X5_addLeaf q0 (nI 2) r9 u9) (fun r10 u10 => gd (mZ r10) (some (r10, u10))))) else some (0, u5)) else mS (mup u5 q0 11 ((u5 q0 11) + 1)) (fun u12 => mB (f_X5_addLeaf q0 (nI 2) ((u (q0 + 1) (u q0 11).toNatClampNeg) - (nI 97)) u12) (fun r13 u13 => gd (mZ r13) (some (r13, u13))))))) else mS (mup u2 q0 11 ((u2 q0 11) + 1)) (fun u18 => mB (f_X5_addLeaf q0 0 ((u (q0 + 1) (u q0 11).toNatClampNeg) - (nI 48)) u18) (fun r19 u19 => gd (mZ r19) (some (r19, u19)))))))
set_option maxRecDepth 100000 in
def b_X5_readTerm_70 (k4 : Int32 → Int32 → MU → mR) (q0 : Nat) (x1 : Int32) (x2 : Int32) (u : MU) : mR := k4 x1 (x2 + 1) u
set_option maxRecDepth 100000 in
def b_X5_readTerm_76 (x1 : Int32) (u : MU) : mR := (if x1 = 0 then some (1, u) else some (0, u))
set_option maxRecDepth 100000 in
def b_X5_readTerm_4 (k4 : Int32 → Int32 → MU → mR) (q0 : Nat) (x1 : Int32) (x2 : Int32) (u : MU) : mR := (if (nI 30) ≤ x2 then b_X5_readTerm_76 x1 u else (if x1 ≤ 0 then b_X5_readTerm_76 x1 u else (if (u q0 1) ≤ (u q0 11) then b_X5_readTerm_76 x1 u else gd (mIx (u q0 11) 30) ((if (u (q0 + 1) (u q0 11).toNatClampNeg) = (nI 126) then mS (mup u q0 11 ((u q0 11) + 1)) (fun u8 => b_X5_readTerm_70 k4 q0 (x1 + 1) x2 u8) else mB (f_X5_readLeaf q0 u) (fun r6 u6 => (if r6 = 0 then some (0, u6) else b_X5_readTerm_70 k4 q0 (x1 + (-1)) x2 u6)))))))
set_option maxRecDepth 100000 in
def l_X5_readTerm_4 (q0 : Nat) : Nat → Int32 → Int32 → MU → mR
  | 0, _, _, _ => none
  | n + 1, x1, x2, u => b_X5_readTerm_4 (fun x1 x2 u => l_X5_readTerm_4 q0 n x1 x2 u) q0 x1 x2 u
set_option maxRecDepth 100000 in
def f_X5_readTerm (q0 : Nat) (u : MU) : mR := l_X5_readTerm_4 q0 FU 1 0 u
set_option maxRecDepth 100000 in
def b_X5_readStatement_197 (q0 : Nat) (x1 : Int32) (u : MU) : mR := gd (mIx x1 15) (mS (mup u (q0 + 5) x1.toNatClampNeg (u q0 10)) (fun u2 => mS (mup u2 q0 7 (x1 + 1)) (fun u3 => some (1, u3))))
set_option maxRecDepth 100000 in
def b_X5_readStatement_181 (q0 : Nat) (x1 : Int32) (s0 : Int32) (u : MU) : mR := (if s0 = 0 then b_X5_readStatement_197 q0 x1 u else mB (f_X5_readTerm q0 u) (fun r2 u2 => (if r2 = 0 then some (0, u2) else b_X5_readStatement_197 q0 x1 u2)))
set_option maxRecDepth 100000 in
def b_X5_readStatement_176 (q0 : Nat) (x1 : Int32) (u : MU) : mR := b_X5_readStatement_181 q0 x1 1 u
set_option maxRecDepth 100000 in
def b_X5_readStatement_144 (q0 : Nat) (x1 : Int32) (s2 : Int32) (s1 : Int32) (u : MU) : mR := gd (mIx s1 15) (mS (mup u (q0 + 3) s1.toNatClampNeg s2) (fun u2 => gd (mIx x1 15) ((if (u2 (q0 + 3) x1.toNatClampNeg) = ((-1)) then some (0, u2) else gd (mIx x1 15) ((if (u2 (q0 + 2) x1.toNatClampNeg) = 0 then b_X5_readStatement_176 q0 x1 u2 else gd (mIx x1 15) ((if (u2 (q0 + 2) x1.toNatClampNeg) = 1 then b_X5_readStatement_176 q0 x1 u2 else b_X5_readStatement_181 q0 x1 0 u2))))))))
set_option maxRecDepth 100000 in
def b_X5_readStatement_121 (q0 : Nat) (x1 : Int32) (s0 : Int32) (u : MU) : mR := (if s0 = 0 then mB (f_X5_readLetter q0 u) (fun r2 u2 => b_X5_readStatement_144 q0 x1 r2 x1 u2) else mB (f_X5_readIndex q0 u) (fun r3 u3 => b_X5_readStatement_144 q0 x1 r3 x1 u3))
set_option maxRecDepth 100000 in
def b_X5_readStatement_116 (q0 : Nat) (x1 : Int32) (u : MU) : mR := b_X5_readStatement_121 q0 x1 1 u
set_option maxRecDepth 100000 in
def b_X5_readStatement_98 (q0 : Nat) (x1 : Int32) (x2 : Int32) (u : MU) : mR := (if x2 = (nI 35) then b_X5_readStatement_116 q0 x1 u else (if x2 = (nI 94) then b_X5_readStatement_116 q0 x1 u else (if x2 = (nI 99) then b_X5_readStatement_116 q0 x1 u else b_X5_readStatement_121 q0 x1 0 u)))
set_option maxRecDepth 100000 in
def b_X5_readStatement_51 (q0 : Nat) (x1 : Int32) (x2 : Int32) (s0 : Int32) (u : MU) : mR := (if s0 = 0 then some (0, u) else mS (mup u q0 11 ((u q0 11) + 1)) (fun u2 => mB (f_X5_kindOf x2 u2) (fun r3 u3 => gd (mIx x1 15) (mS (mup u3 (q0 + 2) x1.toNatClampNeg r3) (fun u5 => gd (mIx x1 15) ((if (u5 (q0 + 2) x1.toNatClampNeg) = (nI 3) then mB (f_X5_readCallee q0 x1 u5) (fun r8 u8 => (if r8 = 0 then some (0, u8) else b_X5_readStatement_98 q0 x1 x2 u8)) else b_X5_readStatement_98 q0 x1 x2 u5)))))))
set_option maxRecDepth 100000 in
def b_X5_readStatement_46 (q0 : Nat) (x1 : Int32) (x2 : Int32) (u : MU) : mR := b_X5_readStatement_51 q0 x1 x2 1 u
set_option maxRecDepth 100000 in
def f_X5_readStatement (q0 : Nat) (x1 : Int32) (u : MU) : mR := gd (mIx (u q0 11) 30) ((if (u (q0 + 1) (u q0 11).toNatClampNeg) = (nI 61) then b_X5_readStatement_46 q0 x1 (u (q0 + 1) (u q0 11).toNatClampNeg) u else (if (u (q0 + 1) (u q0 11).toNatClampNeg) = (nI 43) then b_X5_readStatement_46 q0 x1 (u (q0 + 1) (u q0 11).toNatClampNeg) u else (if (u (q0 + 1) (u q0 11).toNatClampNeg) = (nI 35) then b_X5_readStatement_46 q0 x1 (u (q0 + 1) (u q0 11).toNatClampNeg) u else (if (u (q0 + 1) (u q0 11).toNatClampNeg) = (nI 94) then b_X5_readStatement_46 q0 x1 (u (q0 + 1) (u q0 11).toNatClampNeg) u else (if (u (q0 + 1) (u q0 11).toNatClampNeg) = (nI 63) then b_X5_readStatement_46 q0 x1 (u (q0 + 1) (u q0 11).toNatClampNeg) u else (if (u (q0 + 1) (u q0 11).toNatClampNeg) = (nI 99) then b_X5_readStatement_46 q0 x1 (u (q0 + 1) (u q0 11).toNatClampNeg) u else b_X5_readStatement_51 q0 x1 (u (q0 + 1) (u q0 11).toNatClampNeg) 0 u)))))))
set_option maxRecDepth 100000 in
def b_X5_readText_66 (q0 : Nat) (s1 : Int32) (u : MU) : mR := mS (mup u q0 2 s1) (fun u1 => some (0, u1))
set_option maxRecDepth 100000 in
def b_X5_readText_52 (q0 : Nat) (x1 : Int32) (u : MU) : mR := (if x1 = 0 then b_X5_readText_66 q0 (u q0 11) u else b_X5_readText_66 q0 ((-6)) u)
set_option maxRecDepth 100000 in
def b_X5_readText_19 (k19 : Int32 → Int32 → MU → mR) (q0 : Nat) (x1 : Int32) (x2 : Int32) (u : MU) : mR := (if (nI 15) ≤ x2 then b_X5_readText_52 q0 x1 u else (if x1 = 0 then b_X5_readText_52 q0 x1 u else (if (u q0 1) ≤ (u q0 11) then b_X5_readText_52 q0 x1 u else mB (f_X5_readStatement q0 x2 u) (fun r4 u4 => k19 r4 (x2 + 1) u4))))
set_option maxRecDepth 100000 in
def l_X5_readText_19 (q0 : Nat) : Nat → Int32 → Int32 → MU → mR
  | 0, _, _, _ => none
  | n + 1, x1, x2, u => b_X5_readText_19 (fun x1 x2 u => l_X5_readText_19 q0 n x1 x2 u) q0 x1 x2 u
set_option maxRecDepth 100000 in
def f_X5_readText (q0 : Nat) (u : MU) : mR := mS (mup u q0 11 0) (fun u1 => mS (mup u1 q0 7 0) (fun u2 => mS (mup u2 q0 10 0) (fun u3 => l_X5_readText_19 q0 FU 1 0 u3)))
set_option maxRecDepth 100000 in
def f_X5_append (q0 : Nat) (x1 : Int32) (u : MU) : mR := (if (nI 30) ≤ (u q0 1) then some (0, u) else gd (mIx (u q0 1) 30) (mS (mup u (q0 + 1) (u q0 1).toNatClampNeg x1) (fun u3 => mS (mup u3 q0 1 ((u3 q0 1) + 1)) (fun u4 => mB (f_X5_readText q0 u4) (fun r5 u5 => some (0, u5))))))
set_option maxRecDepth 100000 in
def f_X5_empty (q0 : Nat) (u : MU) : mR := mS (mup u q0 1 0) (fun u1 => mB (f_X5_readText q0 u1) (fun r2 u2 => some (0, u2)))
set_option maxRecDepth 100000 in
def f_X6_within (x0 : Int32) (x1 : Int32) (u : MU) : mR := (if x0 < 0 then some (0, u) else (if x1 ≤ x0 then some (0, u) else some (1, u)))
set_option maxRecDepth 100000 in
def f_X6_say (x1 : Int32) (x2 : Int32) (u : MU) : mR := mB (f_X6_within x1 (nI 6) u) (fun r1 u1 => (if r1 = 0 then some ((-1), u1) else (if x2 < (nI 33) then some ((-2), u1) else (if x2 ≤ (nI 126) then gd (mIx x1 6) ((if (u1 (rtn x1) 1) < (nI 30) then gd (mIx x1 6) (mB (f_X5_append (rtn x1) x2 u1) (fun r8 u8 => mB (f_X0_forget u8) (fun r9 u9 => gd (mIx x1 6) (some (u9 (rtn x1) 1, u9))))) else some ((-4), u1))) else some ((-2), u1)))))
set_option maxRecDepth 100000 in
def f_X6_wipe (x1 : Int32) (u : MU) : mR := mB (f_X6_within x1 (nI 6) u) (fun r1 u1 => (if r1 = 0 then some ((-1), u1) else gd (mIx x1 6) (gd (mIx x1 6) (mB (f_X5_empty (rtn x1) u1) (fun r5 u5 => mB (f_X0_forget u5) (fun r6 u6 => some (u1 (rtn x1) 1, u6)))))))
set_option maxRecDepth 100000 in
def f_X6_fault (x1 : Int32) (u : MU) : mR := mB (f_X6_within x1 (nI 6) u) (fun r1 u1 => (if r1 = 0 then some ((-1), u1) else gd (mIx x1 6) (some (u1 (rtn x1) 2, u1))))
set_option maxRecDepth 100000 in
def f_X6_set (x1 : Int32) (x2 : Int32) (u : MU) : mR := mB (f_X6_within x1 (nI 18) u) (fun r1 u1 => (if r1 = 0 then some ((-1), u1) else mB (f_X6_within x2 (nI 100) u1) (fun r3 u3 => (if r3 = 0 then some ((-2), u3) else gd (mIx x1 18) (gd (mIx x1 18) (mS (mup u3 8 x1.toNatClampNeg x2) (fun u7 => some (u3 8 x1.toNatClampNeg, u7))))))))
set_option maxRecDepth 100000 in
def f_X6_get (x1 : Int32) (u : MU) : mR := mB (f_X6_within x1 (nI 18) u) (fun r1 u1 => (if r1 = 0 then some ((-1), u1) else gd (mIx x1 18) (some (u1 8 x1.toNatClampNeg, u1))))
set_option maxRecDepth 100000 in
def f_X6_effect (x1 : Int32) (x2 : Int32) (x3 : Int32) (u : MU) : mR := mB (f_X6_within x1 (nI 6) u) (fun r1 u1 => (if r1 = 0 then some ((-1), u1) else mB (f_X6_within x2 (nI 12) u1) (fun r3 u3 => (if r3 = 0 then some ((-2), u3) else mB (f_X6_within x3 (nI 4) u3) (fun r5 u5 => (if r5 = 0 then some ((-2), u5) else mB (f_X0_find u5) (fun r7 u7 => gd (mIx x1 6) ((if (u7 7 x1.toNatClampNeg) = 0 then some ((-5), u7) else mB (f_X0_part x1 x2 x3 u7) (fun r10 u10 => some (r10, u10)))))))))))
set_option maxRecDepth 100000 in
def f_X6_causes (x1 : Int32) (x2 : Int32) (x3 : Int32) (x4 : Int32) (u : MU) : mR := mB (f_X6_within x1 (nI 6) u) (fun r1 u1 => (if r1 = 0 then some ((-1), u1) else mB (f_X6_within x3 (nI 6) u1) (fun r3 u3 => (if r3 = 0 then some ((-1), u3) else mB (f_X6_within x2 (nI 12) u3) (fun r5 u5 => (if r5 = 0 then some ((-2), u5) else mB (f_X6_within x4 (nI 12) u5) (fun r7 u7 => (if r7 = 0 then some ((-2), u7) else mB (f_X0_find u7) (fun r9 u9 => gd (mIx x1 6) ((if (u9 7 x1.toNatClampNeg) = 0 then some ((-5), u9) else gd (mIx x3 6) ((if (u9 7 x3.toNatClampNeg) = 0 then some ((-5), u9) else mB (f_X0_between x1 x2 x3 x4 u9) (fun r14 u14 => some (r14, u14)))))))))))))))
set_option maxRecDepth 100000 in
def f_X6_call (x1 : Int32) (x2 : Int32) (u : MU) : mR := mB (f_X6_within x1 (nI 6) u) (fun r1 u1 => (if r1 = 0 then some ((-1), u1) else mB (f_X6_within x2 (nI 12) u1) (fun r3 u3 => (if r3 = 0 then some ((-2), u3) else (if (u3 9 2) < (nI 16) then mB (f_X4_append 9 x1 x2 u3) (fun r6 u6 => some (u6 9 2, u6)) else some ((-4), u3))))))
set_option maxRecDepth 100000 in
def f_X6_drop (x1 : Int32) (u : MU) : mR := mB (f_X6_within x1 (u 9 2) u) (fun r1 u1 => (if r1 = 0 then some ((-1), u1) else mB (f_X4_remove 9 x1 u1) (fun r3 u3 => some (u3 9 2, u3))))
set_option maxRecDepth 100000 in
def f_X6_swap (x1 : Int32) (u : MU) : mR := mB (f_X6_within x1 ((u 9 2) - 1) u) (fun r1 u1 => (if r1 = 0 then some ((-1), u1) else mB (f_X0_find u1) (fun r3 u3 => gd (mIx x1 16) (gd (mIx (u3 10 x1.toNatClampNeg) 6) ((if (u3 7 (u3 10 x1.toNatClampNeg).toNatClampNeg) = 0 then some ((-5), u3) else gd (mIx (x1 + 1) 16) (gd (mIx (u3 10 (x1 + 1).toNatClampNeg) 6) ((if (u3 7 (u3 10 (x1 + 1).toNatClampNeg).toNatClampNeg) = 0 then some ((-5), u3) else mB (f_X0_free 9 x1 (x1 + 1) u3) (fun r10 u10 => (if r10 = 0 then some ((-3), u10) else mB (f_X4_exchangeWithNext 9 x1 u10) (fun r12 u12 => some (1, u12)))))))))))))
set_option maxRecDepth 100000 in
def f_X6_layProgram (u : MU) : mR := mB (f_X0_find u) (fun r1 u1 => mB (f_X0_knowsAll 9 u1) (fun r2 u2 => (if r2 = 0 then some (0, u2) else mB (f_X2_lay 13 9 u2) (fun r4 u4 => some (1, u4)))))
set_option maxRecDepth 100000 in
def f_X6_told (x1 : Int32) (x2 : Int32) (u : MU) : mR := mB (f_X6_within x1 (u 9 2) u) (fun r1 u1 => (if r1 = 0 then some ((-1), u1) else mB (f_X6_within x2 (nI 4) u1) (fun r3 u3 => (if r3 = 0 then some ((-2), u3) else (if x2 = 0 then gd (mIx x1 16) (some (u3 10 x1.toNatClampNeg, u3)) else (if x2 = 1 then gd (mIx x1 16) (some (u3 11 x1.toNatClampNeg, u3)) else mB (f_X6_layProgram u3) (fun r7 u7 => (if r7 = 0 then some ((-5), u7) else (if x2 = (nI 2) then gd (mIx x1 16) (some (u7 17 x1.toNatClampNeg, u7)) else gd (mIx x1 16) (some (u7 18 x1.toNatClampNeg, u7)))))))))))
set_option maxRecDepth 100000 in
def b_X6_nearestSingle_76 (x2 : Int32) (x4 : Int32) (u : MU) : mR := some ((((nI 126) + x2) <<< ((nI 23) &&& 31)) + x4, u)
set_option maxRecDepth 100000 in
def b_X6_nearestSingle_73 (x2 : Int32) (x4 : Int32) (u : MU) : mR := b_X6_nearestSingle_76 x2 (x4 + 1) u
set_option maxRecDepth 100000 in
def b_X6_nearestSingle_34 (x0 : Int32) (x1 : Int32) (x2 : Int32) (u : MU) : mR := gd (mNz x1) (gd (mNz x1) ((if x1 < ((nI 2) * (irm (x0 <<< (((nI 23) - x2) &&& 31)) x1)) then b_X6_nearestSingle_73 x2 ((x0 <<< (((nI 23) - x2) &&& 31)) / x1) u else (if ((nI 2) * (irm (x0 <<< (((nI 23) - x2) &&& 31)) x1)) = x1 then (if (((x0 <<< (((nI 23) - x2) &&& 31)) / x1) &&& 1) = 1 then b_X6_nearestSingle_73 x2 ((x0 <<< (((nI 23) - x2) &&& 31)) / x1) u else b_X6_nearestSingle_76 x2 ((x0 <<< (((nI 23) - x2) &&& 31)) / x1) u) else b_X6_nearestSingle_76 x2 ((x0 <<< (((nI 23) - x2) &&& 31)) / x1) u))))
set_option maxRecDepth 100000 in
def b_X6_nearestSingle_14 (k14 : Int32 → MU → mR) (x0 : Int32) (x1 : Int32) (x2 : Int32) (u : MU) : mR := (if (nI 4) ≤ x2 then b_X6_nearestSingle_34 x0 x1 x2 u else (if x0 < (x1 <<< ((x2 + 1) &&& 31)) then b_X6_nearestSingle_34 x0 x1 x2 u else k14 (x2 + 1) u))
set_option maxRecDepth 100000 in
def l_X6_nearestSingle_14 (x0 : Int32) (x1 : Int32) : Nat → Int32 → MU → mR
  | 0, _, _ => none
  | n + 1, x2, u => b_X6_nearestSingle_14 (fun x2 u => l_X6_nearestSingle_14 x0 x1 n x2 u) x0 x1 x2 u
set_option maxRecDepth 100000 in
def f_X6_nearestSingle (x0 : Int32) (x1 : Int32) (u : MU) : mR := (if x1 < 1 then some (0, u) else (if x1 ≤ x0 then l_X6_nearestSingle_14 x0 x1 FU 0 u else some (0, u)))
set_option maxRecDepth 100000 in
def f_X6_compareWithImage (q1 : Nat) (u : MU) : mR := mB (f_X0_knowsAll q1 u) (fun r1 u1 => (if r1 = 0 then some ((-5), u1) else mB (f_X2_lay 20 q1 u1) (fun r3 u3 => mB (f_X2_sameNormalForm 13 20 u3) (fun r4 u4 => (if r4 = 0 then some (0, u4) else some (1, u4))))))
set_option maxRecDepth 100000 in
def b_X6_stages_34 (x1 : Int32) (u : MU) : mR := mB (f_X6_layProgram u) (fun r1 u1 => (if r1 = 0 then some ((-5), u1) else (if x1 = 0 then some (u1 13 4, u1) else (if x1 = 1 then mB (f_X2_mostOfOneStage 13 u1) (fun r5 u5 => some (r5, u5)) else (if x1 = nI 2 then mB (f_X2_firstFullestStage 13 u1) (fun r7 u7 => some (r7, u7)) else (if x1 = nI 3 then mB (f_X6_nearestSingle (u1 9 2) (u1 13 4) u1) (fun r9 u9 => some (r9, u9)) else (if x1 = nI 4 then some (u1 13 5, u1) else (if x1 = nI 5 then mB (f_X2_isNormal 13 u1) (fun r12 u12 => (if r12 = 0 then some (0, u12) else some (1, u12))) else gd (mIx 0 2) (mB (f_X6_compareWithImage (img 0 + 2) u1) (fun r15 u15 => some (r15, u15)))))))))))
set_option maxRecDepth 100000 in
def f_X6_stages (x1 : Int32) (u : MU) : mR := (if x1 < 0 then some ((-2), u) else (if x1 ≤ (nI 6) then (if x1 = (nI 6) then gd (mIx 0 2) ((if (u (img 0) 2) = 0 then some ((-3), u) else b_X6_stages_34 x1 u)) else b_X6_stages_34 x1 u) else some ((-2), u)))
set_option maxRecDepth 100000 in
def f_X6_perform (x1 : Int32) (u : MU) : mR := mB (f_X6_layProgram u) (fun r1 u1 => (if r1 = 0 then some (0, u1) else mB (f_X2_arrange 13 x1 u1) (fun r3 u3 => mB (f_X3_perform 9 19 8 u3) (fun r4 u4 => gd (mZ r4) (some (r4, u4))))))
set_option maxRecDepth 100000 in
def f_X6_run (x1 : Int32) (x2 : Int32) (u : MU) : mR := (if x1 < 0 then some ((-2), u) else (if (nI 2) < x1 then some ((-2), u) else (if x2 < 0 then some ((-2), u) else (if x2 ≤ (nI 19) then mB (f_X6_perform x1 u) (fun r5 u5 => (if r5 = 0 then some ((-3), u5) else (if x2 = (nI 18) then some (u5 27 2, u5) else (if x2 = (nI 19) then some (u5 27 3, u5) else gd (mIx x2 18) (some (u5 28 x2.toNatClampNeg, u5)))))) else some ((-2), u)))))
set_option maxRecDepth 100000 in
def f_X6_thrower (x1 : Int32) (x2 : Int32) (u : MU) : mR := (if x1 < 0 then some ((-2), u) else (if x1 ≤ (nI 2) then mB (f_X6_perform x1 u) (fun r3 u3 => (if r3 = 0 then some ((-3), u3) else mB (f_X6_within x2 (u3 27 2) u3) (fun r5 u5 => (if r5 = 0 then some ((-6), u5) else gd (mIx x2 16) (some (u5 29 x2.toNatClampNeg, u5)))))) else some ((-2), u)))
set_option maxRecDepth 100000 in
def f_X6_commit (u : MU) : mR := mB (f_X6_perform 0 u) (fun r1 u1 => (if r1 = 0 then some ((-3), u1) else mS (mrow u1 8 (va_cpy (u1 28) (u1 8) (0 : Int32).toNatClampNeg (0 : Int32).toNatClampNeg (nI 18 : Int32).toNatClampNeg)) (fun u3 => mS (mup u3 9 2 0) (fun u4 => some (u4 27 2, u4)))))
set_option maxRecDepth 100000 in
def f_X6_image (x1 : Int32) (u : MU) : mR := mB (f_X6_within x1 (nI 2) u) (fun r1 u1 => (if r1 = 0 then some ((-2), u1) else gd (mIx x1 2) (mB (f_X1_keep (img x1) 8 9 u1) (fun r4 u4 => some (1, u4)))))
set_option maxRecDepth 100000 in
def f_X6_restore (x1 : Int32) (u : MU) : mR := mB (f_X6_within x1 (nI 2) u) (fun r1 u1 => (if r1 = 0 then some ((-2), u1) else gd (mIx x1 2) ((if (u1 (img x1) 2) = 0 then some ((-3), u1) else gd (mIx x1 2) (mS (mrow u1 8 (va_cpy (u1 (img x1 + 1)) (u1 8) (0 : Int32).toNatClampNeg (0 : Int32).toNatClampNeg (nI 18 : Int32).toNatClampNeg)) (fun u6 => gd (mIx x1 2) (mB (f_X4_copyFrom 9 (img x1 + 2) u6) (fun r8 u8 => some (1, u8)))))))))
set_option maxRecDepth 100000 in
def f_J9_floorMod_7cf53 (x0 : Int32) (x1 : Int32) (u : MU) : mR := gd (mNz x1) ((if 0 ≤ (x0 ^^^ x1) then some (irm x0 x1, u) else (if (irm x0 x1) = 0 then some (irm x0 x1, u) else some ((irm x0 x1) + x1, u))))
set_option maxRecDepth 100000 in
def f_X6_count (x1 : Int32) (u : MU) : mR := (if x1 = 0 then some (u 9 2, u) else mB (f_J9_floorMod_7cf53 x1 (nI 10) u) (fun r2 u2 => (if x1 < (nI 10) then some ((-2), u2) else (if (nI 40) ≤ x1 then some ((-2), u2) else (if r2 < (nI 6) then gd (mIx r2 6) ((if (nI 20) ≤ x1 then (if (u2 (rtn r2) 2) = ((-6)) then (if (nI 30) ≤ x1 then mB (f_X5_calleeBits (rtn r2) u2) (fun r10 u10 => some (r10, u10)) else some (u2 (rtn r2) 7, u2)) else some ((-6), u2)) else some (u2 (rtn r2) 1, u2))) else some ((-2), u2))))))
set_option maxRecDepth 100000 in
def f_X7_in (x0 : Int64) (x2 : Int64) (x4 : Int64) (u : MU) : mR := (if (lg_cmp x0 x2) < 0 then some (0, u) else (if 0 < (lg_cmp x0 x4) then some (0, u) else some (1, u)))
set_option maxRecDepth 100000 in
def f_X7_isRoutine (x0 : Int32) (u : MU) : mR := mB (f_X7_in x0.toInt64 0 5 u) (fun r1 u1 => gd (mZ r1) (some (r1, u1)))
set_option maxRecDepth 100000 in
def f_X7_isGiven (x0 : Int32) (u : MU) : mR := mB (f_X7_in x0.toInt64 0 11 u) (fun r1 u1 => gd (mZ r1) (some (r1, u1)))
set_option maxRecDepth 100000 in
def f_X7_isPlace (x0 : Int32) (u : MU) : mR := mB (f_X7_in x0.toInt64 0 17 u) (fun r1 u1 => gd (mZ r1) (some (r1, u1)))
set_option maxRecDepth 100000 in
def f_X7_say (x1 : Int32) (x2 : Int32) (u : MU) : mR := mB (f_X7_isRoutine x1 u) (fun r1 u1 => (if r1 = 0 then some ((-1), u1) else mB (f_X7_in x2.toInt64 33 126 u1) (fun r3 u3 => (if r3 = 0 then some ((-2), u3) else gd (mIx x1 6) ((if (u3 90 x1.toNatClampNeg) = (nI 30) then some ((-4), u3) else gd (mIx x1 6) (gd (mIx (((nI 30) * x1) + (u3 90 x1.toNatClampNeg)) 180) (mS (mup u3 89 (((nI 30) * x1) + (u3 90 x1.toNatClampNeg)).toNatClampNeg x2) (fun u9 => gd (mIx x1 6) (gd (mIx x1 6) (mS (mup u9 90 x1.toNatClampNeg ((u9 90 x1.toNatClampNeg) + 1)) (fun u12 => gd (mIx x1 6) (some (u12 90 x1.toNatClampNeg, u12))))))))))))))
set_option maxRecDepth 100000 in
def f_X7_wipe (x1 : Int32) (u : MU) : mR := mB (f_X7_isRoutine x1 u) (fun r1 u1 => (if r1 = 0 then some ((-1), u1) else gd (mIx x1 6) (gd (mIx x1 6) (mS (mup u1 90 x1.toNatClampNeg 0) (fun u5 => some (u1 90 x1.toNatClampNeg, u5))))))
set_option maxRecDepth 100000 in
def f_X7_here (u : MU) : mR := gd (mIx (u 88 7) 6) ((if (u 90 (u 88 7).toNatClampNeg) ≤ (u 88 6) then some (0, u) else gd (mIx (((nI 30) * (u 88 7)) + (u 88 6)) 180) (some (u 89 (((nI 30) * (u 88 7)) + (u 88 6)).toNatClampNeg, u))))
set_option maxRecDepth 100000 in
def f_X7_isFigure (x0 : Int32) (u : MU) : mR := (if x0 < (nI 48) then some (0, u) else (if (nI 57) < x0 then some (0, u) else some (1, u)))
set_option maxRecDepth 100000 in
def f_X7_isLetter (x0 : Int32) (u : MU) : mR := (if x0 < (nI 97) then some (0, u) else (if (nI 102) < x0 then some (0, u) else some (1, u)))
set_option maxRecDepth 100000 in
def b_X7_index_48 (x1 : Int32) (x2 : Int32) (x3 : Int32) (u : MU) : mR := mS (mup u 88 6 ((u 88 6) + 1)) (fun u1 => (if x3 = (nI 112) then some (irm (x2 + x1) (nI 12), u1) else some (irm (x2 + (x3 - (nI 48))) (nI 12), u1)))
set_option maxRecDepth 100000 in
def b_X7_index_2 (k2 : Int32 → MU → mR) (x1 : Int32) (x2 : Int32) (u : MU) : mR := mB (f_X7_here u) (fun r1 u1 => (if r1 = (nI 62) then mS (mup u1 88 6 ((u1 88 6) + 1)) (fun u7 => k2 (x2 + 1) u7) else mB (f_X7_here u1) (fun r3 u3 => mB (f_X7_isFigure r3 u3) (fun r4 u4 => (if r4 = 0 then (if r3 = (nI 112) then b_X7_index_48 x1 x2 r3 u4 else some ((-6), u4)) else b_X7_index_48 x1 x2 r3 u4)))))
set_option maxRecDepth 100000 in
def l_X7_index_2 (x1 : Int32) : Nat → Int32 → MU → mR
  | 0, _, _ => none
  | n + 1, x2, u => b_X7_index_2 (fun x2 u => l_X7_index_2 x1 n x2 u) x1 x2 u
set_option maxRecDepth 100000 in
def f_X7_index (x1 : Int32) (u : MU) : mR := l_X7_index_2 x1 FU 0 u
set_option maxRecDepth 100000 in
def b_X7_leaf_164 (s2 : Int32) (s1 : Int32) (u : MU) : mR := mS (mup u 88 9 (s1 ||| s2)) (fun u1 => some (1, u1))
set_option maxRecDepth 100000 in
def b_X7_leaf_138 (x2 : Int32) (s2 : Int32) (s1 : Int32) (u : MU) : mR := mS (mup u 88 8 (s1 + s2)) (fun u1 => mB (f_X7_isLetter x2 u1) (fun r2 u2 => (if r2 = 0 then b_X7_leaf_164 0 (u1 88 9) u2 else b_X7_leaf_164 (1 <<< ((x2 - (nI 97)) &&& 31)) (u1 88 9) u2)))
set_option maxRecDepth 100000 in
def b_X7_leaf_90 (x1 : Int32) (x2 : Int32) (u : MU) : mR := mS (mup u 88 6 ((u 88 6) + 1)) (fun u1 => mB (f_X7_isFigure x2 u1) (fun r2 u2 => (if r2 = 0 then (if x2 = (nI 112) then b_X7_leaf_138 x2 x1 (u1 88 8) u2 else gd (mIx (x2 - (nI 97)) 18) (b_X7_leaf_138 x2 (u2 99 (x2 - (nI 97)).toNatClampNeg) (u1 88 8) u2)) else b_X7_leaf_138 x2 (x2 - (nI 48)) (u1 88 8) u2)))
set_option maxRecDepth 100000 in
def f_X7_leaf (x1 : Int32) (u : MU) : mR := mB (f_X7_here u) (fun r1 u1 => (if r1 = (nI 64) then mS (mup u1 88 6 ((u1 88 6) + 1)) (fun u8 => mB (f_X7_index x1 u8) (fun r9 u9 => (if 0 ≤ r9 then gd (mIx ((nI 6) + r9) 18) (mS (mup u9 88 8 ((u9 88 8) + (u9 99 ((nI 6) + r9).toNatClampNeg))) (fun u12 => mS (mup u12 88 9 ((u12 88 9) ||| (1 <<< (((nI 6) + r9) &&& 31)))) (fun u13 => some (1, u13)))) else some (0, u9)))) else mB (f_X7_isFigure r1 u1) (fun r3 u3 => (if r3 = 0 then mB (f_X7_isLetter r1 u3) (fun r5 u5 => (if r5 = 0 then (if r1 = (nI 112) then b_X7_leaf_90 x1 r1 u5 else some (0, u5)) else b_X7_leaf_90 x1 r1 u5)) else b_X7_leaf_90 x1 r1 u3))))
set_option maxRecDepth 100000 in
def b_X7_term_12 (k12 : Int32 → MU → mR) (x1 : Int32) (x2 : Int32) (u : MU) : mR := (if x2 ≤ 0 then mS (mup u 88 8 (irm (u 88 8) (nI 100))) (fun u2 => some (1, u2)) else mB (f_X7_here u) (fun r3 u3 => (if r3 = (nI 126) then mS (mup u3 88 6 ((u3 88 6) + 1)) (fun u7 => k12 (x2 + 1) u7) else mB (f_X7_leaf x1 u3) (fun r5 u5 => (if r5 = 0 then some (0, u5) else k12 (x2 + (-1)) u5)))))
set_option maxRecDepth 100000 in
def l_X7_term_12 (x1 : Int32) : Nat → Int32 → MU → mR
  | 0, _, _ => none
  | n + 1, x2, u => b_X7_term_12 (fun x2 u => l_X7_term_12 x1 n x2 u) x1 x2 u
set_option maxRecDepth 100000 in
def f_X7_term (x1 : Int32) (u : MU) : mR := mS (mup u 88 8 0) (fun u1 => mS (mup u1 88 9 0) (fun u2 => l_X7_term_12 x1 FU 1 u2))
set_option maxRecDepth 100000 in
def b_X7_numberHere_31 (s2 : Int32) (s1 : Int32) (u : MU) : mR := mS (mup u 88 6 (s1 + s2)) (fun u1 => mB (f_X7_in ((u1 88 11).toInt64) 0 5 u1) (fun r2 u2 => gd (mZ r2) (some (r2, u2))))
set_option maxRecDepth 100000 in
def f_X7_numberHere (u : MU) : mR := mB (f_X7_here u) (fun r1 u1 => mS (mup u1 88 11 (r1 - (nI 97))) (fun u2 => mB (f_X7_here u2) (fun r3 u3 => mB (f_X7_isLetter r3 u3) (fun r4 u4 => (if r4 = 0 then b_X7_numberHere_31 0 (u2 88 6) u4 else b_X7_numberHere_31 1 (u2 88 6) u4)))))
set_option maxRecDepth 100000 in
def f_X7_cellHere (x1 : Int32) (u : MU) : mR := mB (f_X7_index x1 u) (fun r1 u1 => mS (mup u1 88 11 ((nI 6) + r1)) (fun u2 => (if r1 < 0 then some (0, u2) else some (1, u2))))
set_option maxRecDepth 100000 in
def f_X7_callHere (x1 : Int32) (u : MU) : mR := mB (f_X7_here u) (fun r1 u1 => mS (mup u1 88 12 (r1 - (nI 48))) (fun u2 => mB (f_X7_isRoutine (u2 88 12) u2) (fun r3 u3 => (if r3 = 0 then some (0, u3) else mS (mup u3 88 6 ((u3 88 6) + 1)) (fun u5 => mB (f_X7_index x1 u5) (fun r6 u6 => mS (mup u6 88 13 r6) (fun u7 => (if (u7 88 13) < 0 then some (0, u7) else some (1, u7)))))))))
set_option maxRecDepth 100000 in
def b_X7_statement_145 (x1 : Int32) (u : MU) : mR := mB (f_X7_term x1 u) (fun r1 u1 => (if r1 = 0 then some (0, u1) else some (1, u1)))
set_option maxRecDepth 100000 in
def b_X7_statement_84 (x1 : Int32) (x2 : Int32) (u : MU) : mR := mS (mup u 88 6 ((u 88 6) + 1)) (fun u1 => (if (u1 88 10) = (nI 99) then mB (f_X7_callHere x1 u1) (fun r11 u11 => gd (mZ r11) (some (r11, u11))) else (if (u1 88 10) = (nI 63) then mB (f_X7_numberHere u1) (fun r9 u9 => gd (mZ r9) (some (r9, u9))) else (if x2 = 0 then mB (f_X7_cellHere x1 u1) (fun r5 u5 => (if r5 = 0 then some (0, u5) else b_X7_statement_145 x1 u5)) else mB (f_X7_numberHere u1) (fun r7 u7 => (if r7 = 0 then some (0, u7) else b_X7_statement_145 x1 u7))))))
set_option maxRecDepth 100000 in
def b_X7_statement_55 (x1 : Int32) (x2 : Int32) (s0 : Int32) (u : MU) : mR := (if x2 = 0 then (if s0 = 0 then (if (u 88 10) = (nI 63) then b_X7_statement_84 x1 x2 u else (if (u 88 10) = (nI 99) then b_X7_statement_84 x1 x2 u else some (0, u))) else b_X7_statement_84 x1 x2 u) else b_X7_statement_84 x1 x2 u)
set_option maxRecDepth 100000 in
def b_X7_statement_50 (x1 : Int32) (x2 : Int32) (u : MU) : mR := b_X7_statement_55 x1 x2 1 u
set_option maxRecDepth 100000 in
def b_X7_statement_31 (x1 : Int32) (s0 : Int32) (u : MU) : mR := (if (u 88 10) = (nI 35) then b_X7_statement_50 x1 s0 u else (if (u 88 10) = (nI 94) then b_X7_statement_50 x1 s0 u else b_X7_statement_55 x1 s0 0 u))
set_option maxRecDepth 100000 in
def b_X7_statement_26 (x1 : Int32) (u : MU) : mR := b_X7_statement_31 x1 1 u
set_option maxRecDepth 100000 in
def f_X7_statement (x1 : Int32) (u : MU) : mR := mB (f_X7_here u) (fun r1 u1 => mS (mup u1 88 10 r1) (fun u2 => (if (u2 88 10) = (nI 61) then b_X7_statement_26 x1 u2 else (if (u2 88 10) = (nI 43) then b_X7_statement_26 x1 u2 else b_X7_statement_31 x1 0 u2))))
set_option maxRecDepth 100000 in
def f_X7_begin (x1 : Int32) (u : MU) : mR := mS (mup u 88 7 x1) (fun u1 => mS (mup u1 88 6 0) (fun u2 => some (0, u2)))
set_option maxRecDepth 100000 in
def f_X7_isMore (u : MU) : mR := gd (mIx (u 88 7) 6) ((if (u 90 (u 88 7).toNatClampNeg) ≤ (u 88 6) then some (0, u) else some (1, u)))
set_option maxRecDepth 100000 in
def b_X7_faultOf_5 (k5 : MU → mR) (u : MU) : mR := mB (f_X7_isMore u) (fun r1 u1 => (if r1 = 0 then some ((-6), u1) else mB (f_X7_statement 0 u1) (fun r3 u3 => (if r3 = 0 then some (u3 88 6, u3) else k5 u3))))
set_option maxRecDepth 100000 in
def l_X7_faultOf_5 : Nat → MU → mR
  | 0, _ => none
  | n + 1, u => b_X7_faultOf_5 (fun u => l_X7_faultOf_5 n u) u
set_option maxRecDepth 100000 in
def f_X7_faultOf (x1 : Int32) (u : MU) : mR := mB (f_X7_begin x1 u) (fun r1 u1 => l_X7_faultOf_5 FU u1)
set_option maxRecDepth 100000 in
def f_X7_fault (x1 : Int32) (u : MU) : mR := mB (f_X7_isRoutine x1 u) (fun r1 u1 => (if r1 = 0 then some ((-1), u1) else mB (f_X7_faultOf x1 u1) (fun r3 u3 => some (r3, u3))))
set_option maxRecDepth 100000 in
def f_X7_set (x1 : Int32) (x2 : Int32) (u : MU) : mR := mB (f_X7_isPlace x1 u) (fun r1 u1 => (if r1 = 0 then some ((-1), u1) else mB (f_X7_in x2.toInt64 0 99 u1) (fun r3 u3 => (if r3 = 0 then some ((-2), u3) else gd (mIx x1 18) (gd (mIx x1 18) (mS (mup u3 91 x1.toNatClampNeg x2) (fun u7 => some (u3 91 x1.toNatClampNeg, u7))))))))
set_option maxRecDepth 100000 in
def f_X7_get (x1 : Int32) (u : MU) : mR := mB (f_X7_isPlace x1 u) (fun r1 u1 => (if r1 = 0 then some ((-1), u1) else gd (mIx x1 18) (some (u1 91 x1.toNatClampNeg, u1))))
set_option maxRecDepth 100000 in
def b_X7_callsOf_42 (k7 : Int32 → MU → mR) (s1 : Int32) (s0 : Int32) (u : MU) : mR := k7 (s0 ||| s1) u
set_option maxRecDepth 100000 in
def b_X7_callsOf_7 (k7 : Int32 → MU → mR) (x2 : Int32) (u : MU) : mR := mB (f_X7_isMore u) (fun r1 u1 => (if r1 = 0 then some (x2, u1) else mB (f_X7_statement 0 u1) (fun r3 u3 => (if r3 = 0 then some (x2, u3) else (if (u3 88 10) = (nI 99) then b_X7_callsOf_42 k7 (1 <<< ((u3 88 12) &&& 31)) x2 u3 else b_X7_callsOf_42 k7 0 x2 u3)))))
set_option maxRecDepth 100000 in
def l_X7_callsOf_7 : Nat → Int32 → MU → mR
  | 0, _, _ => none
  | n + 1, x2, u => b_X7_callsOf_7 (fun x2 u => l_X7_callsOf_7 n x2 u) x2 u
set_option maxRecDepth 100000 in
def f_X7_callsOf (x1 : Int32) (u : MU) : mR := mB (f_X7_begin x1 u) (fun r1 u1 => l_X7_callsOf_7 FU 0 u1)
set_option maxRecDepth 100000 in
def b_X7_findReaches_84 (k31 : Int32 → MU → mR) (k39 : Int32 → Int32 → MU → mR) (k47 : Int32 → Int32 → Int32 → MU → mR) (x1 : Int32) (x2 : Int32) (x3 : Int32) (s3 : Int32) (s2 : Int32) (s1 : Int32) (u : MU) : mR := gd (mIx s1 6) (mS (mup u 98 s1.toNatClampNeg (s2 ||| s3)) (fun u2 => k47 x1 x2 (x3 + 1) u2))
set_option maxRecDepth 100000 in
def b_X7_findReaches_47 (k31 : Int32 → MU → mR) (k39 : Int32 → Int32 → MU → mR) (k47 : Int32 → Int32 → Int32 → MU → mR) (x1 : Int32) (x2 : Int32) (x3 : Int32) (u : MU) : mR := (if (nI 6) ≤ x3 then k39 x1 (x2 + 1) u else gd (mIx x2 6) (gd (mIx x2 6) ((if (((u 98 x2.toNatClampNeg) >>> (x3 &&& 31)) &&& 1) = 1 then gd (mIx x3 6) (b_X7_findReaches_84 k31 k39 k47 x1 x2 x3 (u 98 x3.toNatClampNeg) (u 98 x2.toNatClampNeg) x2 u) else b_X7_findReaches_84 k31 k39 k47 x1 x2 x3 0 (u 98 x2.toNatClampNeg) x2 u))))
set_option maxRecDepth 100000 in
def l_X7_findReaches_47 (k31 : Int32 → MU → mR) (k39 : Int32 → Int32 → MU → mR) : Nat → Int32 → Int32 → Int32 → MU → mR
  | 0, _, _, _, _ => none
  | n + 1, x1, x2, x3, u => b_X7_findReaches_47 k31 k39 (fun x1 x2 x3 u => l_X7_findReaches_47 k31 k39 n x1 x2 x3 u) x1 x2 x3 u
set_option maxRecDepth 100000 in
def b_X7_findReaches_39 (k31 : Int32 → MU → mR) (k39 : Int32 → Int32 → MU → mR) (x1 : Int32) (x2 : Int32) (u : MU) : mR := (if (nI 6) ≤ x2 then k31 (x1 + 1) u else l_X7_findReaches_47 k31 k39 FU x1 x2 0 u)
set_option maxRecDepth 100000 in
def l_X7_findReaches_39 (k31 : Int32 → MU → mR) : Nat → Int32 → Int32 → MU → mR
  | 0, _, _, _ => none
  | n + 1, x1, x2, u => b_X7_findReaches_39 k31 (fun x1 x2 u => l_X7_findReaches_39 k31 n x1 x2 u) x1 x2 u
set_option maxRecDepth 100000 in
def b_X7_findReaches_31 (k31 : Int32 → MU → mR) (x1 : Int32) (u : MU) : mR := (if (nI 6) ≤ x1 then some (0, u) else l_X7_findReaches_39 k31 FU x1 0 u)
set_option maxRecDepth 100000 in
def l_X7_findReaches_31 : Nat → Int32 → MU → mR
  | 0, _, _ => none
  | n + 1, x1, u => b_X7_findReaches_31 (fun x1 u => l_X7_findReaches_31 n x1 u) x1 u
set_option maxRecDepth 100000 in
def b_X7_findReaches_2 (k2 : Int32 → MU → mR) (x1 : Int32) (u : MU) : mR := (if (nI 6) ≤ x1 then l_X7_findReaches_31 FU 0 u else mB (f_X7_callsOf x1 u) (fun r2 u2 => gd (mIx x1 6) (mS (mup u2 98 x1.toNatClampNeg ((1 <<< (x1 &&& 31)) ||| r2)) (fun u4 => k2 (x1 + 1) u4))))
set_option maxRecDepth 100000 in
def l_X7_findReaches_2 : Nat → Int32 → MU → mR
  | 0, _, _ => none
  | n + 1, x1, u => b_X7_findReaches_2 (fun x1 u => l_X7_findReaches_2 n x1 u) x1 u
set_option maxRecDepth 100000 in
def f_X7_findReaches (u : MU) : mR := l_X7_findReaches_2 FU 0 u
set_option maxRecDepth 100000 in
def b_X7_isKnown_40 (k4 : Int32 → Int32 → MU → mR) (x1 : Int32) (x3 : Int32) (s0 : Int32) (u : MU) : mR := k4 s0 (x3 + 1) u
set_option maxRecDepth 100000 in
def b_X7_isKnown_35 (k4 : Int32 → Int32 → MU → mR) (x1 : Int32) (x3 : Int32) (u : MU) : mR := b_X7_isKnown_40 k4 x1 x3 1 u
set_option maxRecDepth 100000 in
def b_X7_isKnown_39 (k4 : Int32 → Int32 → MU → mR) (x1 : Int32) (x3 : Int32) (u : MU) : mR := b_X7_isKnown_40 k4 x1 x3 0 u
set_option maxRecDepth 100000 in
def b_X7_isKnown_4 (k4 : Int32 → Int32 → MU → mR) (x1 : Int32) (x2 : Int32) (x3 : Int32) (u : MU) : mR := (if (nI 6) ≤ x3 then gd (mZ x2) (some (x2, u)) else (if x2 = 0 then b_X7_isKnown_39 k4 x1 x3 u else gd (mIx x1 6) ((if (((u 98 x1.toNatClampNeg) >>> (x3 &&& 31)) &&& 1) = 0 then b_X7_isKnown_35 k4 x1 x3 u else mB (f_X7_faultOf x3 u) (fun r6 u6 => (if 0 ≤ r6 then b_X7_isKnown_39 k4 x1 x3 u6 else b_X7_isKnown_35 k4 x1 x3 u6))))))
set_option maxRecDepth 100000 in
def l_X7_isKnown_4 (x1 : Int32) : Nat → Int32 → Int32 → MU → mR
  | 0, _, _, _ => none
  | n + 1, x2, x3, u => b_X7_isKnown_4 (fun x2 x3 u => l_X7_isKnown_4 x1 n x2 x3 u) x1 x2 x3 u
set_option maxRecDepth 100000 in
def f_X7_isKnown (x1 : Int32) (u : MU) : mR := l_X7_isKnown_4 x1 FU 1 0 u
set_option maxRecDepth 100000 in
def b_X7_more_20 (x1 : Int32) (x2 : Int32) (s1 : Int32) (u : MU) : mR := gd (mZ s1) (mS (mup u 88 20 s1) (fun u2 => some (x1 ||| x2, u2)))
set_option maxRecDepth 100000 in
def b_X7_more_15 (x1 : Int32) (x2 : Int32) (u : MU) : mR := b_X7_more_20 x1 x2 1 u
set_option maxRecDepth 100000 in
def f_X7_more (x1 : Int32) (x2 : Int32) (u : MU) : mR := (if (u 88 20) = 0 then (if (x1 ||| x2) = x1 then b_X7_more_20 x1 x2 0 u else b_X7_more_15 x1 x2 u) else b_X7_more_15 x1 x2 u)
set_option maxRecDepth 100000 in
def f_X7_takeIn (x1 : Int32) (x2 : Int32) (x3 : Int32) (x4 : Int32) (x5 : Int32) (u : MU) : mR := gd (mIx x1 72) (mB (f_X7_more (u 94 x1.toNatClampNeg) x2 u) (fun r2 u2 => gd (mIx x1 72) (mS (mup u2 94 x1.toNatClampNeg r2) (fun u4 => gd (mIx x1 72) (mB (f_X7_more (u4 95 x1.toNatClampNeg) x3 u4) (fun r6 u6 => gd (mIx x1 72) (mS (mup u6 95 x1.toNatClampNeg r6) (fun u8 => gd (mIx x1 72) (mB (f_X7_more (u8 96 x1.toNatClampNeg) x4 u8) (fun r10 u10 => gd (mIx x1 72) (mS (mup u10 96 x1.toNatClampNeg r10) (fun u12 => gd (mIx x1 72) (mB (f_X7_more (u12 97 x1.toNatClampNeg) x5 u12) (fun r14 u14 => gd (mIx x1 72) (mS (mup u14 97 x1.toNatClampNeg r14) (fun u16 => some (0, u16)))))))))))))))))
set_option maxRecDepth 100000 in
def b_X7_addEffects_177 (k12 : Int32 → MU → mR) (x2 : Int32) (x3 : Int32) (u : MU) : mR := k12 x3 u
set_option maxRecDepth 100000 in
def b_X7_addEffects_173 (k12 : Int32 → MU → mR) (x2 : Int32) (x3 : Int32) (s4 : Int32) (s3 : Int32) (s2 : Int32) (s1 : Int32) (u : MU) : mR := mB (f_X7_takeIn s1 s2 s3 s4 0 u) (fun r1 u1 => b_X7_addEffects_177 k12 x2 x3 u1)
set_option maxRecDepth 100000 in
def b_X7_addEffects_158 (k12 : Int32 → MU → mR) (x2 : Int32) (x3 : Int32) (x5 : Int32) (s3 : Int32) (s2 : Int32) (s1 : Int32) (u : MU) : mR := (if x5 = 0 then b_X7_addEffects_173 k12 x2 x3 (1 <<< ((u 88 11) &&& 31)) s3 s2 s1 u else b_X7_addEffects_173 k12 x2 x3 0 s3 s2 s1 u)
set_option maxRecDepth 100000 in
def b_X7_addEffects_135 (k12 : Int32 → MU → mR) (x2 : Int32) (x3 : Int32) (s0 : Int32) (u : MU) : mR := (if s0 = 0 then b_X7_addEffects_158 k12 x2 x3 s0 0 (u 88 9) x3 u else b_X7_addEffects_158 k12 x2 x3 s0 (1 <<< ((u 88 11) &&& 31)) (u 88 9) x3 u)
set_option maxRecDepth 100000 in
def b_X7_addEffects_130 (k12 : Int32 → MU → mR) (x2 : Int32) (x3 : Int32) (u : MU) : mR := b_X7_addEffects_135 k12 x2 x3 1 u
set_option maxRecDepth 100000 in
def b_X7_addEffects_12 (k12 : Int32 → MU → mR) (x2 : Int32) (x3 : Int32) (u : MU) : mR := mB (f_X7_isMore u) (fun r1 u1 => (if r1 = 0 then some (0, u1) else mB (f_X7_statement x2 u1) (fun r3 u3 => (if r3 = 0 then some (0, u3) else (if (u3 88 10) = (nI 99) then gd (mIx (((nI 12) * (u3 88 12)) + (u3 88 13)) 72) (gd (mIx (((nI 12) * (u3 88 12)) + (u3 88 13)) 72) (gd (mIx (((nI 12) * (u3 88 12)) + (u3 88 13)) 72) (gd (mIx (((nI 12) * (u3 88 12)) + (u3 88 13)) 72) (mB (f_X7_takeIn x3 (u3 94 (((nI 12) * (u3 88 12)) + (u3 88 13)).toNatClampNeg) (u3 95 (((nI 12) * (u3 88 12)) + (u3 88 13)).toNatClampNeg) (u3 96 (((nI 12) * (u3 88 12)) + (u3 88 13)).toNatClampNeg) (u3 97 (((nI 12) * (u3 88 12)) + (u3 88 13)).toNatClampNeg) u3) (fun r14 u14 => b_X7_addEffects_177 k12 x2 x3 u14))))) else (if (u3 88 10) = (nI 63) then mB (f_X7_takeIn x3 (1 <<< ((u3 88 11) &&& 31)) 0 0 1 u3) (fun r9 u9 => b_X7_addEffects_177 k12 x2 x3 u9) else (if (u3 88 10) = (nI 61) then b_X7_addEffects_130 k12 x2 x3 u3 else (if (u3 88 10) = (nI 35) then b_X7_addEffects_130 k12 x2 x3 u3 else b_X7_addEffects_135 k12 x2 x3 0 u3))))))))
set_option maxRecDepth 100000 in
def l_X7_addEffects_12 (x2 : Int32) : Nat → Int32 → MU → mR
  | 0, _, _ => none
  | n + 1, x3, u => b_X7_addEffects_12 (fun x3 u => l_X7_addEffects_12 x2 n x3 u) x2 x3 u
set_option maxRecDepth 100000 in
def f_X7_addEffects (x1 : Int32) (x2 : Int32) (u : MU) : mR := mB (f_X7_begin x1 u) (fun r1 u1 => l_X7_addEffects_12 x2 FU (((nI 12) * x1) + x2) u1)
set_option maxRecDepth 100000 in
def b_X7_findEffects_65 (k51 : MU → mR) (k65 : Int32 → MU → mR) (x1 : Int32) (u : MU) : mR := (if (nI 72) ≤ x1 then k51 u else mB (f_X7_addEffects (x1 / (nI 12)) (irm x1 (nI 12)) u) (fun r2 u2 => k65 (x1 + 1) u2))
set_option maxRecDepth 100000 in
def l_X7_findEffects_65 (k51 : MU → mR) : Nat → Int32 → MU → mR
  | 0, _, _ => none
  | n + 1, x1, u => b_X7_findEffects_65 k51 (fun x1 u => l_X7_findEffects_65 k51 n x1 u) x1 u
set_option maxRecDepth 100000 in
def b_X7_findEffects_51 (k51 : MU → mR) (u : MU) : mR := (if (u 88 20) = 0 then some (0, u) else mS (mup u 88 20 0) (fun u2 => l_X7_findEffects_65 k51 FU 0 u2))
set_option maxRecDepth 100000 in
def l_X7_findEffects_51 : Nat → MU → mR
  | 0, _ => none
  | n + 1, u => b_X7_findEffects_51 (fun u => l_X7_findEffects_51 n u) u
set_option maxRecDepth 100000 in
def b_X7_findEffects_6 (k6 : Int32 → MU → mR) (x1 : Int32) (u : MU) : mR := (if (nI 72) ≤ x1 then mS (mup u 88 20 1) (fun u2 => l_X7_findEffects_51 FU u2) else gd (mIx x1 72) (mS (mup u 94 x1.toNatClampNeg 0) (fun u4 => gd (mIx x1 72) (mS (mup u4 95 x1.toNatClampNeg 0) (fun u6 => gd (mIx x1 72) (mS (mup u6 96 x1.toNatClampNeg 0) (fun u8 => gd (mIx x1 72) (mS (mup u8 97 x1.toNatClampNeg 0) (fun u10 => k6 (x1 + 1) u10)))))))))
set_option maxRecDepth 100000 in
def l_X7_findEffects_6 : Nat → Int32 → MU → mR
  | 0, _, _ => none
  | n + 1, x1, u => b_X7_findEffects_6 (fun x1 u => l_X7_findEffects_6 n x1 u) x1 u
set_option maxRecDepth 100000 in
def f_X7_findEffects (u : MU) : mR := mB (f_X7_findReaches u) (fun r1 u1 => l_X7_findEffects_6 FU 0 u1)
set_option maxRecDepth 100000 in
def f_X7_effect (x1 : Int32) (x2 : Int32) (x3 : Int32) (u : MU) : mR := mB (f_X7_isRoutine x1 u) (fun r1 u1 => (if r1 = 0 then some ((-1), u1) else mB (f_X7_isGiven x2 u1) (fun r3 u3 => (if r3 = 0 then some ((-2), u3) else mB (f_X7_in x3.toInt64 0 3 u3) (fun r5 u5 => (if r5 = 0 then some ((-2), u5) else mB (f_X7_findEffects u5) (fun r7 u7 => mB (f_X7_isKnown x1 u7) (fun r8 u8 => (if r8 = 0 then some ((-5), u8) else (if x3 = 0 then gd (mIx (((nI 12) * x1) + x2) 72) (some (u8 94 (((nI 12) * x1) + x2).toNatClampNeg, u8)) else (if x3 = 1 then gd (mIx (((nI 12) * x1) + x2) 72) (some (u8 95 (((nI 12) * x1) + x2).toNatClampNeg, u8)) else (if x3 = (nI 2) then gd (mIx (((nI 12) * x1) + x2) 72) (some (u8 96 (((nI 12) * x1) + x2).toNatClampNeg, u8)) else gd (mIx (((nI 12) * x1) + x2) 72) (some (u8 97 (((nI 12) * x1) + x2).toNatClampNeg, u8))))))))))))))
set_option maxRecDepth 100000 in
def b_X7_causesOf_89 (x1 : Int32) (x2 : Int32) (s1 : Int32) (s0 : Int32) (u : MU) : mR := gd (mIx x1 72) ((if (u 97 x1.toNatClampNeg) = 1 then gd (mIx x2 72) ((if (u 97 x2.toNatClampNeg) = 1 then some ((s0 ||| s1) ||| (nI 4), u) else some ((s0 ||| s1) ||| 0, u))) else some ((s0 ||| s1) ||| 0, u)))
set_option maxRecDepth 100000 in
def b_X7_causesOf_84 (x1 : Int32) (x2 : Int32) (s0 : Int32) (u : MU) : mR := b_X7_causesOf_89 x1 x2 (nI 2) s0 u
set_option maxRecDepth 100000 in
def b_X7_causesOf_57 (x1 : Int32) (x2 : Int32) (x3 : Int32) (x4 : Int32) (s0 : Int32) (u : MU) : mR := gd (mIx x1 72) ((if ((u 94 x1.toNatClampNeg) &&& x4) = 0 then gd (mIx x2 72) ((if ((u 94 x2.toNatClampNeg) &&& x3) = 0 then b_X7_causesOf_89 x1 x2 0 s0 u else b_X7_causesOf_84 x1 x2 s0 u)) else b_X7_causesOf_84 x1 x2 s0 u))
set_option maxRecDepth 100000 in
def b_X7_causesOf_52 (x1 : Int32) (x2 : Int32) (x3 : Int32) (x4 : Int32) (u : MU) : mR := b_X7_causesOf_57 x1 x2 x3 x4 1 u
set_option maxRecDepth 100000 in
def f_X7_causesOf (x1 : Int32) (x2 : Int32) (u : MU) : mR := gd (mIx x1 72) (gd (mIx x1 72) (gd (mIx x2 72) (gd (mIx x2 72) (gd (mIx x1 72) ((if ((u 95 x1.toNatClampNeg) &&& ((u 95 x2.toNatClampNeg) ||| (u 96 x2.toNatClampNeg))) = 0 then gd (mIx x2 72) ((if ((u 95 x2.toNatClampNeg) &&& ((u 95 x1.toNatClampNeg) ||| (u 96 x1.toNatClampNeg))) = 0 then b_X7_causesOf_57 x1 x2 ((u 95 x1.toNatClampNeg) ||| (u 96 x1.toNatClampNeg)) ((u 95 x2.toNatClampNeg) ||| (u 96 x2.toNatClampNeg)) 0 u else b_X7_causesOf_52 x1 x2 ((u 95 x1.toNatClampNeg) ||| (u 96 x1.toNatClampNeg)) ((u 95 x2.toNatClampNeg) ||| (u 96 x2.toNatClampNeg)) u)) else b_X7_causesOf_52 x1 x2 ((u 95 x1.toNatClampNeg) ||| (u 96 x1.toNatClampNeg)) ((u 95 x2.toNatClampNeg) ||| (u 96 x2.toNatClampNeg)) u))))))
set_option maxRecDepth 100000 in
def f_X7_causes (x1 : Int32) (x2 : Int32) (x3 : Int32) (x4 : Int32) (u : MU) : mR := mB (f_X7_isRoutine x1 u) (fun r1 u1 => (if r1 = 0 then some ((-1), u1) else mB (f_X7_isRoutine x3 u1) (fun r3 u3 => (if r3 = 0 then some ((-1), u3) else mB (f_X7_isGiven x2 u3) (fun r5 u5 => (if r5 = 0 then some ((-2), u5) else mB (f_X7_isGiven x4 u5) (fun r7 u7 => (if r7 = 0 then some ((-2), u7) else mB (f_X7_findEffects u7) (fun r9 u9 => mB (f_X7_isKnown x1 u9) (fun r10 u10 => (if r10 = 0 then some ((-5), u10) else mB (f_X7_isKnown x3 u10) (fun r12 u12 => (if r12 = 0 then some ((-5), u12) else mB (f_X7_causesOf (((nI 12) * x1) + x2) (((nI 12) * x3) + x4) u12) (fun r14 u14 => some (r14, u14)))))))))))))))
set_option maxRecDepth 100000 in
def f_X7_call (x1 : Int32) (x2 : Int32) (u : MU) : mR := mB (f_X7_isRoutine x1 u) (fun r1 u1 => (if r1 = 0 then some ((-1), u1) else mB (f_X7_isGiven x2 u1) (fun r3 u3 => (if r3 = 0 then some ((-2), u3) else (if (u3 88 5) = (nI 16) then some ((-4), u3) else gd (mIx (u3 88 5) 16) (mS (mup u3 92 (u3 88 5).toNatClampNeg x1) (fun u7 => gd (mIx (u7 88 5) 16) (mS (mup u7 93 (u7 88 5).toNatClampNeg x2) (fun u9 => mS (mup u9 88 5 ((u9 88 5) + 1)) (fun u10 => some (u10 88 5, u10)))))))))))
set_option maxRecDepth 100000 in
def f_X7_isCall (x1 : Int32) (u : MU) : mR := mB (f_X7_in x1.toInt64 0 (((u 88 5) - 1).toInt64) u) (fun r1 u1 => gd (mZ r1) (some (r1, u1)))
set_option maxRecDepth 100000 in
def b_X7_drop_22 (k22 : Int32 → MU → mR) (x2 : Int32) (u : MU) : mR := (if (u 88 5) ≤ x2 then some (u 88 5, u) else gd (mIx (x2 + 1) 16) (gd (mIx x2 16) (mS (mup u 92 x2.toNatClampNeg (u 92 (x2 + 1).toNatClampNeg)) (fun u4 => gd (mIx (x2 + 1) 16) (gd (mIx x2 16) (mS (mup u4 93 x2.toNatClampNeg (u4 93 (x2 + 1).toNatClampNeg)) (fun u7 => k22 (x2 + 1) u7)))))))
set_option maxRecDepth 100000 in
def l_X7_drop_22 : Nat → Int32 → MU → mR
  | 0, _, _ => none
  | n + 1, x2, u => b_X7_drop_22 (fun x2 u => l_X7_drop_22 n x2 u) x2 u
set_option maxRecDepth 100000 in
def f_X7_drop (x1 : Int32) (u : MU) : mR := mB (f_X7_isCall x1 u) (fun r1 u1 => (if r1 = 0 then some ((-1), u1) else mS (mup u1 88 5 ((u1 88 5) - 1)) (fun u3 => l_X7_drop_22 FU x1 u3)))
set_option maxRecDepth 100000 in
def f_X7_effectOf (x1 : Int32) (u : MU) : mR := gd (mIx x1 16) (gd (mIx x1 16) (some (((nI 12) * (u 92 x1.toNatClampNeg)) + (u 93 x1.toNatClampNeg), u)))
set_option maxRecDepth 100000 in
def f_X7_turn (q0 : Nat) (x1 : Int32) (u : MU) : mR := gd (mIx x1 (mLen q0)) (gd (mIx (x1 + 1) (mLen q0)) (gd (mIx x1 (mLen q0)) (mS (mup u q0 x1.toNatClampNeg (u q0 (x1 + 1).toNatClampNeg)) (fun u4 => gd (mIx (x1 + 1) (mLen q0)) (mS (mup u4 q0 (x1 + 1).toNatClampNeg (u q0 x1.toNatClampNeg)) (fun u6 => some (0, u6)))))))
set_option maxRecDepth 100000 in
def f_X7_swap (x1 : Int32) (u : MU) : mR := mB (f_X7_isCall x1 u) (fun r1 u1 => (if r1 = 0 then some ((-1), u1) else mB (f_X7_isCall (x1 + 1) u1) (fun r3 u3 => (if r3 = 0 then some ((-1), u3) else mB (f_X7_findEffects u3) (fun r5 u5 => gd (mIx x1 16) (mB (f_X7_isKnown (u5 92 x1.toNatClampNeg) u5) (fun r7 u7 => (if r7 = 0 then some ((-5), u7) else gd (mIx (x1 + 1) 16) (mB (f_X7_isKnown (u7 92 (x1 + 1).toNatClampNeg) u7) (fun r10 u10 => (if r10 = 0 then some ((-5), u10) else mB (f_X7_effectOf x1 u10) (fun r12 u12 => mB (f_X7_effectOf (x1 + 1) u12) (fun r13 u13 => mB (f_X7_causesOf r12 r13 u13) (fun r14 u14 => (if r14 = 0 then mB (f_X7_turn 92 x1 u14) (fun r16 u16 => mB (f_X7_turn 93 x1 u16) (fun r17 u17 => some (1, u17))) else some ((-3), u14))))))))))))))))
set_option maxRecDepth 100000 in
def b_X7_isAllKnown_34 (k4 : Int32 → Int32 → MU → mR) (x2 : Int32) (s0 : Int32) (u : MU) : mR := k4 s0 (x2 + 1) u
set_option maxRecDepth 100000 in
def b_X7_isAllKnown_33 (k4 : Int32 → Int32 → MU → mR) (x2 : Int32) (u : MU) : mR := b_X7_isAllKnown_34 k4 x2 0 u
set_option maxRecDepth 100000 in
def b_X7_isAllKnown_4 (k4 : Int32 → Int32 → MU → mR) (x1 : Int32) (x2 : Int32) (u : MU) : mR := (if (u 88 5) ≤ x2 then gd (mZ x1) (some (x1, u)) else (if x1 = 0 then b_X7_isAllKnown_33 k4 x2 u else gd (mIx x2 16) (mB (f_X7_isKnown (u 92 x2.toNatClampNeg) u) (fun r5 u5 => (if r5 = 0 then b_X7_isAllKnown_33 k4 x2 u5 else b_X7_isAllKnown_34 k4 x2 1 u5)))))
set_option maxRecDepth 100000 in
def l_X7_isAllKnown_4 : Nat → Int32 → Int32 → MU → mR
  | 0, _, _, _ => none
  | n + 1, x1, x2, u => b_X7_isAllKnown_4 (fun x1 x2 u => l_X7_isAllKnown_4 n x1 x2 u) x1 x2 u
set_option maxRecDepth 100000 in
def f_X7_isAllKnown (u : MU) : mR := l_X7_isAllKnown_4 FU 1 0 u
set_option maxRecDepth 100000 in
def f_X7_isAhead (x1 : Int32) (x2 : Int32) (u : MU) : mR := gd (mIx x1 16) (gd (mIx x2 16) ((if (u 100 x1.toNatClampNeg) = (u 100 x2.toNatClampNeg) then gd (mIx x1 16) (gd (mIx x2 16) ((if (u 92 x1.toNatClampNeg) = (u 92 x2.toNatClampNeg) then gd (mIx x1 16) (gd (mIx x2 16) ((if (u 93 x1.toNatClampNeg) = (u 93 x2.toNatClampNeg) then (if x2 ≤ x1 then some (0, u) else some (1, u)) else gd (mIx x1 16) (gd (mIx x2 16) ((if (u 93 x2.toNatClampNeg) ≤ (u 93 x1.toNatClampNeg) then some (0, u) else some (1, u))))))) else gd (mIx x1 16) (gd (mIx x2 16) ((if (u 92 x2.toNatClampNeg) ≤ (u 92 x1.toNatClampNeg) then some (0, u) else some (1, u))))))) else gd (mIx x1 16) (gd (mIx x2 16) ((if (u 100 x2.toNatClampNeg) ≤ (u 100 x1.toNatClampNeg) then some (0, u) else some (1, u)))))))
set_option maxRecDepth 100000 in
def b_X7_findStages_88 (k2 : Int32 → MU → mR) (k19 : Int32 → Int32 → MU → mR) (x1 : Int32) (x2 : Int32) (s2 : Int32) (s1 : Int32) (u : MU) : mR := gd (mIx s1 16) (mS (mup u 100 s1.toNatClampNeg s2) (fun u2 => k19 x1 (x2 + 1) u2))
set_option maxRecDepth 100000 in
def b_X7_findStages_82 (k2 : Int32 → MU → mR) (k19 : Int32 → Int32 → MU → mR) (x1 : Int32) (x2 : Int32) (s1 : Int32) (u : MU) : mR := gd (mIx x1 16) (b_X7_findStages_88 k2 k19 x1 x2 (u 100 x1.toNatClampNeg) s1 u)
set_option maxRecDepth 100000 in
def b_X7_findStages_46 (k2 : Int32 → MU → mR) (k19 : Int32 → Int32 → MU → mR) (x1 : Int32) (x2 : Int32) (s0 : Int32) (u : MU) : mR := (if s0 = 0 then b_X7_findStages_82 k2 k19 x1 x2 x1 u else gd (mIx x2 16) (gd (mIx x1 16) ((if (u 100 x2.toNatClampNeg) < (u 100 x1.toNatClampNeg) then b_X7_findStages_82 k2 k19 x1 x2 x1 u else gd (mIx x2 16) (b_X7_findStages_88 k2 k19 x1 x2 ((u 100 x2.toNatClampNeg) + 1) x1 u)))))
set_option maxRecDepth 100000 in
def b_X7_findStages_19 (k2 : Int32 → MU → mR) (k19 : Int32 → Int32 → MU → mR) (x1 : Int32) (x2 : Int32) (u : MU) : mR := (if x1 ≤ x2 then k2 (x1 + 1) u else mB (f_X7_effectOf x2 u) (fun r2 u2 => mB (f_X7_effectOf x1 u2) (fun r3 u3 => mB (f_X7_causesOf r2 r3 u3) (fun r4 u4 => (if r4 = 0 then b_X7_findStages_46 k2 k19 x1 x2 0 u4 else b_X7_findStages_46 k2 k19 x1 x2 1 u4)))))
set_option maxRecDepth 100000 in
def l_X7_findStages_19 (k2 : Int32 → MU → mR) : Nat → Int32 → Int32 → MU → mR
  | 0, _, _, _ => none
  | n + 1, x1, x2, u => b_X7_findStages_19 k2 (fun x1 x2 u => l_X7_findStages_19 k2 n x1 x2 u) x1 x2 u
set_option maxRecDepth 100000 in
def b_X7_findStages_149 (k103 : Int32 → MU → mR) (k120 : Int32 → Int32 → MU → mR) (x1 : Int32) (x2 : Int32) (s3 : Int32) (s2 : Int32) (s1 : Int32) (u : MU) : mR := gd (mIx s1 16) (mS (mup u 101 s1.toNatClampNeg (s2 + s3)) (fun u2 => k120 x1 (x2 + 1) u2))
set_option maxRecDepth 100000 in
def b_X7_findStages_120 (k103 : Int32 → MU → mR) (k120 : Int32 → Int32 → MU → mR) (x1 : Int32) (x2 : Int32) (u : MU) : mR := (if (u 88 5) ≤ x2 then k103 (x1 + 1) u else gd (mIx x1 16) (mB (f_X7_isAhead x2 x1 u) (fun r3 u3 => (if r3 = 0 then b_X7_findStages_149 k103 k120 x1 x2 0 (u 101 x1.toNatClampNeg) x1 u3 else b_X7_findStages_149 k103 k120 x1 x2 1 (u 101 x1.toNatClampNeg) x1 u3))))
set_option maxRecDepth 100000 in
def l_X7_findStages_120 (k103 : Int32 → MU → mR) : Nat → Int32 → Int32 → MU → mR
  | 0, _, _, _ => none
  | n + 1, x1, x2, u => b_X7_findStages_120 k103 (fun x1 x2 u => l_X7_findStages_120 k103 n x1 x2 u) x1 x2 u
set_option maxRecDepth 100000 in
def b_X7_findStages_103 (k103 : Int32 → MU → mR) (x1 : Int32) (u : MU) : mR := (if (u 88 5) ≤ x1 then some (0, u) else gd (mIx x1 16) (mS (mup u 101 x1.toNatClampNeg 0) (fun u3 => l_X7_findStages_120 k103 FU x1 0 u3)))
set_option maxRecDepth 100000 in
def l_X7_findStages_103 : Nat → Int32 → MU → mR
  | 0, _, _ => none
  | n + 1, x1, u => b_X7_findStages_103 (fun x1 u => l_X7_findStages_103 n x1 u) x1 u
set_option maxRecDepth 100000 in
def b_X7_findStages_2 (k2 : Int32 → MU → mR) (x1 : Int32) (u : MU) : mR := (if (u 88 5) ≤ x1 then l_X7_findStages_103 FU 0 u else gd (mIx x1 16) (mS (mup u 100 x1.toNatClampNeg 0) (fun u3 => l_X7_findStages_19 k2 FU x1 0 u3)))
set_option maxRecDepth 100000 in
def l_X7_findStages_2 : Nat → Int32 → MU → mR
  | 0, _, _ => none
  | n + 1, x1, u => b_X7_findStages_2 (fun x1 u => l_X7_findStages_2 n x1 u) x1 u
set_option maxRecDepth 100000 in
def f_X7_findStages (u : MU) : mR := l_X7_findStages_2 FU 0 u
set_option maxRecDepth 100000 in
def f_X7_isFound (u : MU) : mR := mB (f_X7_findEffects u) (fun r1 u1 => mB (f_X7_isAllKnown u1) (fun r2 u2 => (if r2 = 0 then some (0, u2) else mB (f_X7_findStages u2) (fun r4 u4 => some (1, u4)))))
set_option maxRecDepth 100000 in
def f_X7_told (x1 : Int32) (x2 : Int32) (u : MU) : mR := mB (f_X7_isCall x1 u) (fun r1 u1 => (if r1 = 0 then some ((-1), u1) else mB (f_X7_in x2.toInt64 0 3 u1) (fun r3 u3 => (if r3 = 0 then some ((-2), u3) else (if (nI 2) ≤ x2 then mB (f_X7_isFound u3) (fun r6 u6 => (if r6 = 0 then some ((-5), u6) else (if x2 = (nI 2) then gd (mIx x1 16) (some (u6 100 x1.toNatClampNeg, u6)) else gd (mIx x1 16) (some (u6 101 x1.toNatClampNeg, u6))))) else (if x2 = 0 then gd (mIx x1 16) (some (u3 92 x1.toNatClampNeg, u3)) else gd (mIx x1 16) (some (u3 93 x1.toNatClampNeg, u3))))))))
set_option maxRecDepth 100000 in
def b_X7_stageMany_34 (k4 : Int32 → Int32 → MU → mR) (x2 : Int32) (s0 : Int32) (u : MU) : mR := k4 s0 (x2 + 1) u
set_option maxRecDepth 100000 in
def b_X7_stageMany_4 (k4 : Int32 → Int32 → MU → mR) (x1 : Int32) (x2 : Int32) (u : MU) : mR := (if (u 88 5) ≤ x2 then some (x1, u) else gd (mIx x2 16) ((if (u 100 x2.toNatClampNeg) < x1 then b_X7_stageMany_34 k4 x2 x1 u else gd (mIx x2 16) (b_X7_stageMany_34 k4 x2 ((u 100 x2.toNatClampNeg) + 1) u))))
set_option maxRecDepth 100000 in
def l_X7_stageMany_4 : Nat → Int32 → Int32 → MU → mR
  | 0, _, _, _ => none
  | n + 1, x1, x2, u => b_X7_stageMany_4 (fun x1 x2 u => l_X7_stageMany_4 n x1 x2 u) x1 x2 u
set_option maxRecDepth 100000 in
def f_X7_stageMany (u : MU) : mR := l_X7_stageMany_4 FU 0 0 u
set_option maxRecDepth 100000 in
def b_X7_callsAt_28 (k4 : Int32 → Int32 → MU → mR) (x1 : Int32) (x3 : Int32) (s1 : Int32) (s0 : Int32) (u : MU) : mR := k4 (s0 + s1) (x3 + 1) u
set_option maxRecDepth 100000 in
def b_X7_callsAt_4 (k4 : Int32 → Int32 → MU → mR) (x1 : Int32) (x2 : Int32) (x3 : Int32) (u : MU) : mR := (if (u 88 5) ≤ x3 then some (x2, u) else gd (mIx x3 16) ((if (u 100 x3.toNatClampNeg) = x1 then b_X7_callsAt_28 k4 x1 x3 1 x2 u else b_X7_callsAt_28 k4 x1 x3 0 x2 u)))
set_option maxRecDepth 100000 in
def l_X7_callsAt_4 (x1 : Int32) : Nat → Int32 → Int32 → MU → mR
  | 0, _, _, _ => none
  | n + 1, x2, x3, u => b_X7_callsAt_4 (fun x2 x3 u => l_X7_callsAt_4 x1 n x2 x3 u) x1 x2 x3 u
set_option maxRecDepth 100000 in
def f_X7_callsAt (x1 : Int32) (u : MU) : mR := l_X7_callsAt_4 x1 FU 0 0 u
set_option maxRecDepth 100000 in
def b_X7_widest_35 (k5 : Int32 → Int32 → MU → mR) (x2 : Int32) (s0 : Int32) (u : MU) : mR := k5 s0 (x2 + 1) u
set_option maxRecDepth 100000 in
def b_X7_widest_30 (k5 : Int32 → Int32 → MU → mR) (x2 : Int32) (u : MU) : mR := b_X7_widest_35 k5 x2 x2 u
set_option maxRecDepth 100000 in
def b_X7_widest_5 (k5 : Int32 → Int32 → MU → mR) (x1 : Int32) (x2 : Int32) (u : MU) : mR := mB (f_X7_stageMany u) (fun r1 u1 => (if r1 ≤ x2 then some (x1, u1) else (if x1 < 0 then b_X7_widest_30 k5 x2 u1 else mB (f_X7_callsAt x2 u1) (fun r4 u4 => mB (f_X7_callsAt x1 u4) (fun r5 u5 => (if r4 ≤ r5 then b_X7_widest_35 k5 x2 x1 u5 else b_X7_widest_30 k5 x2 u5))))))
set_option maxRecDepth 100000 in
def l_X7_widest_5 : Nat → Int32 → Int32 → MU → mR
  | 0, _, _, _ => none
  | n + 1, x1, x2, u => b_X7_widest_5 (fun x1 x2 u => l_X7_widest_5 n x1 x2 u) x1 x2 u
set_option maxRecDepth 100000 in
def f_X7_widest (u : MU) : mR := l_X7_widest_5 FU ((-6)) 0 u
set_option maxRecDepth 100000 in
def b_X7_single_65 (x2 : Int32) (s1 : Int32) (s0 : Int32) (u : MU) : mR := some (((((nI 127) + x2) <<< ((nI 23) &&& 31)) + (s0 + s1)) - (nI 8388608), u)
set_option maxRecDepth 100000 in
def b_X7_single_60 (x2 : Int32) (s0 : Int32) (u : MU) : mR := b_X7_single_65 x2 1 s0 u
set_option maxRecDepth 100000 in
def b_X7_single_64 (x2 : Int32) (s0 : Int32) (u : MU) : mR := b_X7_single_65 x2 0 s0 u
set_option maxRecDepth 100000 in
def b_X7_single_2 (k2 : Int32 → MU → mR) (x0 : Int32) (x1 : Int32) (x2 : Int32) (u : MU) : mR := (if x0 < (x1 <<< ((x2 + 1) &&& 31)) then gd (mNz x1) (gd (mNz x1) ((if x1 < ((nI 2) * (irm (x0 <<< (((nI 23) - x2) &&& 31)) x1)) then b_X7_single_60 x2 ((x0 <<< (((nI 23) - x2) &&& 31)) / x1) u else (if ((nI 2) * (irm (x0 <<< (((nI 23) - x2) &&& 31)) x1)) = x1 then (if (irm ((x0 <<< (((nI 23) - x2) &&& 31)) / x1) (nI 2)) = 1 then b_X7_single_60 x2 ((x0 <<< (((nI 23) - x2) &&& 31)) / x1) u else b_X7_single_64 x2 ((x0 <<< (((nI 23) - x2) &&& 31)) / x1) u) else b_X7_single_64 x2 ((x0 <<< (((nI 23) - x2) &&& 31)) / x1) u)))) else k2 (x2 + 1) u)
set_option maxRecDepth 100000 in
def l_X7_single_2 (x0 : Int32) (x1 : Int32) : Nat → Int32 → MU → mR
  | 0, _, _ => none
  | n + 1, x2, u => b_X7_single_2 (fun x2 u => l_X7_single_2 x0 x1 n x2 u) x0 x1 x2 u
set_option maxRecDepth 100000 in
def f_X7_single (x0 : Int32) (x1 : Int32) (u : MU) : mR := l_X7_single_2 x0 x1 FU 0 u
set_option maxRecDepth 100000 in
def b_X7_freePairs_42 (k4 : Int32 → Int32 → MU → mR) (k14 : Int32 → Int32 → Int32 → MU → mR) (x2 : Int32) (x3 : Int32) (s1 : Int32) (s0 : Int32) (u : MU) : mR := k14 (s0 + s1) x2 (x3 + 1) u
set_option maxRecDepth 100000 in
def b_X7_freePairs_14 (k4 : Int32 → Int32 → MU → mR) (k14 : Int32 → Int32 → Int32 → MU → mR) (x1 : Int32) (x2 : Int32) (x3 : Int32) (u : MU) : mR := (if x2 ≤ x3 then k4 x1 (x2 + 1) u else mB (f_X7_effectOf x2 u) (fun r2 u2 => mB (f_X7_effectOf x3 u2) (fun r3 u3 => mB (f_X7_causesOf r2 r3 u3) (fun r4 u4 => (if r4 = 0 then b_X7_freePairs_42 k4 k14 x2 x3 1 x1 u4 else b_X7_freePairs_42 k4 k14 x2 x3 0 x1 u4)))))
set_option maxRecDepth 100000 in
def l_X7_freePairs_14 (k4 : Int32 → Int32 → MU → mR) : Nat → Int32 → Int32 → Int32 → MU → mR
  | 0, _, _, _, _ => none
  | n + 1, x1, x2, x3, u => b_X7_freePairs_14 k4 (fun x1 x2 x3 u => l_X7_freePairs_14 k4 n x1 x2 x3 u) x1 x2 x3 u
set_option maxRecDepth 100000 in
def b_X7_freePairs_4 (k4 : Int32 → Int32 → MU → mR) (x1 : Int32) (x2 : Int32) (u : MU) : mR := (if (u 88 5) ≤ x2 then some (x1, u) else l_X7_freePairs_14 k4 FU x1 x2 0 u)
set_option maxRecDepth 100000 in
def l_X7_freePairs_4 : Nat → Int32 → Int32 → MU → mR
  | 0, _, _, _ => none
  | n + 1, x1, x2, u => b_X7_freePairs_4 (fun x1 x2 u => l_X7_freePairs_4 n x1 x2 u) x1 x2 u
set_option maxRecDepth 100000 in
def f_X7_freePairs (u : MU) : mR := l_X7_freePairs_4 FU 0 0 u
set_option maxRecDepth 100000 in
def b_X7_isNormal_27 (k4 : Int32 → Int32 → MU → mR) (x2 : Int32) (s0 : Int32) (u : MU) : mR := k4 s0 (x2 + 1) u
set_option maxRecDepth 100000 in
def b_X7_isNormal_4 (k4 : Int32 → Int32 → MU → mR) (x1 : Int32) (x2 : Int32) (u : MU) : mR := (if (u 88 5) ≤ x2 then some (x1, u) else gd (mIx x2 16) ((if (u 101 x2.toNatClampNeg) = x2 then b_X7_isNormal_27 k4 x2 x1 u else b_X7_isNormal_27 k4 x2 0 u)))
set_option maxRecDepth 100000 in
def l_X7_isNormal_4 : Nat → Int32 → Int32 → MU → mR
  | 0, _, _, _ => none
  | n + 1, x1, x2, u => b_X7_isNormal_4 (fun x1 x2 u => l_X7_isNormal_4 n x1 x2 u) x1 x2 u
set_option maxRecDepth 100000 in
def f_X7_isNormal (u : MU) : mR := l_X7_isNormal_4 FU 1 0 u
set_option maxRecDepth 100000 in
def b_X7_layNormal_2 (k2 : Int32 → MU → mR) (x1 : Int32) (u : MU) : mR := (if (u 88 5) ≤ x1 then some (0, u) else gd (mIx x1 16) (mB (f_X7_effectOf x1 u) (fun r3 u3 => gd (mIx (u 101 x1.toNatClampNeg) 16) (mS (mup u3 102 (u 101 x1.toNatClampNeg).toNatClampNeg r3) (fun u5 => k2 (x1 + 1) u5)))))
set_option maxRecDepth 100000 in
def l_X7_layNormal_2 : Nat → Int32 → MU → mR
  | 0, _, _ => none
  | n + 1, x1, u => b_X7_layNormal_2 (fun x1 u => l_X7_layNormal_2 n x1 u) x1 u
set_option maxRecDepth 100000 in
def f_X7_layNormal (u : MU) : mR := l_X7_layNormal_2 FU 0 u
set_option maxRecDepth 100000 in
def b_X7_hold_10 (k10 : Int32 → MU → mR) (x1 : Int32) (u : MU) : mR := (if (nI 16) ≤ x1 then some (0, u) else gd (mIx x1 16) (gd (mIx x1 16) (mS (mup u 103 x1.toNatClampNeg (u 92 x1.toNatClampNeg)) (fun u4 => gd (mIx x1 16) (gd (mIx x1 16) (mS (mup u4 104 x1.toNatClampNeg (u4 93 x1.toNatClampNeg)) (fun u7 => k10 (x1 + 1) u7)))))))
set_option maxRecDepth 100000 in
def l_X7_hold_10 : Nat → Int32 → MU → mR
  | 0, _, _ => none
  | n + 1, x1, u => b_X7_hold_10 (fun x1 u => l_X7_hold_10 n x1 u) x1 u
set_option maxRecDepth 100000 in
def f_X7_hold (u : MU) : mR := mS (mup u 88 26 (u 88 5)) (fun u1 => l_X7_hold_10 FU 0 u1)
set_option maxRecDepth 100000 in
def b_X7_giveBack_10 (k10 : Int32 → MU → mR) (x1 : Int32) (u : MU) : mR := (if (nI 16) ≤ x1 then some (0, u) else gd (mIx x1 16) (gd (mIx x1 16) (mS (mup u 92 x1.toNatClampNeg (u 103 x1.toNatClampNeg)) (fun u4 => gd (mIx x1 16) (gd (mIx x1 16) (mS (mup u4 93 x1.toNatClampNeg (u4 104 x1.toNatClampNeg)) (fun u7 => k10 (x1 + 1) u7)))))))
set_option maxRecDepth 100000 in
def l_X7_giveBack_10 : Nat → Int32 → MU → mR
  | 0, _, _ => none
  | n + 1, x1, u => b_X7_giveBack_10 (fun x1 u => l_X7_giveBack_10 n x1 u) x1 u
set_option maxRecDepth 100000 in
def f_X7_giveBack (u : MU) : mR := mS (mup u 88 5 (u 88 26)) (fun u1 => l_X7_giveBack_10 FU 0 u1)
set_option maxRecDepth 100000 in
def b_X7_compared_135 (k99 : Int32 → Int32 → Int32 → MU → mR) (x1 : Int32) (x3 : Int32) (s0 : Int32) (u : MU) : mR := k99 x1 s0 (x3 + 1) u
set_option maxRecDepth 100000 in
def b_X7_compared_142 (x1 : Int32) (x2 : Int32) (u : MU) : mR := mB (f_X7_giveBack u) (fun r1 u1 => (if x1 = 0 then some ((-5), u1) else (if x2 = 0 then some (0, u1) else some (1, u1))))
set_option maxRecDepth 100000 in
def b_X7_compared_99 (k99 : Int32 → Int32 → Int32 → MU → mR) (x1 : Int32) (x2 : Int32) (x3 : Int32) (u : MU) : mR := (if (u 88 5) ≤ x3 then b_X7_compared_142 x1 x2 u else (if x2 = 0 then b_X7_compared_142 x1 x2 u else gd (mIx x3 16) (gd (mIx (u 101 x3.toNatClampNeg) 16) (mB (f_X7_effectOf x3 u) (fun r5 u5 => (if (u 102 (u 101 x3.toNatClampNeg).toNatClampNeg) = r5 then b_X7_compared_135 k99 x1 x3 1 u5 else b_X7_compared_135 k99 x1 x3 0 u5))))))
set_option maxRecDepth 100000 in
def l_X7_compared_99 : Nat → Int32 → Int32 → Int32 → MU → mR
  | 0, _, _, _, _ => none
  | n + 1, x1, x2, x3, u => b_X7_compared_99 (fun x1 x2 x3 u => l_X7_compared_99 n x1 x2 x3 u) x1 x2 x3 u
set_option maxRecDepth 100000 in
def b_X7_compared_97 (x1 : Int32) (x2 : Int32) (u : MU) : mR := l_X7_compared_99 FU x1 x2 0 u
set_option maxRecDepth 100000 in
def b_X7_compared_88 (x1 : Int32) (s0 : Int32) (u : MU) : mR := (if s0 = 0 then b_X7_compared_97 x1 s0 u else mB (f_X7_findStages u) (fun r2 u2 => b_X7_compared_97 x1 s0 u2))
set_option maxRecDepth 100000 in
def b_X7_compared_87 (x1 : Int32) (u : MU) : mR := b_X7_compared_88 x1 0 u
set_option maxRecDepth 100000 in
def b_X7_compared_21 (k21 : Int32 → MU → mR) (x1 : Int32) (u : MU) : mR := (if (nI 16) ≤ x1 then mB (f_X7_isAllKnown u) (fun r2 u2 => (if r2 = 0 then b_X7_compared_87 r2 u2 else (if (u2 88 5) = (u2 88 26) then b_X7_compared_88 r2 1 u2 else b_X7_compared_87 r2 u2))) else gd (mIx ((nI 18) + x1) 102) (gd (mIx x1 16) (mS (mup u 92 x1.toNatClampNeg (u 109 ((nI 18) + x1).toNatClampNeg)) (fun u7 => gd (mIx ((nI 34) + x1) 102) (gd (mIx x1 16) (mS (mup u7 93 x1.toNatClampNeg (u7 109 ((nI 34) + x1).toNatClampNeg)) (fun u10 => k21 (x1 + 1) u10)))))))
set_option maxRecDepth 100000 in
def l_X7_compared_21 : Nat → Int32 → MU → mR
  | 0, _, _ => none
  | n + 1, x1, u => b_X7_compared_21 (fun x1 u => l_X7_compared_21 n x1 u) x1 u
set_option maxRecDepth 100000 in
def f_X7_compared (u : MU) : mR := mB (f_X7_layNormal u) (fun r1 u1 => mB (f_X7_hold u1) (fun r2 u2 => gd (mIx (nI 50) 102) (mS (mup u2 88 5 (u2 109 (nI 50).toNatClampNeg)) (fun u4 => l_X7_compared_21 FU 0 u4))))
set_option maxRecDepth 100000 in
def b_X7_stages_33 (x1 : Int32) (u : MU) : mR := mB (f_X7_isFound u) (fun r1 u1 => (if r1 = 0 then some ((-5), u1) else (if x1 = 0 then mB (f_X7_stageMany u1) (fun r4 u4 => some (r4, u4)) else (if x1 = 1 then (if (u1 88 5) = 0 then some (0, u1) else mB (f_X7_widest u1) (fun r7 u7 => mB (f_X7_callsAt r7 u7) (fun r8 u8 => some (r8, u8)))) else (if x1 = nI 2 then mB (f_X7_widest u1) (fun r10 u10 => some (r10, u10)) else (if x1 = nI 3 then (if (u1 88 5) = 0 then some (0, u1) else mB (f_X7_stageMany u1) (fun r13 u13 => mB (f_X7_single (u1 88 5) r13 u13) (fun r14 u14 => some (r14, u14)))) else (if x1 = nI 4 then mB (f_X7_freePairs u1) (fun r16 u16 => some (r16, u16)) else (if x1 = nI 5 then mB (f_X7_isNormal u1) (fun r18 u18 => some (r18, u18)) else mB (f_X7_compared u1) (fun r19 u19 => some (r19, u19))))))))))
set_option maxRecDepth 100000 in
def f_X7_stages (x1 : Int32) (u : MU) : mR := mB (f_X7_in x1.toInt64 0 6 u) (fun r1 u1 => (if r1 = 0 then some ((-2), u1) else (if x1 = (nI 6) then gd (mIx 0 2) ((if (u1 110 ((0 : Int32)).toNatClampNeg) = 0 then some ((-3), u1) else b_X7_stages_33 x1 u1)) else b_X7_stages_33 x1 u1)))
set_option maxRecDepth 100000 in
def f_X7_push (x1 : Int32) (x2 : Int32) (u : MU) : mR := gd (mIx (u 88 30) 20) (mS (mup u 105 (u 88 30).toNatClampNeg x1) (fun u2 => gd (mIx (u2 88 30) 20) (mS (mup u2 106 (u2 88 30).toNatClampNeg 0) (fun u4 => gd (mIx (u4 88 30) 20) (mS (mup u4 107 (u4 88 30).toNatClampNeg x2) (fun u6 => mS (mup u6 88 30 ((u6 88 30) + 1)) (fun u7 => some (0, u7))))))))
set_option maxRecDepth 100000 in
def b_X7_isThrowing_77 (s2 : Int32) (s1 : Int32) (u : MU) : mR := gd (mIx s1 18) (mS (mup u 99 s1.toNatClampNeg s2) (fun u2 => some (0, u2)))
set_option maxRecDepth 100000 in
def b_X7_isThrowing_53 (s1 : Int32) (u : MU) : mR := b_X7_isThrowing_77 (u 88 8) s1 u
set_option maxRecDepth 100000 in
def f_X7_isThrowing (u : MU) : mR := (if (u 88 10) = (nI 63) then gd (mIx (u 88 11) 18) ((if (u 99 (u 88 11).toNatClampNeg) = 0 then some (1, u) else some (0, u))) else (if (u 88 10) = (nI 61) then b_X7_isThrowing_53 (u 88 11) u else (if (u 88 10) = (nI 35) then b_X7_isThrowing_53 (u 88 11) u else gd (mIx (u 88 11) 18) (b_X7_isThrowing_77 (irm ((u 99 (u 88 11).toNatClampNeg) + (u 88 8)) (nI 100)) (u 88 11) u))))
set_option maxRecDepth 100000 in
def b_X7_doCall_178 (k26 : MU → mR) (u : MU) : mR := k26 u
set_option maxRecDepth 100000 in
def b_X7_doCall_145 (k26 : MU → mR) (u : MU) : mR := (if (u 88 10) = (nI 99) then mB (f_X7_push (u 88 12) (u 88 13) u) (fun r4 u4 => b_X7_doCall_178 k26 u4) else mB (f_X7_isThrowing u) (fun r2 u2 => (if r2 = 0 then b_X7_doCall_178 k26 u2 else some (1, u2))))
set_option maxRecDepth 100000 in
def b_X7_doCall_26 (k26 : MU → mR) (u : MU) : mR := (if (u 88 30) ≤ 0 then some (0, u) else gd (mIx ((u 88 30) - 1) 20) (mS (mup u 88 7 (u 105 ((u 88 30) - 1).toNatClampNeg)) (fun u3 => gd (mIx ((u 88 30) - 1) 20) (mS (mup u3 88 6 (u3 106 ((u 88 30) - 1).toNatClampNeg)) (fun u5 => mB (f_X7_isMore u5) (fun r6 u6 => (if r6 = 0 then mS (mup u6 88 30 ((u6 88 30) - 1)) (fun u17 => b_X7_doCall_178 k26 u17) else gd (mIx ((u 88 30) - 1) 20) (mB (f_X7_statement (u6 107 ((u 88 30) - 1).toNatClampNeg) u6) (fun r9 u9 => gd (mIx ((u 88 30) - 1) 20) (mS (mup u9 106 ((u 88 30) - 1).toNatClampNeg (u9 88 6)) (fun u11 => mS (mup u11 88 31 ((u11 88 31) + 1)) (fun u12 => (if r9 = 0 then some (nI 2, u12) else (if (nI 200) < (u12 88 31) then some (nI 2, u12) else (if (u12 88 10) = (nI 99) then (if (u12 88 30) = (nI 20) then some (nI 2, u12) else b_X7_doCall_145 k26 u12) else b_X7_doCall_145 k26 u12)))))))))))))))
set_option maxRecDepth 100000 in
def l_X7_doCall_26 : Nat → MU → mR
  | 0, _ => none
  | n + 1, u => b_X7_doCall_26 (fun u => l_X7_doCall_26 n u) u
set_option maxRecDepth 100000 in
def f_X7_doCall (x1 : Int32) (u : MU) : mR := mS (mup u 88 30 0) (fun u1 => mS (mup u1 88 31 0) (fun u2 => gd (mIx x1 16) (gd (mIx x1 16) (mB (f_X7_push (u2 92 x1.toNatClampNeg) (u2 93 x1.toNatClampNeg) u2) (fun r5 u5 => l_X7_doCall_26 FU u5)))))
set_option maxRecDepth 100000 in
def b_X7_kth_129 (k2 : Int32 → MU → mR) (k16 : Int32 → Int32 → Int32 → MU → mR) (x1 : Int32) (x2 : Int32) (x3 : Int32) (x5 : Int32) (s1 : Int32) (s0 : Int32) (u : MU) : mR := k16 x3 (s0 + s1) (x5 + 1) u
set_option maxRecDepth 100000 in
def b_X7_kth_68 (k2 : Int32 → MU → mR) (k16 : Int32 → Int32 → Int32 → MU → mR) (x1 : Int32) (x2 : Int32) (x3 : Int32) (x4 : Int32) (x5 : Int32) (s0 : Int32) (u : MU) : mR := (if x1 = 0 then (if x3 ≤ x5 then b_X7_kth_129 k2 k16 x1 x2 x3 x5 0 x4 u else b_X7_kth_129 k2 k16 x1 x2 x3 x5 1 x4 u) else (if x1 = 1 then (if s0 = 0 then b_X7_kth_129 k2 k16 x1 x2 x3 x5 0 x4 u else b_X7_kth_129 k2 k16 x1 x2 x3 x5 1 x4 u) else gd (mIx x5 16) (gd (mIx x3 16) ((if (u 101 x3.toNatClampNeg) ≤ (u 101 x5.toNatClampNeg) then b_X7_kth_129 k2 k16 x1 x2 x3 x5 0 x4 u else b_X7_kth_129 k2 k16 x1 x2 x3 x5 1 x4 u)))))
set_option maxRecDepth 100000 in
def b_X7_kth_63 (k2 : Int32 → MU → mR) (k16 : Int32 → Int32 → Int32 → MU → mR) (x1 : Int32) (x2 : Int32) (x3 : Int32) (x4 : Int32) (x5 : Int32) (u : MU) : mR := b_X7_kth_68 k2 k16 x1 x2 x3 x4 x5 1 u
set_option maxRecDepth 100000 in
def b_X7_kth_67 (k2 : Int32 → MU → mR) (k16 : Int32 → Int32 → Int32 → MU → mR) (x1 : Int32) (x2 : Int32) (x3 : Int32) (x4 : Int32) (x5 : Int32) (u : MU) : mR := b_X7_kth_68 k2 k16 x1 x2 x3 x4 x5 0 u
set_option maxRecDepth 100000 in
def b_X7_kth_16 (k2 : Int32 → MU → mR) (k16 : Int32 → Int32 → Int32 → MU → mR) (x1 : Int32) (x2 : Int32) (x3 : Int32) (x4 : Int32) (x5 : Int32) (u : MU) : mR := (if (u 88 5) ≤ x5 then (if x4 = x2 then some (x3, u) else k2 (x3 + 1) u) else gd (mIx x5 16) (gd (mIx x3 16) ((if (u 100 x5.toNatClampNeg) < (u 100 x3.toNatClampNeg) then b_X7_kth_63 k2 k16 x1 x2 x3 x4 x5 u else gd (mIx x5 16) (gd (mIx x3 16) ((if (u 100 x5.toNatClampNeg) = (u 100 x3.toNatClampNeg) then (if x5 ≤ x3 then b_X7_kth_67 k2 k16 x1 x2 x3 x4 x5 u else b_X7_kth_63 k2 k16 x1 x2 x3 x4 x5 u) else b_X7_kth_67 k2 k16 x1 x2 x3 x4 x5 u)))))))
set_option maxRecDepth 100000 in
def l_X7_kth_16 (k2 : Int32 → MU → mR) (x1 : Int32) (x2 : Int32) : Nat → Int32 → Int32 → Int32 → MU → mR
  | 0, _, _, _, _ => none
  | n + 1, x3, x4, x5, u => b_X7_kth_16 k2 (fun x3 x4 x5 u => l_X7_kth_16 k2 x1 x2 n x3 x4 x5 u) x1 x2 x3 x4 x5 u
set_option maxRecDepth 100000 in
def b_X7_kth_2 (k2 : Int32 → MU → mR) (x1 : Int32) (x2 : Int32) (x3 : Int32) (u : MU) : mR := (if (u 88 5) ≤ x3 then some ((-6), u) else l_X7_kth_16 k2 x1 x2 FU x3 0 0 u)
set_option maxRecDepth 100000 in
def l_X7_kth_2 (x1 : Int32) (x2 : Int32) : Nat → Int32 → MU → mR
  | 0, _, _ => none
  | n + 1, x3, u => b_X7_kth_2 (fun x3 u => l_X7_kth_2 x1 x2 n x3 u) x1 x2 x3 u
set_option maxRecDepth 100000 in
def f_X7_kth (x1 : Int32) (x2 : Int32) (u : MU) : mR := l_X7_kth_2 x1 x2 FU 0 u
set_option maxRecDepth 100000 in
def b_X7_isRun_116 (k47 : Int32 → MU → mR) (x1 : Int32) (x2 : Int32) (u : MU) : mR := k47 (x2 + 1) u
set_option maxRecDepth 100000 in
def b_X7_isRun_47 (k47 : Int32 → MU → mR) (x1 : Int32) (x2 : Int32) (u : MU) : mR := (if (u 88 5) ≤ x2 then some (1, u) else mB (f_X7_kth x1 x2 u) (fun r2 u2 => mB (f_X7_doCall r2 u2) (fun r3 u3 => (if r3 = (nI 2) then some (0, u3) else mS (mup u3 88 34 ((u3 88 34) + (u3 88 31))) (fun u5 => (if r3 = 1 then gd (mIx (u5 88 33) 16) (mS (mup u5 108 (u5 88 33).toNatClampNeg r2) (fun u8 => mS (mup u8 88 33 ((u8 88 33) + 1)) (fun u9 => b_X7_isRun_116 k47 x1 x2 u9))) else b_X7_isRun_116 k47 x1 x2 u5))))))
set_option maxRecDepth 100000 in
def l_X7_isRun_47 (x1 : Int32) : Nat → Int32 → MU → mR
  | 0, _, _ => none
  | n + 1, x2, u => b_X7_isRun_47 (fun x2 u => l_X7_isRun_47 x1 n x2 u) x1 x2 u
set_option maxRecDepth 100000 in
def b_X7_isRun_11 (k11 : Int32 → MU → mR) (x1 : Int32) (x2 : Int32) (u : MU) : mR := (if (nI 18) ≤ x2 then mS (mup u 88 33 0) (fun u2 => mS (mup u2 88 34 0) (fun u3 => l_X7_isRun_47 x1 FU 0 u3)) else gd (mIx x2 18) (gd (mIx x2 18) (mS (mup u 99 x2.toNatClampNeg (u 91 x2.toNatClampNeg)) (fun u6 => k11 (x2 + 1) u6))))
set_option maxRecDepth 100000 in
def l_X7_isRun_11 (x1 : Int32) : Nat → Int32 → MU → mR
  | 0, _, _ => none
  | n + 1, x2, u => b_X7_isRun_11 (fun x2 u => l_X7_isRun_11 x1 n x2 u) x1 x2 u
set_option maxRecDepth 100000 in
def f_X7_isRun (x1 : Int32) (u : MU) : mR := mB (f_X7_isFound u) (fun r1 u1 => (if r1 = 0 then some (0, u1) else l_X7_isRun_11 x1 FU 0 u1))
set_option maxRecDepth 100000 in
def f_X7_run (x1 : Int32) (x2 : Int32) (u : MU) : mR := mB (f_X7_in x1.toInt64 0 2 u) (fun r1 u1 => (if r1 = 0 then some ((-2), u1) else mB (f_X7_in x2.toInt64 0 19 u1) (fun r3 u3 => (if r3 = 0 then some ((-2), u3) else mB (f_X7_isRun x1 u3) (fun r5 u5 => (if r5 = 0 then some ((-3), u5) else (if (nI 18) ≤ x2 then (if x2 = (nI 18) then some (u5 88 33, u5) else some (u5 88 34, u5)) else gd (mIx x2 18) (some (u5 99 x2.toNatClampNeg, u5)))))))))
set_option maxRecDepth 100000 in
def f_X7_thrower (x1 : Int32) (x2 : Int32) (u : MU) : mR := mB (f_X7_in x1.toInt64 0 2 u) (fun r1 u1 => (if r1 = 0 then some ((-2), u1) else mB (f_X7_isRun x1 u1) (fun r3 u3 => (if r3 = 0 then some ((-3), u3) else mB (f_X7_in x2.toInt64 0 (((u3 88 33) - 1).toInt64) u3) (fun r5 u5 => (if r5 = 0 then some ((-6), u5) else gd (mIx x2 16) (some (u5 108 x2.toNatClampNeg, u5))))))))
set_option maxRecDepth 100000 in
def b_X7_commit_13 (k13 : Int32 → MU → mR) (x1 : Int32) (u : MU) : mR := (if (nI 18) ≤ x1 then mS (mup u 88 5 0) (fun u2 => some (u2 88 33, u2)) else gd (mIx x1 18) (gd (mIx x1 18) (mS (mup u 91 x1.toNatClampNeg (u 99 x1.toNatClampNeg)) (fun u5 => k13 (x1 + 1) u5))))
set_option maxRecDepth 100000 in
def l_X7_commit_13 : Nat → Int32 → MU → mR
  | 0, _, _ => none
  | n + 1, x1, u => b_X7_commit_13 (fun x1 u => l_X7_commit_13 n x1 u) x1 u
set_option maxRecDepth 100000 in
def f_X7_commit (u : MU) : mR := mB (f_X7_isRun 0 u) (fun r1 u1 => (if r1 = 0 then some ((-3), u1) else l_X7_commit_13 FU 0 u1))
set_option maxRecDepth 100000 in
def b_X7_passRow_31 (k2 : Int32 → MU → mR) (q1 : Nat) (x2 : Int32) (x3 : Int32) (s2 : Int32) (s1 : Int32) (u : MU) : mR := gd (mIx s1 (mLen q1)) (mS (mup u q1 s1.toNatClampNeg s2) (fun u2 => gd (mIx x3 (mLen q1)) (gd (mIx (u2 88 37) 102) (mS (mup u2 109 (u2 88 37).toNatClampNeg (u2 q1 x3.toNatClampNeg)) (fun u5 => mS (mup u5 88 37 ((u5 88 37) + 1)) (fun u6 => k2 (x3 + 1) u6))))))
set_option maxRecDepth 100000 in
def b_X7_passRow_2 (k2 : Int32 → MU → mR) (q1 : Nat) (x2 : Int32) (x3 : Int32) (u : MU) : mR := (if x2 ≤ x3 then some (0, u) else (if (u 88 38) = 0 then gd (mIx (u 88 37) 102) (b_X7_passRow_31 k2 q1 x2 x3 (u 109 (u 88 37).toNatClampNeg) x3 u) else gd (mIx x3 (mLen q1)) (b_X7_passRow_31 k2 q1 x2 x3 (u q1 x3.toNatClampNeg) x3 u)))
set_option maxRecDepth 100000 in
def l_X7_passRow_2 (q1 : Nat) (x2 : Int32) : Nat → Int32 → MU → mR
  | 0, _, _ => none
  | n + 1, x3, u => b_X7_passRow_2 (fun x3 u => l_X7_passRow_2 q1 x2 n x3 u) q1 x2 x3 u
set_option maxRecDepth 100000 in
def f_X7_passRow (q1 : Nat) (x2 : Int32) (u : MU) : mR := l_X7_passRow_2 q1 x2 FU 0 u
set_option maxRecDepth 100000 in
def b_X7_passAll_54 (s1 : Int32) (u : MU) : mR := mS (mup u 88 5 s1) (fun u1 => gd (mIx (u1 88 37) 102) (mS (mup u1 109 (u1 88 37).toNatClampNeg (u1 88 5)) (fun u3 => some (0, u3))))
set_option maxRecDepth 100000 in
def f_X7_passAll (u : MU) : mR := mB (f_X7_passRow 91 (nI 18) u) (fun r1 u1 => mB (f_X7_passRow 92 (nI 16) u1) (fun r2 u2 => mB (f_X7_passRow 93 (nI 16) u2) (fun r3 u3 => (if (u3 88 38) = 0 then gd (mIx (u3 88 37) 102) (b_X7_passAll_54 (u3 109 (u3 88 37).toNatClampNeg) u3) else b_X7_passAll_54 (u3 88 5) u3))))
set_option maxRecDepth 100000 in
def f_X7_image (x1 : Int32) (u : MU) : mR := mB (f_X7_in x1.toInt64 0 1 u) (fun r1 u1 => (if r1 = 0 then some ((-2), u1) else mS (mup u1 88 37 ((nI 51) * x1)) (fun u3 => mS (mup u3 88 38 1) (fun u4 => mB (f_X7_passAll u4) (fun r5 u5 => gd (mIx x1 2) (mS (mup u5 110 x1.toNatClampNeg 1) (fun u7 => some (1, u7))))))))
set_option maxRecDepth 100000 in
def f_X7_restore (x1 : Int32) (u : MU) : mR := mB (f_X7_in x1.toInt64 0 1 u) (fun r1 u1 => (if r1 = 0 then some ((-2), u1) else gd (mIx x1 2) ((if (u1 110 x1.toNatClampNeg) = 0 then some ((-3), u1) else mS (mup u1 88 37 ((nI 51) * x1)) (fun u5 => mS (mup u5 88 38 0) (fun u6 => mB (f_X7_passAll u6) (fun r7 u7 => some (1, u7))))))))
set_option maxRecDepth 100000 in
def b_X7_statementsOf_7 (k7 : Int32 → MU → mR) (x2 : Int32) (u : MU) : mR := mB (f_X7_isMore u) (fun r1 u1 => (if r1 = 0 then some (x2, u1) else mB (f_X7_statement 0 u1) (fun r3 u3 => (if r3 = 0 then some ((-6), u3) else k7 (x2 + 1) u3))))
set_option maxRecDepth 100000 in
def l_X7_statementsOf_7 : Nat → Int32 → MU → mR
  | 0, _, _ => none
  | n + 1, x2, u => b_X7_statementsOf_7 (fun x2 u => l_X7_statementsOf_7 n x2 u) x2 u
set_option maxRecDepth 100000 in
def f_X7_statementsOf (x1 : Int32) (u : MU) : mR := mB (f_X7_begin x1 u) (fun r1 u1 => l_X7_statementsOf_7 FU 0 u1)
set_option maxRecDepth 100000 in
def f_X7_count (x1 : Int32) (u : MU) : mR := (if x1 = 0 then some (u 88 5, u) else mB (f_X7_in x1.toInt64 10 35 u) (fun r2 u2 => (if r2 = 0 then some ((-2), u2) else mB (f_X7_isRoutine (irm x1 (nI 10)) u2) (fun r4 u4 => (if r4 = 0 then some ((-2), u4) else (if (nI 20) ≤ x1 then (if (nI 30) ≤ x1 then mB (f_X7_faultOf (irm x1 (nI 10)) u4) (fun r8 u8 => (if 0 ≤ r8 then some ((-6), u8) else mB (f_X7_callsOf (irm x1 (nI 10)) u8) (fun r10 u10 => some (r10, u10)))) else mB (f_X7_statementsOf (irm x1 (nI 10)) u4) (fun r11 u11 => some (r11, u11))) else gd (mIx (irm x1 (nI 10)) 6) (some (u4 90 (irm x1 (nI 10)).toNatClampNeg, u4))))))))
