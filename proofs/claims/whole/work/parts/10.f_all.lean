set_option maxRecDepth 100000 in
def f_X0_forget (u : MU) : mR := mS (mup u 2 5 0) (fun u1 => some (0, u1))
set_option maxRecDepth 100000 in
def b_X5_calleeBits_33 (k4 : Int32 → Int32 → MU → mR) (q0 : Nat) (x1 : Int32) (x2 : Int32) (u : MU) : mR := k4 x1 (x2 + 1) u
set_option maxRecDepth 100000 in
def b_X5_calleeBits_4 (k4 : Int32 → Int32 → MU → mR) (q0 : Nat) (x1 : Int32) (x2 : Int32) (u : MU) : mR := (if (u q0 7) ≤ x2 then some (x1, u) else gd (mIx x2 15) ((if (u (q0 + 2) x2.toNatClampNeg) = 3 then gd (mIx x2 15) (b_X5_calleeBits_33 k4 q0 (x1 ||| (1 <<< ((u (q0 + 4) x2.toNatClampNeg) &&& 31))) x2 u) else b_X5_calleeBits_33 k4 q0 x1 x2 u)))
set_option maxRecDepth 100000 in
def l_X5_calleeBits_4 (q0 : Nat) : Nat → Int32 → Int32 → MU → mR
  | 0, _, _, _ => none
  | n + 1, x1, x2, u => b_X5_calleeBits_4 (fun x1 x2 u => l_X5_calleeBits_4 q0 n x1 x2 u) q0 x1 x2 u
set_option maxRecDepth 100000 in
def f_X5_calleeBits (q0 : Nat) (u : MU) : mR := l_X5_calleeBits_4 q0 FU 0 0 u
set_option maxRecDepth 100000 in
def b_X0_knowsBits_28 (k2 : Int32 → MU → mR) (x1 : Int32) (x2 : Int32) (u : MU) : mR := k2 (x2 + 1) u
set_option maxRecDepth 100000 in
def b_X0_knowsBits_2 (k2 : Int32 → MU → mR) (x1 : Int32) (x2 : Int32) (u : MU) : mR := (if 6 ≤ x2 then some (1, u) else (if ((x1 >>> (x2 &&& 31)) &&& 1) = 1 then gd (mIx x2 6) ((if (u 7 x2.toNatClampNeg) = 0 then some (0, u) else b_X0_knowsBits_28 k2 x1 x2 u)) else b_X0_knowsBits_28 k2 x1 x2 u))
set_option maxRecDepth 100000 in
def l_X0_knowsBits_2 (x1 : Int32) : Nat → Int32 → MU → mR
  | 0, _, _ => none
  | n + 1, x2, u => b_X0_knowsBits_2 (fun x2 u => l_X0_knowsBits_2 x1 n x2 u) x1 x2 u
set_option maxRecDepth 100000 in
def f_X0_knowsBits (x1 : Int32) (u : MU) : mR := l_X0_knowsBits_2 x1 FU 0 u
set_option maxRecDepth 100000 in
def b_X0_findKnown_29 (k2 : Int32 → MU → mR) (x2 : Int32) (s2 : Int32) (s1 : Int32) (u : MU) : mR := gd (mZ s2) (gd (mIx s1 6) (mS (mup u 7 s1.toNatClampNeg s2) (fun u3 => k2 (x2 + 1) u3)))
set_option maxRecDepth 100000 in
def b_X0_findKnown_84 (k38 : Int32 → MU → mR) (k46 : Int32 → Int32 → MU → mR) (x2 : Int32) (x3 : Int32) (s2 : Int32) (s1 : Int32) (u : MU) : mR := gd (mZ s2) (gd (mIx s1 6) (mS (mup u 7 s1.toNatClampNeg s2) (fun u3 => k46 x2 (x3 + 1) u3)))
set_option maxRecDepth 100000 in
def b_X0_findKnown_83 (k38 : Int32 → MU → mR) (k46 : Int32 → Int32 → MU → mR) (x2 : Int32) (x3 : Int32) (s1 : Int32) (u : MU) : mR := b_X0_findKnown_84 k38 k46 x2 x3 0 s1 u
set_option maxRecDepth 100000 in
def b_X0_findKnown_46 (k38 : Int32 → MU → mR) (k46 : Int32 → Int32 → MU → mR) (x2 : Int32) (x3 : Int32) (u : MU) : mR := (if 6 ≤ x3 then k38 (x2 + 1) u else gd (mIx x3 6) ((if (u 7 x3.toNatClampNeg) = 0 then b_X0_findKnown_83 k38 k46 x2 x3 x3 u else gd (mIx x3 6) (mB (f_X5_calleeBits (rtn x3) u) (fun r5 u5 => mB (f_X0_knowsBits r5 u5) (fun r6 u6 => (if r6 = 0 then b_X0_findKnown_83 k38 k46 x2 x3 x3 u6 else b_X0_findKnown_84 k38 k46 x2 x3 1 x3 u6)))))))
set_option maxRecDepth 100000 in
def l_X0_findKnown_46 (k38 : Int32 → MU → mR) : Nat → Int32 → Int32 → MU → mR
  | 0, _, _, _ => none
  | n + 1, x2, x3, u => b_X0_findKnown_46 k38 (fun x2 x3 u => l_X0_findKnown_46 k38 n x2 x3 u) x2 x3 u
set_option maxRecDepth 100000 in
def b_X0_findKnown_38 (k38 : Int32 → MU → mR) (x2 : Int32) (u : MU) : mR := (if 6 ≤ x2 then some (0, u) else l_X0_findKnown_46 k38 FU x2 0 u)
set_option maxRecDepth 100000 in
def l_X0_findKnown_38 : Nat → Int32 → MU → mR
  | 0, _, _ => none
  | n + 1, x2, u => b_X0_findKnown_38 (fun x2 u => l_X0_findKnown_38 n x2 u) x2 u
set_option maxRecDepth 100000 in
def b_X0_findKnown_2 (k2 : Int32 → MU → mR) (x2 : Int32) (u : MU) : mR := (if 6 ≤ x2 then l_X0_findKnown_38 FU 0 u else gd (mIx x2 6) ((if (u (rtn x2) 2) = ((-6)) then b_X0_findKnown_29 k2 x2 1 x2 u else b_X0_findKnown_29 k2 x2 0 x2 u)))
set_option maxRecDepth 100000 in
def l_X0_findKnown_2 : Nat → Int32 → MU → mR
  | 0, _, _ => none
  | n + 1, x2, u => b_X0_findKnown_2 (fun x2 u => l_X0_findKnown_2 n x2 u) x2 u
set_option maxRecDepth 100000 in
def f_X0_findKnown (u : MU) : mR := l_X0_findKnown_2 FU 0 u
set_option maxRecDepth 100000 in
def f_X6_placeOf (x0 : Int32) (x1 : Int32) (u : MU) : mR := (if 18 ≤ x0 then some (6 + (irm ((x0 - 18) + x1) 12), u) else some (x0, u))
set_option maxRecDepth 100000 in
def b_X0_startWithOwn_165 (k53 : Int32 → Int32 → MU → mR) (q1 : Nat) (x3 : Int32) (x4 : Int32) (x5 : Int32) (u : MU) : mR := k53 x4 (x5 + 1) u
set_option maxRecDepth 100000 in
def b_X0_startWithOwn_217 (k174 : Int32 → Int32 → MU → mR) (q1 : Nat) (x3 : Int32) (x4 : Int32) (x5 : Int32) (u : MU) : mR := k174 x4 (x5 + 1) u
set_option maxRecDepth 100000 in
def b_X0_startWithOwn_174 (k174 : Int32 → Int32 → MU → mR) (q1 : Nat) (x3 : Int32) (x4 : Int32) (x5 : Int32) (u : MU) : mR := (if (u q1 10) ≤ x5 then some (0, u) else gd (mIx x5 30) ((if (u (q1 + 6) x5.toNatClampNeg) = 2 then gd (mIx x4 72) (gd (mIx x5 30) (mB (f_X6_placeOf (u (q1 + 7) x5.toNatClampNeg) x3 u) (fun r6 u6 => gd (mIx x4 72) (mS (mup u6 3 x4.toNatClampNeg ((u 3 x4.toNatClampNeg) ||| (1 <<< (r6 &&& 31)))) (fun u8 => b_X0_startWithOwn_217 k174 q1 x3 x4 x5 u8))))) else b_X0_startWithOwn_217 k174 q1 x3 x4 x5 u)))
set_option maxRecDepth 100000 in
def l_X0_startWithOwn_174 (q1 : Nat) (x3 : Int32) : Nat → Int32 → Int32 → MU → mR
  | 0, _, _, _ => none
  | n + 1, x4, x5, u => b_X0_startWithOwn_174 (fun x4 x5 u => l_X0_startWithOwn_174 q1 x3 n x4 x5 u) q1 x3 x4 x5 u
set_option maxRecDepth 100000 in
def b_X0_startWithOwn_53 (k53 : Int32 → Int32 → MU → mR) (q1 : Nat) (x3 : Int32) (x4 : Int32) (x5 : Int32) (u : MU) : mR := (if (u q1 7) ≤ x5 then l_X0_startWithOwn_174 q1 x3 FU x4 0 u else gd (mIx x5 15) (mB (f_X6_placeOf (u (q1 + 3) x5.toNatClampNeg) x3 u) (fun r3 u3 => gd (mIx x5 15) ((if (u3 (q1 + 2) x5.toNatClampNeg) = 0 then gd (mIx x4 72) (gd (mIx x4 72) (mS (mup u3 4 x4.toNatClampNeg ((u3 4 x4.toNatClampNeg) ||| (1 <<< (r3 &&& 31)))) (fun u8 => b_X0_startWithOwn_165 k53 q1 x3 x4 x5 u8))) else (if (u3 (q1 + 2) x5.toNatClampNeg) = 1 then gd (mIx x4 72) (gd (mIx x4 72) (mS (mup u3 5 x4.toNatClampNeg ((u3 5 x4.toNatClampNeg) ||| (1 <<< (r3 &&& 31)))) (fun u12 => b_X0_startWithOwn_165 k53 q1 x3 x4 x5 u12))) else (if (u3 (q1 + 2) x5.toNatClampNeg) = 2 then gd (mIx x4 72) (gd (mIx x4 72) (mS (mup u3 3 x4.toNatClampNeg ((u3 3 x4.toNatClampNeg) ||| (1 <<< (r3 &&& 31)))) (fun u16 => gd (mIx x4 72) (mS (mup u16 6 x4.toNatClampNeg 1) (fun u18 => b_X0_startWithOwn_165 k53 q1 x3 x4 x5 u18))))) else b_X0_startWithOwn_165 k53 q1 x3 x4 x5 u3)))))))
set_option maxRecDepth 100000 in
def l_X0_startWithOwn_53 (q1 : Nat) (x3 : Int32) : Nat → Int32 → Int32 → MU → mR
  | 0, _, _, _ => none
  | n + 1, x4, x5, u => b_X0_startWithOwn_53 (fun x4 x5 u => l_X0_startWithOwn_53 q1 x3 n x4 x5 u) q1 x3 x4 x5 u
set_option maxRecDepth 100000 in
def f_X0_startWithOwn (q1 : Nat) (x2 : Int32) (x3 : Int32) (u : MU) : mR := gd (mIx ((x2 * 12) + x3) 72) (mS (mup u 3 ((x2 * 12) + x3).toNatClampNeg 0) (fun u2 => gd (mIx ((x2 * 12) + x3) 72) (mS (mup u2 4 ((x2 * 12) + x3).toNatClampNeg 0) (fun u4 => gd (mIx ((x2 * 12) + x3) 72) (mS (mup u4 5 ((x2 * 12) + x3).toNatClampNeg 0) (fun u6 => gd (mIx ((x2 * 12) + x3) 72) (mS (mup u6 6 ((x2 * 12) + x3).toNatClampNeg 0) (fun u8 => gd (mIx x2 6) ((if (u8 7 x2.toNatClampNeg) = 0 then some (0, u8) else l_X0_startWithOwn_53 q1 x3 FU ((x2 * 12) + x3) 0 u8))))))))))
set_option maxRecDepth 100000 in
def f_X0_take (x1 : Int32) (x2 : Int32) (u : MU) : mR := gd (mIx x2 72) (gd (mIx x1 72) (gd (mIx x2 72) (gd (mIx x1 72) (gd (mIx x2 72) (gd (mIx x1 72) (gd (mIx x2 72) (gd (mIx x1 72) (gd (mIx x1 72) (gd (mIx x2 72) (gd (mIx x1 72) (mS (mup u 3 x1.toNatClampNeg ((u 3 x1.toNatClampNeg) ||| (u 3 x2.toNatClampNeg))) (fun u12 => gd (mIx x1 72) (gd (mIx x2 72) (gd (mIx x1 72) (mS (mup u12 4 x1.toNatClampNeg ((u12 4 x1.toNatClampNeg) ||| (u12 4 x2.toNatClampNeg))) (fun u16 => gd (mIx x1 72) (gd (mIx x2 72) (gd (mIx x1 72) (mS (mup u16 5 x1.toNatClampNeg ((u16 5 x1.toNatClampNeg) ||| (u16 5 x2.toNatClampNeg))) (fun u20 => gd (mIx x1 72) (gd (mIx x2 72) (gd (mIx x1 72) (mS (mup u20 6 x1.toNatClampNeg ((u20 6 x1.toNatClampNeg) ||| (u20 6 x2.toNatClampNeg))) (fun u24 => (if (((((u 3 x2.toNatClampNeg) &&& ((u 3 x1.toNatClampNeg) ^^^ ((-1)))) ||| ((u 4 x2.toNatClampNeg) &&& ((u 4 x1.toNatClampNeg) ^^^ ((-1))))) ||| ((u 5 x2.toNatClampNeg) &&& ((u 5 x1.toNatClampNeg) ^^^ ((-1))))) ||| ((u 6 x2.toNatClampNeg) &&& ((u 6 x1.toNatClampNeg) ^^^ ((-1))))) = 0 then some (0, u24) else some (1, u24))))))))))))))))))))))))))
set_option maxRecDepth 100000 in
def b_X0_takeFromCallees_75 (k6 : Int32 → Int32 → MU → mR) (q1 : Nat) (x2 : Int32) (x3 : Int32) (x4 : Int32) (x5 : Int32) (u : MU) : mR := k6 x4 (x5 + 1) u
set_option maxRecDepth 100000 in
def b_X0_takeFromCallees_73 (k6 : Int32 → Int32 → MU → mR) (q1 : Nat) (x2 : Int32) (x3 : Int32) (x5 : Int32) (s0 : Int32) (u : MU) : mR := b_X0_takeFromCallees_75 k6 q1 x2 x3 s0 x5 u
set_option maxRecDepth 100000 in
def b_X0_takeFromCallees_68 (k6 : Int32 → Int32 → MU → mR) (q1 : Nat) (x2 : Int32) (x3 : Int32) (x5 : Int32) (u : MU) : mR := b_X0_takeFromCallees_73 k6 q1 x2 x3 x5 1 u
set_option maxRecDepth 100000 in
def b_X0_takeFromCallees_6 (k6 : Int32 → Int32 → MU → mR) (q1 : Nat) (x2 : Int32) (x3 : Int32) (x4 : Int32) (x5 : Int32) (u : MU) : mR := (if (u q1 7) ≤ x5 then gd (mZ x4) (some (x4, u)) else gd (mIx x5 15) ((if (u (q1 + 2) x5.toNatClampNeg) = 3 then gd (mIx x5 15) (mB (f_X6_placeOf (u (q1 + 3) x5.toNatClampNeg) x3 u) (fun r6 u6 => gd (mIx x5 15) (mB (f_X0_take x2 (((u6 (q1 + 4) x5.toNatClampNeg) * 12) + (r6 - 6)) u6) (fun r8 u8 => (if r8 = 0 then (if x4 = 0 then b_X0_takeFromCallees_73 k6 q1 x2 x3 x5 0 u8 else b_X0_takeFromCallees_68 k6 q1 x2 x3 x5 u8) else b_X0_takeFromCallees_68 k6 q1 x2 x3 x5 u8))))) else b_X0_takeFromCallees_75 k6 q1 x2 x3 x4 x5 u)))
set_option maxRecDepth 100000 in
def l_X0_takeFromCallees_6 (q1 : Nat) (x2 : Int32) (x3 : Int32) : Nat → Int32 → Int32 → MU → mR
  | 0, _, _, _ => none
  | n + 1, x4, x5, u => b_X0_takeFromCallees_6 (fun x4 x5 u => l_X0_takeFromCallees_6 q1 x2 x3 n x4 x5 u) q1 x2 x3 x4 x5 u
set_option maxRecDepth 100000 in
def f_X0_takeFromCallees (q1 : Nat) (x2 : Int32) (x3 : Int32) (u : MU) : mR := l_X0_takeFromCallees_6 q1 x2 x3 FU 0 0 u
