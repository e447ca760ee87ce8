/-! the law: steps over its script, its eighteen calls -/
def mScr (C : mCtx) (b Ln : Nat) (xs : Nat → Int32) : Prop := match C with
  | (_, _, _, _, s, _, _, _, _, _, _, _, _, _, _, _, _, A) => va_X b Ln xs s s.heap ∧ b < s.heap.size ∧ ¬ A b
abbrev lawL (C : mCtx) (b j : Nat) : List (Option Value) := [some (.ref b), some (.ref (cS C 0)), some (.ref (cS C 88)), some (.int (nI j))]
section zlaw
variable {C : mCtx} {cc : ByteArray} {own : String} {nL fr lo : Nat} {u : MU} {pc b Ln : Nat} {xs : Nat → Int32} {L : List (Option Value)} {st : List Value}
theorem y_aloadv (hC : mOK cc own nL fr lo C) {k : Fin 4} {i a : Nat} (hd : decode cc pc = .ok (.aload_n k, 1)) (hi : (k : Nat) = i) (hl : L[i]? = some (some (.ref a))) (kk : wat C u (pc + 1) L (.ref a :: st)) : wat C u pc L st := by
  obtain ⟨p, l, e, R, s, m, args, below, meth, c, Q, dC, dI, dA, as, nc, ns, A⟩ := C
  obtain ⟨hx, hb, hml, hown, hts, hK, hD, hA, hnc, hns, hfr, hlo⟩ := hC
  intro H locs ls hP hS hL
  exact lv_aload_n hx hb hd hi (hL.2.2 _ _ hl) (kk H locs ls hP hS hL)
theorem y_sld (hC : mOK cc own nL fr lo C) (hX : mScr C b Ln xs) (hLn : Ln ≤ 2560) {j : Nat} (hj : j < Ln) (hd : decode cc pc = .ok (.iaload, 1)) (kk : wat C u (pc + 1) L (.int (xs j) :: st)) : wat C u pc L (.int (nI j) :: .ref b :: st) := by
  obtain ⟨p, l, e, R, s, m, args, below, meth, c, Q, dC, dI, dA, as, nc, ns, A⟩ := C
  obtain ⟨hx, hb, hml, hown, hts, hK, hD, hA, hnc, hns, hfr, hlo⟩ := hC
  obtain ⟨h1, h2, h3⟩ := hX
  intro H locs ls hP hS hL
  refine va_sld hx hb h1 h2 h3 hS (vp_in_nI hj (by omega)) hd ?_
  rw [nI_clamp (by omega)]
  exact kk H locs ls hP hS hL
theorem y_slen (hC : mOK cc own nL fr lo C) (hX : mScr C b Ln xs) (hd : decode cc pc = .ok (.arraylength, 1)) (kk : wat C u (pc + 1) L (.int (nI Ln) :: st)) : wat C u pc L (.ref b :: st) := by
  obtain ⟨p, l, e, R, s, m, args, below, meth, c, Q, dC, dI, dA, as, nc, ns, A⟩ := C
  obtain ⟨hx, hb, hml, hown, hts, hK, hD, hA, hnc, hns, hfr, hlo⟩ := hC
  obtain ⟨h1, h2, h3⟩ := hX
  intro H locs ls hP hS hL
  exact va_slen hx hb h1 h2 h3 hS hd (kk H locs ls hP hS hL)
/-- the script's j-th number, k further on -/
theorem y_arg (hC : mOK cc own nL fr lo C) (hX : mScr C b Ln xs) (hLn : Ln ≤ 2560) {j : Nat} (k : Nat) {n : Int} (hn : Int32.ofInt n = nI k) (hj : j + k < Ln) (h0 : L[0]? = some (some (.ref b))) (h3 : L[3]? = some (some (.int (nI j)))) (d0 : decode cc pc = .ok (.aload_n 0, 1)) (d1 : decode cc (pc + 1) = .ok (.iload_n 3, 1)) (d2 : decode cc (pc + 1 + 1) = .ok (.iconst n, 1)) (d3 : decode cc (pc + 1 + 1 + 1) = .ok (.iadd, 1)) (d4 : decode cc (pc + 1 + 1 + 1 + 1) = .ok (.iaload, 1)) (kk : wat C u (pc + 1 + 1 + 1 + 1 + 1) L (.int (xs (j + k)) :: st)) : wat C u pc L st := by
  refine y_aloadv hC d0 rfl h0 ?_
  refine z_iload_n hC d1 rfl h3 ?_
  refine z_iconst hC d2 hn ?_
  refine z_iadd hC d3 ?_
  rw [nI_add]
  exact y_sld hC hX hLn hj d4 kk
end zlaw
set_option maxHeartbeats 4000000 in
theorem law_say {C : mCtx} {u : MU} {b Ln j : Nat} {xs : Nat → Int32} (hC : mOK cL_law RL 4 2048 84000 C) (hX : mScr C b Ln xs) (hLn : Ln ≤ 2560) (hj : j + 4 < Ln) (hI : Inv u) (next : ∀ t : MU, Inv t → wat C t 634 (lawL C b j) []) : wat C u 120 (lawL C b j) [] := by
  obtain ⟨r, v, t, e1, e2, hI2⟩ := op_say (xs (j + 1)) (xs (j + 2)) u hI
  refine z_aload_n (q := 0) hC dL_law_120 rfl rfl ?_
  refine y_arg hC hX hLn 1 (by decide) (by omega) rfl rfl dL_law_121 dL_law_122 dL_law_123 dL_law_124 dL_law_125 ?_
  refine y_arg hC hX hLn 2 (by decide) (by omega) rfl rfl dL_law_126 dL_law_127 dL_law_128 dL_law_129 dL_law_130 ?_
  refine z_callI (As := [.int (xs (j + 1)), .int (xs (j + 2))]) hC kC_X6_say kM_L_13 sh_0 TX6 8 rfl (m_X6_say hC.dis (xs (j + 1)) (xs (j + 2)) u e1) rfl (Nat.le_of_ble_eq_true rfl) (Nat.le_of_ble_eq_true rfl) (Nat.le_of_ble_eq_true rfl) rfl dL_law_131 ?_
  refine z_aload_n (q := 88) hC dL_law_134 rfl rfl ?_
  refine y_arg hC hX hLn 1 (by decide) (by omega) rfl rfl dL_law_135 dL_law_136 dL_law_137 dL_law_138 dL_law_139 ?_
  refine y_arg hC hX hLn 2 (by decide) (by omega) rfl rfl dL_law_140 dL_law_141 dL_law_142 dL_law_143 dL_law_144 ?_
  refine z_callI (As := [.int (xs (j + 1)), .int (xs (j + 2))]) hC kC_X7_say kM_L_17 sh_88 TX7 39 rfl (m_X7_say hC.dis (xs (j + 1)) (xs (j + 2)) v e2) rfl (Nat.le_of_ble_eq_true rfl) (Nat.le_of_ble_eq_true rfl) (Nat.le_of_ble_eq_true rfl) rfl dL_law_145 ?_
  exact z_icmp_eq hC 634 dL_law_148 (by decide) (fun _ => next t hI2) (fun h => absurd rfl h)
set_option maxHeartbeats 4000000 in
theorem law_wipe {C : mCtx} {u : MU} {b Ln j : Nat} {xs : Nat → Int32} (hC : mOK cL_law RL 4 2048 84000 C) (hX : mScr C b Ln xs) (hLn : Ln ≤ 2560) (hj : j + 4 < Ln) (hI : Inv u) (next : ∀ t : MU, Inv t → wat C t 634 (lawL C b j) []) : wat C u 153 (lawL C b j) [] := by
  obtain ⟨r, v, t, e1, e2, hI2⟩ := op_wipe (xs (j + 1)) u hI
  refine z_aload_n (q := 0) hC dL_law_153 rfl rfl ?_
  refine y_arg hC hX hLn 1 (by decide) (by omega) rfl rfl dL_law_154 dL_law_155 dL_law_156 dL_law_157 dL_law_158 ?_
  refine z_callI (As := [.int (xs (j + 1))]) hC kC_X6_wipe kM_L_18 sh_0 TX6 8 rfl (m_X6_wipe hC.dis (xs (j + 1)) u e1) rfl (Nat.le_of_ble_eq_true rfl) (Nat.le_of_ble_eq_true rfl) (Nat.le_of_ble_eq_true rfl) rfl dL_law_159 ?_
  refine z_aload_n (q := 88) hC dL_law_162 rfl rfl ?_
  refine y_arg hC hX hLn 1 (by decide) (by omega) rfl rfl dL_law_163 dL_law_164 dL_law_165 dL_law_166 dL_law_167 ?_
  refine z_callI (As := [.int (xs (j + 1))]) hC kC_X7_wipe kM_L_22 sh_88 TX7 39 rfl (m_X7_wipe hC.dis (xs (j + 1)) v e2) rfl (Nat.le_of_ble_eq_true rfl) (Nat.le_of_ble_eq_true rfl) (Nat.le_of_ble_eq_true rfl) rfl dL_law_168 ?_
  exact z_icmp_eq hC 634 dL_law_171 (by decide) (fun _ => next t hI2) (fun h => absurd rfl h)
set_option maxHeartbeats 4000000 in
theorem law_fault {C : mCtx} {u : MU} {b Ln j : Nat} {xs : Nat → Int32} (hC : mOK cL_law RL 4 2048 84000 C) (hX : mScr C b Ln xs) (hLn : Ln ≤ 2560) (hj : j + 4 < Ln) (hI : Inv u) (next : ∀ t : MU, Inv t → wat C t 634 (lawL C b j) []) : wat C u 176 (lawL C b j) [] := by
  obtain ⟨r, v, t, e1, e2, hI2⟩ := op_fault (xs (j + 1)) u hI
  refine z_aload_n (q := 0) hC dL_law_176 rfl rfl ?_
  refine y_arg hC hX hLn 1 (by decide) (by omega) rfl rfl dL_law_177 dL_law_178 dL_law_179 dL_law_180 dL_law_181 ?_
  refine z_callI (As := [.int (xs (j + 1))]) hC kC_X6_fault kM_L_23 sh_0 TX6 8 rfl (m_X6_fault hC.dis (xs (j + 1)) u e1) rfl (Nat.le_of_ble_eq_true rfl) (Nat.le_of_ble_eq_true rfl) (Nat.le_of_ble_eq_true rfl) rfl dL_law_182 ?_
  refine z_aload_n (q := 88) hC dL_law_185 rfl rfl ?_
  refine y_arg hC hX hLn 1 (by decide) (by omega) rfl rfl dL_law_186 dL_law_187 dL_law_188 dL_law_189 dL_law_190 ?_
  refine z_callI (As := [.int (xs (j + 1))]) hC kC_X7_fault kM_L_26 sh_88 TX7 39 rfl (m_X7_fault hC.dis (xs (j + 1)) v e2) rfl (Nat.le_of_ble_eq_true rfl) (Nat.le_of_ble_eq_true rfl) (Nat.le_of_ble_eq_true rfl) rfl dL_law_191 ?_
  exact z_icmp_eq hC 634 dL_law_194 (by decide) (fun _ => next t hI2) (fun h => absurd rfl h)
set_option maxHeartbeats 4000000 in
theorem law_set {C : mCtx} {u : MU} {b Ln j : Nat} {xs : Nat → Int32} (hC : mOK cL_law RL 4 2048 84000 C) (hX : mScr C b Ln xs) (hLn : Ln ≤ 2560) (hj : j + 4 < Ln) (hI : Inv u) (next : ∀ t : MU, Inv t → wat C t 634 (lawL C b j) []) : wat C u 199 (lawL C b j) [] := by
  obtain ⟨r, v, t, e1, e2, hI2⟩ := op_set (xs (j + 1)) (xs (j + 2)) u hI
  refine z_aload_n (q := 0) hC dL_law_199 rfl rfl ?_
  refine y_arg hC hX hLn 1 (by decide) (by omega) rfl rfl dL_law_200 dL_law_201 dL_law_202 dL_law_203 dL_law_204 ?_
  refine y_arg hC hX hLn 2 (by decide) (by omega) rfl rfl dL_law_205 dL_law_206 dL_law_207 dL_law_208 dL_law_209 ?_
  refine z_callI (As := [.int (xs (j + 1)), .int (xs (j + 2))]) hC kC_X6_set kM_L_27 sh_0 TX6 8 rfl (m_X6_set hC.dis (xs (j + 1)) (xs (j + 2)) u e1) rfl (Nat.le_of_ble_eq_true rfl) (Nat.le_of_ble_eq_true rfl) (Nat.le_of_ble_eq_true rfl) rfl dL_law_210 ?_
  refine z_aload_n (q := 88) hC dL_law_213 rfl rfl ?_
  refine y_arg hC hX hLn 1 (by decide) (by omega) rfl rfl dL_law_214 dL_law_215 dL_law_216 dL_law_217 dL_law_218 ?_
  refine y_arg hC hX hLn 2 (by decide) (by omega) rfl rfl dL_law_219 dL_law_220 dL_law_221 dL_law_222 dL_law_223 ?_
  refine z_callI (As := [.int (xs (j + 1)), .int (xs (j + 2))]) hC kC_X7_set kM_L_30 sh_88 TX7 39 rfl (m_X7_set hC.dis (xs (j + 1)) (xs (j + 2)) v e2) rfl (Nat.le_of_ble_eq_true rfl) (Nat.le_of_ble_eq_true rfl) (Nat.le_of_ble_eq_true rfl) rfl dL_law_224 ?_
  exact z_icmp_eq hC 634 dL_law_227 (by decide) (fun _ => next t hI2) (fun h => absurd rfl h)
set_option maxHeartbeats 4000000 in
theorem law_get {C : mCtx} {u : MU} {b Ln j : Nat} {xs : Nat → Int32} (hC : mOK cL_law RL 4 2048 84000 C) (hX : mScr C b Ln xs) (hLn : Ln ≤ 2560) (hj : j + 4 < Ln) (hI : Inv u) (next : ∀ t : MU, Inv t → wat C t 634 (lawL C b j) []) : wat C u 232 (lawL C b j) [] := by
  obtain ⟨r, v, t, e1, e2, hI2⟩ := op_get (xs (j + 1)) u hI
  refine z_aload_n (q := 0) hC dL_law_232 rfl rfl ?_
  refine y_arg hC hX hLn 1 (by decide) (by omega) rfl rfl dL_law_233 dL_law_234 dL_law_235 dL_law_236 dL_law_237 ?_
  refine z_callI (As := [.int (xs (j + 1))]) hC kC_X6_get kM_L_31 sh_0 TX6 8 rfl (m_X6_get hC.dis (xs (j + 1)) u e1) rfl (Nat.le_of_ble_eq_true rfl) (Nat.le_of_ble_eq_true rfl) (Nat.le_of_ble_eq_true rfl) rfl dL_law_238 ?_
  refine z_aload_n (q := 88) hC dL_law_241 rfl rfl ?_
  refine y_arg hC hX hLn 1 (by decide) (by omega) rfl rfl dL_law_242 dL_law_243 dL_law_244 dL_law_245 dL_law_246 ?_
  refine z_callI (As := [.int (xs (j + 1))]) hC kC_X7_get kM_L_34 sh_88 TX7 39 rfl (m_X7_get hC.dis (xs (j + 1)) v e2) rfl (Nat.le_of_ble_eq_true rfl) (Nat.le_of_ble_eq_true rfl) (Nat.le_of_ble_eq_true rfl) rfl dL_law_247 ?_
  exact z_icmp_eq hC 634 dL_law_250 (by decide) (fun _ => next t hI2) (fun h => absurd rfl h)
set_option maxHeartbeats 4000000 in
theorem law_effect {C : mCtx} {u : MU} {b Ln j : Nat} {xs : Nat → Int32} (hC : mOK cL_law RL 4 2048 84000 C) (hX : mScr C b Ln xs) (hLn : Ln ≤ 2560) (hj : j + 4 < Ln) (hI : Inv u) (next : ∀ t : MU, Inv t → wat C t 634 (lawL C b j) []) : wat C u 255 (lawL C b j) [] := by
  obtain ⟨r, v, t, e1, e2, hI2⟩ := op_effect (xs (j + 1)) (xs (j + 2)) (xs (j + 3)) u hI
  refine z_aload_n (q := 0) hC dL_law_255 rfl rfl ?_
  refine y_arg hC hX hLn 1 (by decide) (by omega) rfl rfl dL_law_256 dL_law_257 dL_law_258 dL_law_259 dL_law_260 ?_
  refine y_arg hC hX hLn 2 (by decide) (by omega) rfl rfl dL_law_261 dL_law_262 dL_law_263 dL_law_264 dL_law_265 ?_
  refine y_arg hC hX hLn 3 (by decide) (by omega) rfl rfl dL_law_266 dL_law_267 dL_law_268 dL_law_269 dL_law_270 ?_
  refine z_callI (As := [.int (xs (j + 1)), .int (xs (j + 2)), .int (xs (j + 3))]) hC kC_X6_effect kM_L_35 sh_0 TX6 8 rfl (m_X6_effect hC.dis (xs (j + 1)) (xs (j + 2)) (xs (j + 3)) u e1) rfl (Nat.le_of_ble_eq_true rfl) (Nat.le_of_ble_eq_true rfl) (Nat.le_of_ble_eq_true rfl) rfl dL_law_271 ?_
  refine z_aload_n (q := 88) hC dL_law_274 rfl rfl ?_
  refine y_arg hC hX hLn 1 (by decide) (by omega) rfl rfl dL_law_275 dL_law_276 dL_law_277 dL_law_278 dL_law_279 ?_
  refine y_arg hC hX hLn 2 (by decide) (by omega) rfl rfl dL_law_280 dL_law_281 dL_law_282 dL_law_283 dL_law_284 ?_
  refine y_arg hC hX hLn 3 (by decide) (by omega) rfl rfl dL_law_285 dL_law_286 dL_law_287 dL_law_288 dL_law_289 ?_
  refine z_callI (As := [.int (xs (j + 1)), .int (xs (j + 2)), .int (xs (j + 3))]) hC kC_X7_effect kM_L_39 sh_88 TX7 39 rfl (m_X7_effect hC.dis (xs (j + 1)) (xs (j + 2)) (xs (j + 3)) v e2) rfl (Nat.le_of_ble_eq_true rfl) (Nat.le_of_ble_eq_true rfl) (Nat.le_of_ble_eq_true rfl) rfl dL_law_290 ?_
  exact z_icmp_eq hC 634 dL_law_293 (by decide) (fun _ => next t hI2) (fun h => absurd rfl h)
set_option maxHeartbeats 4000000 in
theorem law_causes {C : mCtx} {u : MU} {b Ln j : Nat} {xs : Nat → Int32} (hC : mOK cL_law RL 4 2048 84000 C) (hX : mScr C b Ln xs) (hLn : Ln ≤ 2560) (hj : j + 4 < Ln) (hI : Inv u) (next : ∀ t : MU, Inv t → wat C t 634 (lawL C b j) []) : wat C u 298 (lawL C b j) [] := by
  obtain ⟨r, v, t, e1, e2, hI2⟩ := op_causes (xs (j + 1)) (xs (j + 2)) (xs (j + 3)) (xs (j + 4)) u hI
  refine z_aload_n (q := 0) hC dL_law_298 rfl rfl ?_
  refine y_arg hC hX hLn 1 (by decide) (by omega) rfl rfl dL_law_299 dL_law_300 dL_law_301 dL_law_302 dL_law_303 ?_
  refine y_arg hC hX hLn 2 (by decide) (by omega) rfl rfl dL_law_304 dL_law_305 dL_law_306 dL_law_307 dL_law_308 ?_
  refine y_arg hC hX hLn 3 (by decide) (by omega) rfl rfl dL_law_309 dL_law_310 dL_law_311 dL_law_312 dL_law_313 ?_
  refine y_arg hC hX hLn 4 (by decide) (by omega) rfl rfl dL_law_314 dL_law_315 dL_law_316 dL_law_317 dL_law_318 ?_
  refine z_callI (As := [.int (xs (j + 1)), .int (xs (j + 2)), .int (xs (j + 3)), .int (xs (j + 4))]) hC kC_X6_causes kM_L_40 sh_0 TX6 8 rfl (m_X6_causes hC.dis (xs (j + 1)) (xs (j + 2)) (xs (j + 3)) (xs (j + 4)) u e1) rfl (Nat.le_of_ble_eq_true rfl) (Nat.le_of_ble_eq_true rfl) (Nat.le_of_ble_eq_true rfl) rfl dL_law_319 ?_
  refine z_aload_n (q := 88) hC dL_law_322 rfl rfl ?_
  refine y_arg hC hX hLn 1 (by decide) (by omega) rfl rfl dL_law_323 dL_law_324 dL_law_325 dL_law_326 dL_law_327 ?_
  refine y_arg hC hX hLn 2 (by decide) (by omega) rfl rfl dL_law_328 dL_law_329 dL_law_330 dL_law_331 dL_law_332 ?_
  refine y_arg hC hX hLn 3 (by decide) (by omega) rfl rfl dL_law_333 dL_law_334 dL_law_335 dL_law_336 dL_law_337 ?_
  refine y_arg hC hX hLn 4 (by decide) (by omega) rfl rfl dL_law_338 dL_law_339 dL_law_340 dL_law_341 dL_law_342 ?_
  refine z_callI (As := [.int (xs (j + 1)), .int (xs (j + 2)), .int (xs (j + 3)), .int (xs (j + 4))]) hC kC_X7_causes kM_L_44 sh_88 TX7 39 rfl (m_X7_causes hC.dis (xs (j + 1)) (xs (j + 2)) (xs (j + 3)) (xs (j + 4)) v e2) rfl (Nat.le_of_ble_eq_true rfl) (Nat.le_of_ble_eq_true rfl) (Nat.le_of_ble_eq_true rfl) rfl dL_law_343 ?_
  exact z_icmp_eq hC 634 dL_law_346 (by decide) (fun _ => next t hI2) (fun h => absurd rfl h)
set_option maxHeartbeats 4000000 in
theorem law_call {C : mCtx} {u : MU} {b Ln j : Nat} {xs : Nat → Int32} (hC : mOK cL_law RL 4 2048 84000 C) (hX : mScr C b Ln xs) (hLn : Ln ≤ 2560) (hj : j + 4 < Ln) (hI : Inv u) (next : ∀ t : MU, Inv t → wat C t 634 (lawL C b j) []) : wat C u 351 (lawL C b j) [] := by
  obtain ⟨r, v, t, e1, e2, hI2⟩ := op_call (xs (j + 1)) (xs (j + 2)) u hI
  refine z_aload_n (q := 0) hC dL_law_351 rfl rfl ?_
  refine y_arg hC hX hLn 1 (by decide) (by omega) rfl rfl dL_law_352 dL_law_353 dL_law_354 dL_law_355 dL_law_356 ?_
  refine y_arg hC hX hLn 2 (by decide) (by omega) rfl rfl dL_law_357 dL_law_358 dL_law_359 dL_law_360 dL_law_361 ?_
  refine z_callI (As := [.int (xs (j + 1)), .int (xs (j + 2))]) hC kC_X6_call kM_L_45 sh_0 TX6 8 rfl (m_X6_call hC.dis (xs (j + 1)) (xs (j + 2)) u e1) rfl (Nat.le_of_ble_eq_true rfl) (Nat.le_of_ble_eq_true rfl) (Nat.le_of_ble_eq_true rfl) rfl dL_law_362 ?_
  refine z_aload_n (q := 88) hC dL_law_365 rfl rfl ?_
  refine y_arg hC hX hLn 1 (by decide) (by omega) rfl rfl dL_law_366 dL_law_367 dL_law_368 dL_law_369 dL_law_370 ?_
  refine y_arg hC hX hLn 2 (by decide) (by omega) rfl rfl dL_law_371 dL_law_372 dL_law_373 dL_law_374 dL_law_375 ?_
  refine z_callI (As := [.int (xs (j + 1)), .int (xs (j + 2))]) hC kC_X7_call kM_L_48 sh_88 TX7 39 rfl (m_X7_call hC.dis (xs (j + 1)) (xs (j + 2)) v e2) rfl (Nat.le_of_ble_eq_true rfl) (Nat.le_of_ble_eq_true rfl) (Nat.le_of_ble_eq_true rfl) rfl dL_law_376 ?_
  exact z_icmp_eq hC 634 dL_law_379 (by decide) (fun _ => next t hI2) (fun h => absurd rfl h)
set_option maxHeartbeats 4000000 in
theorem law_drop {C : mCtx} {u : MU} {b Ln j : Nat} {xs : Nat → Int32} (hC : mOK cL_law RL 4 2048 84000 C) (hX : mScr C b Ln xs) (hLn : Ln ≤ 2560) (hj : j + 4 < Ln) (hI : Inv u) (next : ∀ t : MU, Inv t → wat C t 634 (lawL C b j) []) : wat C u 384 (lawL C b j) [] := by
  obtain ⟨r, v, t, e1, e2, hI2⟩ := op_drop (xs (j + 1)) u hI
  refine z_aload_n (q := 0) hC dL_law_384 rfl rfl ?_
  refine y_arg hC hX hLn 1 (by decide) (by omega) rfl rfl dL_law_385 dL_law_386 dL_law_387 dL_law_388 dL_law_389 ?_
  refine z_callI (As := [.int (xs (j + 1))]) hC kC_X6_drop kM_L_49 sh_0 TX6 8 rfl (m_X6_drop hC.dis (xs (j + 1)) u e1) rfl (Nat.le_of_ble_eq_true rfl) (Nat.le_of_ble_eq_true rfl) (Nat.le_of_ble_eq_true rfl) rfl dL_law_390 ?_
  refine z_aload_n (q := 88) hC dL_law_393 rfl rfl ?_
  refine y_arg hC hX hLn 1 (by decide) (by omega) rfl rfl dL_law_394 dL_law_395 dL_law_396 dL_law_397 dL_law_398 ?_
  refine z_callI (As := [.int (xs (j + 1))]) hC kC_X7_drop kM_L_52 sh_88 TX7 39 rfl (m_X7_drop hC.dis (xs (j + 1)) v e2) rfl (Nat.le_of_ble_eq_true rfl) (Nat.le_of_ble_eq_true rfl) (Nat.le_of_ble_eq_true rfl) rfl dL_law_399 ?_
  exact z_icmp_eq hC 634 dL_law_402 (by decide) (fun _ => next t hI2) (fun h => absurd rfl h)
set_option maxHeartbeats 4000000 in
theorem law_swap {C : mCtx} {u : MU} {b Ln j : Nat} {xs : Nat → Int32} (hC : mOK cL_law RL 4 2048 84000 C) (hX : mScr C b Ln xs) (hLn : Ln ≤ 2560) (hj : j + 4 < Ln) (hI : Inv u) (next : ∀ t : MU, Inv t → wat C t 634 (lawL C b j) []) : wat C u 407 (lawL C b j) [] := by
  obtain ⟨r, v, t, e1, e2, hI2⟩ := op_swap (xs (j + 1)) u hI
  refine z_aload_n (q := 0) hC dL_law_407 rfl rfl ?_
  refine y_arg hC hX hLn 1 (by decide) (by omega) rfl rfl dL_law_408 dL_law_409 dL_law_410 dL_law_411 dL_law_412 ?_
  refine z_callI (As := [.int (xs (j + 1))]) hC kC_X6_swap kM_L_53 sh_0 TX6 8 rfl (m_X6_swap hC.dis (xs (j + 1)) u e1) rfl (Nat.le_of_ble_eq_true rfl) (Nat.le_of_ble_eq_true rfl) (Nat.le_of_ble_eq_true rfl) rfl dL_law_413 ?_
  refine z_aload_n (q := 88) hC dL_law_416 rfl rfl ?_
  refine y_arg hC hX hLn 1 (by decide) (by omega) rfl rfl dL_law_417 dL_law_418 dL_law_419 dL_law_420 dL_law_421 ?_
  refine z_callI (As := [.int (xs (j + 1))]) hC kC_X7_swap kM_L_56 sh_88 TX7 39 rfl (m_X7_swap hC.dis (xs (j + 1)) v e2) rfl (Nat.le_of_ble_eq_true rfl) (Nat.le_of_ble_eq_true rfl) (Nat.le_of_ble_eq_true rfl) rfl dL_law_422 ?_
  exact z_icmp_eq hC 634 dL_law_425 (by decide) (fun _ => next t hI2) (fun h => absurd rfl h)
set_option maxHeartbeats 4000000 in
theorem law_told {C : mCtx} {u : MU} {b Ln j : Nat} {xs : Nat → Int32} (hC : mOK cL_law RL 4 2048 84000 C) (hX : mScr C b Ln xs) (hLn : Ln ≤ 2560) (hj : j + 4 < Ln) (hI : Inv u) (next : ∀ t : MU, Inv t → wat C t 634 (lawL C b j) []) : wat C u 430 (lawL C b j) [] := by
  obtain ⟨r, v, t, e1, e2, hI2⟩ := op_told (xs (j + 1)) (xs (j + 2)) u hI
  refine z_aload_n (q := 0) hC dL_law_430 rfl rfl ?_
  refine y_arg hC hX hLn 1 (by decide) (by omega) rfl rfl dL_law_431 dL_law_432 dL_law_433 dL_law_434 dL_law_435 ?_
  refine y_arg hC hX hLn 2 (by decide) (by omega) rfl rfl dL_law_436 dL_law_437 dL_law_438 dL_law_439 dL_law_440 ?_
  refine z_callI (As := [.int (xs (j + 1)), .int (xs (j + 2))]) hC kC_X6_told kM_L_57 sh_0 TX6 8 rfl (m_X6_told hC.dis (xs (j + 1)) (xs (j + 2)) u e1) rfl (Nat.le_of_ble_eq_true rfl) (Nat.le_of_ble_eq_true rfl) (Nat.le_of_ble_eq_true rfl) rfl dL_law_441 ?_
  refine z_aload_n (q := 88) hC dL_law_444 rfl rfl ?_
  refine y_arg hC hX hLn 1 (by decide) (by omega) rfl rfl dL_law_445 dL_law_446 dL_law_447 dL_law_448 dL_law_449 ?_
  refine y_arg hC hX hLn 2 (by decide) (by omega) rfl rfl dL_law_450 dL_law_451 dL_law_452 dL_law_453 dL_law_454 ?_
  refine z_callI (As := [.int (xs (j + 1)), .int (xs (j + 2))]) hC kC_X7_told kM_L_60 sh_88 TX7 39 rfl (m_X7_told hC.dis (xs (j + 1)) (xs (j + 2)) v e2) rfl (Nat.le_of_ble_eq_true rfl) (Nat.le_of_ble_eq_true rfl) (Nat.le_of_ble_eq_true rfl) rfl dL_law_455 ?_
  exact z_icmp_eq hC 634 dL_law_458 (by decide) (fun _ => next t hI2) (fun h => absurd rfl h)
set_option maxHeartbeats 4000000 in
theorem law_stages {C : mCtx} {u : MU} {b Ln j : Nat} {xs : Nat → Int32} (hC : mOK cL_law RL 4 2048 84000 C) (hX : mScr C b Ln xs) (hLn : Ln ≤ 2560) (hj : j + 4 < Ln) (hI : Inv u) (next : ∀ t : MU, Inv t → wat C t 634 (lawL C b j) []) : wat C u 463 (lawL C b j) [] := by
  obtain ⟨r, v, t, e1, e2, hI2⟩ := op_stages (xs (j + 1)) u hI
  refine z_aload_n (q := 0) hC dL_law_463 rfl rfl ?_
  refine y_arg hC hX hLn 1 (by decide) (by omega) rfl rfl dL_law_464 dL_law_465 dL_law_466 dL_law_467 dL_law_468 ?_
  refine z_callI (As := [.int (xs (j + 1))]) hC kC_X6_stages kM_L_61 sh_0 TX6 8 rfl (m_X6_stages hC.dis (xs (j + 1)) u e1) rfl (Nat.le_of_ble_eq_true rfl) (Nat.le_of_ble_eq_true rfl) (Nat.le_of_ble_eq_true rfl) rfl dL_law_469 ?_
  refine z_aload_n (q := 88) hC dL_law_472 rfl rfl ?_
  refine y_arg hC hX hLn 1 (by decide) (by omega) rfl rfl dL_law_473 dL_law_474 dL_law_475 dL_law_476 dL_law_477 ?_
  refine z_callI (As := [.int (xs (j + 1))]) hC kC_X7_stages kM_L_64 sh_88 TX7 39 rfl (m_X7_stages hC.dis (xs (j + 1)) v e2) rfl (Nat.le_of_ble_eq_true rfl) (Nat.le_of_ble_eq_true rfl) (Nat.le_of_ble_eq_true rfl) rfl dL_law_478 ?_
  exact z_icmp_eq hC 634 dL_law_481 (by decide) (fun _ => next t hI2) (fun h => absurd rfl h)
set_option maxHeartbeats 4000000 in
theorem law_run {C : mCtx} {u : MU} {b Ln j : Nat} {xs : Nat → Int32} (hC : mOK cL_law RL 4 2048 84000 C) (hX : mScr C b Ln xs) (hLn : Ln ≤ 2560) (hj : j + 4 < Ln) (hI : Inv u) (next : ∀ t : MU, Inv t → wat C t 634 (lawL C b j) []) : wat C u 486 (lawL C b j) [] := by
  obtain ⟨r, v, t, e1, e2, hI2⟩ := op_run (xs (j + 1)) (xs (j + 2)) u hI
  refine z_aload_n (q := 0) hC dL_law_486 rfl rfl ?_
  refine y_arg hC hX hLn 1 (by decide) (by omega) rfl rfl dL_law_487 dL_law_488 dL_law_489 dL_law_490 dL_law_491 ?_
  refine y_arg hC hX hLn 2 (by decide) (by omega) rfl rfl dL_law_492 dL_law_493 dL_law_494 dL_law_495 dL_law_496 ?_
  refine z_callI (As := [.int (xs (j + 1)), .int (xs (j + 2))]) hC kC_X6_run kM_L_65 sh_0 TX6 8 rfl (m_X6_run hC.dis (xs (j + 1)) (xs (j + 2)) u e1) rfl (Nat.le_of_ble_eq_true rfl) (Nat.le_of_ble_eq_true rfl) (Nat.le_of_ble_eq_true rfl) rfl dL_law_497 ?_
  refine z_aload_n (q := 88) hC dL_law_500 rfl rfl ?_
  refine y_arg hC hX hLn 1 (by decide) (by omega) rfl rfl dL_law_501 dL_law_502 dL_law_503 dL_law_504 dL_law_505 ?_
  refine y_arg hC hX hLn 2 (by decide) (by omega) rfl rfl dL_law_506 dL_law_507 dL_law_508 dL_law_509 dL_law_510 ?_
  refine z_callI (As := [.int (xs (j + 1)), .int (xs (j + 2))]) hC kC_X7_run kM_L_68 sh_88 TX7 39 rfl (m_X7_run hC.dis (xs (j + 1)) (xs (j + 2)) v e2) rfl (Nat.le_of_ble_eq_true rfl) (Nat.le_of_ble_eq_true rfl) (Nat.le_of_ble_eq_true rfl) rfl dL_law_511 ?_
  exact z_icmp_eq hC 634 dL_law_514 (by decide) (fun _ => next t hI2) (fun h => absurd rfl h)
set_option maxHeartbeats 4000000 in
theorem law_thrower {C : mCtx} {u : MU} {b Ln j : Nat} {xs : Nat → Int32} (hC : mOK cL_law RL 4 2048 84000 C) (hX : mScr C b Ln xs) (hLn : Ln ≤ 2560) (hj : j + 4 < Ln) (hI : Inv u) (next : ∀ t : MU, Inv t → wat C t 634 (lawL C b j) []) : wat C u 519 (lawL C b j) [] := by
  obtain ⟨r, v, t, e1, e2, hI2⟩ := op_thrower (xs (j + 1)) (xs (j + 2)) u hI
  refine z_aload_n (q := 0) hC dL_law_519 rfl rfl ?_
  refine y_arg hC hX hLn 1 (by decide) (by omega) rfl rfl dL_law_520 dL_law_521 dL_law_522 dL_law_523 dL_law_524 ?_
  refine y_arg hC hX hLn 2 (by decide) (by omega) rfl rfl dL_law_525 dL_law_526 dL_law_527 dL_law_528 dL_law_529 ?_
  refine z_callI (As := [.int (xs (j + 1)), .int (xs (j + 2))]) hC kC_X6_thrower kM_L_69 sh_0 TX6 8 rfl (m_X6_thrower hC.dis (xs (j + 1)) (xs (j + 2)) u e1) rfl (Nat.le_of_ble_eq_true rfl) (Nat.le_of_ble_eq_true rfl) (Nat.le_of_ble_eq_true rfl) rfl dL_law_530 ?_
  refine z_aload_n (q := 88) hC dL_law_533 rfl rfl ?_
  refine y_arg hC hX hLn 1 (by decide) (by omega) rfl rfl dL_law_534 dL_law_535 dL_law_536 dL_law_537 dL_law_538 ?_
  refine y_arg hC hX hLn 2 (by decide) (by omega) rfl rfl dL_law_539 dL_law_540 dL_law_541 dL_law_542 dL_law_543 ?_
  refine z_callI (As := [.int (xs (j + 1)), .int (xs (j + 2))]) hC kC_X7_thrower kM_L_72 sh_88 TX7 39 rfl (m_X7_thrower hC.dis (xs (j + 1)) (xs (j + 2)) v e2) rfl (Nat.le_of_ble_eq_true rfl) (Nat.le_of_ble_eq_true rfl) (Nat.le_of_ble_eq_true rfl) rfl dL_law_544 ?_
  exact z_icmp_eq hC 634 dL_law_547 (by decide) (fun _ => next t hI2) (fun h => absurd rfl h)
set_option maxHeartbeats 4000000 in
theorem law_commit {C : mCtx} {u : MU} {b Ln j : Nat} {xs : Nat → Int32} (hC : mOK cL_law RL 4 2048 84000 C) (hX : mScr C b Ln xs) (hLn : Ln ≤ 2560) (hj : j + 4 < Ln) (hI : Inv u) (next : ∀ t : MU, Inv t → wat C t 634 (lawL C b j) []) : wat C u 552 (lawL C b j) [] := by
  obtain ⟨r, v, t, e1, e2, hI2⟩ := op_commit u hI
  refine z_aload_n (q := 0) hC dL_law_552 rfl rfl ?_
  refine z_callI (As := []) hC kC_X6_commit kM_L_73 sh_0 TX6 8 rfl (m_X6_commit hC.dis u e1) rfl (Nat.le_of_ble_eq_true rfl) (Nat.le_of_ble_eq_true rfl) (Nat.le_of_ble_eq_true rfl) rfl dL_law_553 ?_
  refine z_aload_n (q := 88) hC dL_law_556 rfl rfl ?_
  refine z_callI (As := []) hC kC_X7_commit kM_L_77 sh_88 TX7 39 rfl (m_X7_commit hC.dis v e2) rfl (Nat.le_of_ble_eq_true rfl) (Nat.le_of_ble_eq_true rfl) (Nat.le_of_ble_eq_true rfl) rfl dL_law_557 ?_
  exact z_icmp_eq hC 634 dL_law_560 (by decide) (fun _ => next t hI2) (fun h => absurd rfl h)
set_option maxHeartbeats 4000000 in
theorem law_image {C : mCtx} {u : MU} {b Ln j : Nat} {xs : Nat → Int32} (hC : mOK cL_law RL 4 2048 84000 C) (hX : mScr C b Ln xs) (hLn : Ln ≤ 2560) (hj : j + 4 < Ln) (hI : Inv u) (next : ∀ t : MU, Inv t → wat C t 634 (lawL C b j) []) : wat C u 565 (lawL C b j) [] := by
  obtain ⟨r, v, t, e1, e2, hI2⟩ := op_image (xs (j + 1)) u hI
  refine z_aload_n (q := 0) hC dL_law_565 rfl rfl ?_
  refine y_arg hC hX hLn 1 (by decide) (by omega) rfl rfl dL_law_566 dL_law_567 dL_law_568 dL_law_569 dL_law_570 ?_
  refine z_callI (As := [.int (xs (j + 1))]) hC kC_X6_image kM_L_78 sh_0 TX6 8 rfl (m_X6_image hC.dis (xs (j + 1)) u e1) rfl (Nat.le_of_ble_eq_true rfl) (Nat.le_of_ble_eq_true rfl) (Nat.le_of_ble_eq_true rfl) rfl dL_law_571 ?_
  refine z_aload_n (q := 88) hC dL_law_574 rfl rfl ?_
  refine y_arg hC hX hLn 1 (by decide) (by omega) rfl rfl dL_law_575 dL_law_576 dL_law_577 dL_law_578 dL_law_579 ?_
  refine z_callI (As := [.int (xs (j + 1))]) hC kC_X7_image kM_L_81 sh_88 TX7 39 rfl (m_X7_image hC.dis (xs (j + 1)) v e2) rfl (Nat.le_of_ble_eq_true rfl) (Nat.le_of_ble_eq_true rfl) (Nat.le_of_ble_eq_true rfl) rfl dL_law_580 ?_
  exact z_icmp_eq hC 634 dL_law_583 (by decide) (fun _ => next t hI2) (fun h => absurd rfl h)
set_option maxHeartbeats 4000000 in
theorem law_restore {C : mCtx} {u : MU} {b Ln j : Nat} {xs : Nat → Int32} (hC : mOK cL_law RL 4 2048 84000 C) (hX : mScr C b Ln xs) (hLn : Ln ≤ 2560) (hj : j + 4 < Ln) (hI : Inv u) (next : ∀ t : MU, Inv t → wat C t 634 (lawL C b j) []) : wat C u 588 (lawL C b j) [] := by
  obtain ⟨r, v, t, e1, e2, hI2⟩ := op_restore (xs (j + 1)) u hI
  refine z_aload_n (q := 0) hC dL_law_588 rfl rfl ?_
  refine y_arg hC hX hLn 1 (by decide) (by omega) rfl rfl dL_law_589 dL_law_590 dL_law_591 dL_law_592 dL_law_593 ?_
  refine z_callI (As := [.int (xs (j + 1))]) hC kC_X6_restore kM_L_82 sh_0 TX6 8 rfl (m_X6_restore hC.dis (xs (j + 1)) u e1) rfl (Nat.le_of_ble_eq_true rfl) (Nat.le_of_ble_eq_true rfl) (Nat.le_of_ble_eq_true rfl) rfl dL_law_594 ?_
  refine z_aload_n (q := 88) hC dL_law_597 rfl rfl ?_
  refine y_arg hC hX hLn 1 (by decide) (by omega) rfl rfl dL_law_598 dL_law_599 dL_law_600 dL_law_601 dL_law_602 ?_
  refine z_callI (As := [.int (xs (j + 1))]) hC kC_X7_restore kM_L_85 sh_88 TX7 39 rfl (m_X7_restore hC.dis (xs (j + 1)) v e2) rfl (Nat.le_of_ble_eq_true rfl) (Nat.le_of_ble_eq_true rfl) (Nat.le_of_ble_eq_true rfl) rfl dL_law_603 ?_
  exact z_icmp_eq hC 634 dL_law_606 (by decide) (fun _ => next t hI2) (fun h => absurd rfl h)
set_option maxHeartbeats 4000000 in
theorem law_count {C : mCtx} {u : MU} {b Ln j : Nat} {xs : Nat → Int32} (hC : mOK cL_law RL 4 2048 84000 C) (hX : mScr C b Ln xs) (hLn : Ln ≤ 2560) (hj : j + 4 < Ln) (hI : Inv u) (next : ∀ t : MU, Inv t → wat C t 634 (lawL C b j) []) : wat C u 611 (lawL C b j) [] := by
  obtain ⟨r, v, t, e1, e2, hI2⟩ := op_count (xs (j + 1)) u hI
  refine z_aload_n (q := 0) hC dL_law_611 rfl rfl ?_
  refine y_arg hC hX hLn 1 (by decide) (by omega) rfl rfl dL_law_612 dL_law_613 dL_law_614 dL_law_615 dL_law_616 ?_
  refine z_callI (As := [.int (xs (j + 1))]) hC kC_X6_count kM_L_86 sh_0 TX6 8 rfl (m_X6_count hC.dis (xs (j + 1)) u e1) rfl (Nat.le_of_ble_eq_true rfl) (Nat.le_of_ble_eq_true rfl) (Nat.le_of_ble_eq_true rfl) rfl dL_law_617 ?_
  refine z_aload_n (q := 88) hC dL_law_620 rfl rfl ?_
  refine y_arg hC hX hLn 1 (by decide) (by omega) rfl rfl dL_law_621 dL_law_622 dL_law_623 dL_law_624 dL_law_625 ?_
  refine z_callI (As := [.int (xs (j + 1))]) hC kC_X7_count kM_L_89 sh_88 TX7 39 rfl (m_X7_count hC.dis (xs (j + 1)) v e2) rfl (Nat.le_of_ble_eq_true rfl) (Nat.le_of_ble_eq_true rfl) (Nat.le_of_ble_eq_true rfl) rfl dL_law_626 ?_
  exact z_icmp_eq hC 634 dL_law_629 (by decide) (fun _ => next t hI2) (fun h => absurd rfl h)
