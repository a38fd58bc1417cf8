/-! rows of the law -/
section
variable {I : xOp} {u : xMem} {P : Option Value → xMem → Prop} {st : List Value} {v0 v1 v2 v3 v4 v5 v6 v7 v8 v9 v10 v11 v12 v13 v14 v15 : Value} {x0 x1 x2 x3 x4 x5 x6 x7 x8 x9 x10 x11 x12 x13 x14 x15 : Int32} {a0 a1 a2 a3 a4 a5 a6 a7 a8 a9 a10 a11 a12 a13 a14 a15 : Nat} {j0 j1 j2 j3 j4 j5 j6 j7 j8 j9 j10 j11 j12 j13 j14 j15 : Int64} {y1 y2 y3 y4 y5 y6 y7 y8 : Int32} {b1 b2 b3 b4 b5 b6 b7 b8 : Nat} {w1 w2 w3 w4 : Int64}
theorem h0_23 : xcd2 I 0 23 = oIl 4 25 := ch_0 (Nat.le_of_ble_eq_true rfl) rfl
theorem q0_23 : zl I 0 23 [v0, v1, v2, v3, .int x4, v5, v6] st u P = zl I 0 25 [v0, v1, v2, v3, .int x4, v5, v6] (.int x4 :: st) u P := zl_Il h0_23 rfl
theorem h0_25 : xcd2 I 0 25 = oAl 0 26 := ch_0 (Nat.le_of_ble_eq_true rfl) rfl
theorem q0_25 : zl I 0 25 [.ref a0, v1, v2, v3, v4, v5, v6] st u P = zl I 0 26 [.ref a0, v1, v2, v3, v4, v5, v6] (.ref a0 :: st) u P := zl_Al h0_25 rfl
theorem h0_26 : xcd2 I 0 26 = oScl 27 := ch_0 (Nat.le_of_ble_eq_true rfl) rfl
theorem q0_26 : zl I 0 26 [v0, v1, v2, v3, v4, v5, v6] (.ref b1 :: st) u P = (b1 = 2000000 ∧ zl I 0 27 [v0, v1, v2, v3, v4, v5, v6] (.int (Int32.ofNat (xN u 2000000)) :: st) u P) := zl_Scl h0_26
theorem h0_27 : xcd2 I 0 27 = oI 8 29 := ch_0 (Nat.le_of_ble_eq_true rfl) rfl
theorem q0_27 : zl I 0 27 [v0, v1, v2, v3, v4, v5, v6] st u P = zl I 0 29 [v0, v1, v2, v3, v4, v5, v6] (.int 8 :: st) u P := zl_I h0_27
theorem h0_29 : xcd2 I 0 29 = oB (fun x y => x - y) 30 := ch_0 (Nat.le_of_ble_eq_true rfl) rfl
theorem q0_29 : zl I 0 29 [v0, v1, v2, v3, v4, v5, v6] (.int y1 :: .int y2 :: st) u P = zl I 0 30 [v0, v1, v2, v3, v4, v5, v6] (.int (y2 - y1) :: st) u P := zl_B h0_29
theorem h0_30 : xcd2 I 0 30 = oCmp (fun x y => decide (y < x)) 2244 33 := ch_0 (Nat.le_of_ble_eq_true rfl) rfl
theorem q0_30 : zl I 0 30 [v0, v1, v2, v3, v4, v5, v6] (.int y1 :: .int y2 :: st) u P = (if y1 < y2 then zl I 0 2244 [v0, v1, v2, v3, v4, v5, v6] st u P else zl I 0 33 [v0, v1, v2, v3, v4, v5, v6] st u P) := zl_Cmp h0_30
theorem h0_33 : xcd2 I 0 33 = oAl 0 34 := ch_0 (Nat.le_of_ble_eq_true rfl) rfl
theorem q0_33 : zl I 0 33 [.ref a0, v1, v2, v3, v4, v5, v6] st u P = zl I 0 34 [.ref a0, v1, v2, v3, v4, v5, v6] (.ref a0 :: st) u P := zl_Al h0_33 rfl
theorem h0_34 : xcd2 I 0 34 = oIl 4 36 := ch_0 (Nat.le_of_ble_eq_true rfl) rfl
theorem q0_34 : zl I 0 34 [v0, v1, v2, v3, .int x4, v5, v6] st u P = zl I 0 36 [v0, v1, v2, v3, .int x4, v5, v6] (.int x4 :: st) u P := zl_Il h0_34 rfl
theorem h0_36 : xcd2 I 0 36 = oScr 37 := ch_0 (Nat.le_of_ble_eq_true rfl) rfl
theorem q0_36 : zl I 0 36 [v0, v1, v2, v3, v4, v5, v6] (.int y1 :: .ref b1 :: st) u P = ((b1 = 2000000 ∧ xinb y1 (xN u 2000000)) ∧ zl I 0 37 [v0, v1, v2, v3, v4, v5, v6] (.int (xI u 2000000 (xix y1)) :: st) u P) := zl_Scr h0_36
theorem h0_37 : xcd2 I 0 37 = oI 63 39 := ch_0 (Nat.le_of_ble_eq_true rfl) rfl
theorem q0_37 : zl I 0 37 [v0, v1, v2, v3, v4, v5, v6] st u P = zl I 0 39 [v0, v1, v2, v3, v4, v5, v6] (.int 63 :: st) u P := zl_I h0_37
theorem h0_39 : xcd2 I 0 39 = oB (fun x y => x &&& y) 40 := ch_0 (Nat.le_of_ble_eq_true rfl) rfl
theorem q0_39 : zl I 0 39 [v0, v1, v2, v3, v4, v5, v6] (.int y1 :: .int y2 :: st) u P = zl I 0 40 [v0, v1, v2, v3, v4, v5, v6] (.int (y2 &&& y1) :: st) u P := zl_B h0_39
theorem h0_40 : xcd2 I 0 40 = oSw [244, 317, 342, 355, 368, 393, 418, 455, 492, 553, 590, 651, 712, 749, 810, 859, 920, 969, 1018, 1055, 1092, 1141, 1202, 1239, 1300, 1337, 1424, 1525, 1562, 1611, 1624, 1661, 1698, 1711, 1748, 1785, 1822, 1835, 1860, 1885, 1972, 2009, 2070, 2131, 2144, 2200, 2225] 2238 := ch_0 (Nat.le_of_ble_eq_true rfl) rfl
theorem q0_40 : zl I 0 40 [v0, v1, v2, v3, v4, v5, v6] (.int y1 :: st) u P = zl I 0 (if y1 < 0 ∨ 47 ≤ y1 then 2238 else [244, 317, 342, 355, 368, 393, 418, 455, 492, 553, 590, 651, 712, 749, 810, 859, 920, 969, 1018, 1055, 1092, 1141, 1202, 1239, 1300, 1337, 1424, 1525, 1562, 1611, 1624, 1661, 1698, 1711, 1748, 1785, 1822, 1835, 1860, 1885, 1972, 2009, 2070, 2131, 2144, 2200, 2225].getD y1.toNatClampNeg 2238) [v0, v1, v2, v3, v4, v5, v6] st u P := zl_Sw h0_40
theorem h0_244 : xcd2 I 0 244 = oAl 1 245 := ch_0 (Nat.le_of_ble_eq_true rfl) rfl
theorem q0_244 : zl I 0 244 [v0, .ref a1, v2, v3, v4, v5, v6] st u P = zl I 0 245 [v0, .ref a1, v2, v3, v4, v5, v6] (.ref a1 :: st) u P := zl_Al h0_244 rfl
theorem h0_245 : xcd2 I 0 245 = oAl 0 246 := ch_0 (Nat.le_of_ble_eq_true rfl) rfl
theorem q0_245 : zl I 0 245 [.ref a0, v1, v2, v3, v4, v5, v6] st u P = zl I 0 246 [.ref a0, v1, v2, v3, v4, v5, v6] (.ref a0 :: st) u P := zl_Al h0_245 rfl
theorem h0_246 : xcd2 I 0 246 = oIl 4 248 := ch_0 (Nat.le_of_ble_eq_true rfl) rfl
theorem q0_246 : zl I 0 246 [v0, v1, v2, v3, .int x4, v5, v6] st u P = zl I 0 248 [v0, v1, v2, v3, .int x4, v5, v6] (.int x4 :: st) u P := zl_Il h0_246 rfl
theorem h0_248 : xcd2 I 0 248 = oI 1 249 := ch_0 (Nat.le_of_ble_eq_true rfl) rfl
theorem q0_248 : zl I 0 248 [v0, v1, v2, v3, v4, v5, v6] st u P = zl I 0 249 [v0, v1, v2, v3, v4, v5, v6] (.int 1 :: st) u P := zl_I h0_248
theorem h0_249 : xcd2 I 0 249 = oB (fun x y => x + y) 250 := ch_0 (Nat.le_of_ble_eq_true rfl) rfl
theorem q0_249 : zl I 0 249 [v0, v1, v2, v3, v4, v5, v6] (.int y1 :: .int y2 :: st) u P = zl I 0 250 [v0, v1, v2, v3, v4, v5, v6] (.int (y2 + y1) :: st) u P := zl_B h0_249
theorem h0_250 : xcd2 I 0 250 = oScr 251 := ch_1 (Nat.le_of_ble_eq_true rfl) rfl
theorem q0_250 : zl I 0 250 [v0, v1, v2, v3, v4, v5, v6] (.int y1 :: .ref b1 :: st) u P = ((b1 = 2000000 ∧ xinb y1 (xN u 2000000)) ∧ zl I 0 251 [v0, v1, v2, v3, v4, v5, v6] (.int (xI u 2000000 (xix y1)) :: st) u P) := zl_Scr h0_250
theorem h0_251 : xcd2 I 0 251 = oAl 0 252 := ch_1 (Nat.le_of_ble_eq_true rfl) rfl
theorem q0_251 : zl I 0 251 [.ref a0, v1, v2, v3, v4, v5, v6] st u P = zl I 0 252 [.ref a0, v1, v2, v3, v4, v5, v6] (.ref a0 :: st) u P := zl_Al h0_251 rfl
theorem h0_252 : xcd2 I 0 252 = oIl 4 254 := ch_1 (Nat.le_of_ble_eq_true rfl) rfl
theorem q0_252 : zl I 0 252 [v0, v1, v2, v3, .int x4, v5, v6] st u P = zl I 0 254 [v0, v1, v2, v3, .int x4, v5, v6] (.int x4 :: st) u P := zl_Il h0_252 rfl
theorem h0_254 : xcd2 I 0 254 = oI 2 255 := ch_1 (Nat.le_of_ble_eq_true rfl) rfl
theorem q0_254 : zl I 0 254 [v0, v1, v2, v3, v4, v5, v6] st u P = zl I 0 255 [v0, v1, v2, v3, v4, v5, v6] (.int 2 :: st) u P := zl_I h0_254
theorem h0_255 : xcd2 I 0 255 = oB (fun x y => x + y) 256 := ch_1 (Nat.le_of_ble_eq_true rfl) rfl
theorem q0_255 : zl I 0 255 [v0, v1, v2, v3, v4, v5, v6] (.int y1 :: .int y2 :: st) u P = zl I 0 256 [v0, v1, v2, v3, v4, v5, v6] (.int (y2 + y1) :: st) u P := zl_B h0_255
theorem h0_256 : xcd2 I 0 256 = oScr 257 := ch_1 (Nat.le_of_ble_eq_true rfl) rfl
theorem q0_256 : zl I 0 256 [v0, v1, v2, v3, v4, v5, v6] (.int y1 :: .ref b1 :: st) u P = ((b1 = 2000000 ∧ xinb y1 (xN u 2000000)) ∧ zl I 0 257 [v0, v1, v2, v3, v4, v5, v6] (.int (xI u 2000000 (xix y1)) :: st) u P) := zl_Scr h0_256
theorem h0_257 : xcd2 I 0 257 = oAl 0 258 := ch_1 (Nat.le_of_ble_eq_true rfl) rfl
theorem q0_257 : zl I 0 257 [.ref a0, v1, v2, v3, v4, v5, v6] st u P = zl I 0 258 [.ref a0, v1, v2, v3, v4, v5, v6] (.ref a0 :: st) u P := zl_Al h0_257 rfl
theorem h0_258 : xcd2 I 0 258 = oIl 4 260 := ch_1 (Nat.le_of_ble_eq_true rfl) rfl
theorem q0_258 : zl I 0 258 [v0, v1, v2, v3, .int x4, v5, v6] st u P = zl I 0 260 [v0, v1, v2, v3, .int x4, v5, v6] (.int x4 :: st) u P := zl_Il h0_258 rfl
theorem h0_260 : xcd2 I 0 260 = oI 3 261 := ch_1 (Nat.le_of_ble_eq_true rfl) rfl
theorem q0_260 : zl I 0 260 [v0, v1, v2, v3, v4, v5, v6] st u P = zl I 0 261 [v0, v1, v2, v3, v4, v5, v6] (.int 3 :: st) u P := zl_I h0_260
theorem h0_261 : xcd2 I 0 261 = oB (fun x y => x + y) 262 := ch_1 (Nat.le_of_ble_eq_true rfl) rfl
theorem q0_261 : zl I 0 261 [v0, v1, v2, v3, v4, v5, v6] (.int y1 :: .int y2 :: st) u P = zl I 0 262 [v0, v1, v2, v3, v4, v5, v6] (.int (y2 + y1) :: st) u P := zl_B h0_261
theorem h0_262 : xcd2 I 0 262 = oScr 263 := ch_1 (Nat.le_of_ble_eq_true rfl) rfl
theorem q0_262 : zl I 0 262 [v0, v1, v2, v3, v4, v5, v6] (.int y1 :: .ref b1 :: st) u P = ((b1 = 2000000 ∧ xinb y1 (xN u 2000000)) ∧ zl I 0 263 [v0, v1, v2, v3, v4, v5, v6] (.int (xI u 2000000 (xix y1)) :: st) u P) := zl_Scr h0_262
theorem h0_263 : xcd2 I 0 263 = oAl 0 264 := ch_1 (Nat.le_of_ble_eq_true rfl) rfl
theorem q0_263 : zl I 0 263 [.ref a0, v1, v2, v3, v4, v5, v6] st u P = zl I 0 264 [.ref a0, v1, v2, v3, v4, v5, v6] (.ref a0 :: st) u P := zl_Al h0_263 rfl
theorem h0_264 : xcd2 I 0 264 = oIl 4 266 := ch_1 (Nat.le_of_ble_eq_true rfl) rfl
theorem q0_264 : zl I 0 264 [v0, v1, v2, v3, .int x4, v5, v6] st u P = zl I 0 266 [v0, v1, v2, v3, .int x4, v5, v6] (.int x4 :: st) u P := zl_Il h0_264 rfl
theorem h0_266 : xcd2 I 0 266 = oI 4 267 := ch_1 (Nat.le_of_ble_eq_true rfl) rfl
theorem q0_266 : zl I 0 266 [v0, v1, v2, v3, v4, v5, v6] st u P = zl I 0 267 [v0, v1, v2, v3, v4, v5, v6] (.int 4 :: st) u P := zl_I h0_266
theorem h0_267 : xcd2 I 0 267 = oB (fun x y => x + y) 268 := ch_1 (Nat.le_of_ble_eq_true rfl) rfl
theorem q0_267 : zl I 0 267 [v0, v1, v2, v3, v4, v5, v6] (.int y1 :: .int y2 :: st) u P = zl I 0 268 [v0, v1, v2, v3, v4, v5, v6] (.int (y2 + y1) :: st) u P := zl_B h0_267
theorem h0_268 : xcd2 I 0 268 = oScr 269 := ch_1 (Nat.le_of_ble_eq_true rfl) rfl
theorem q0_268 : zl I 0 268 [v0, v1, v2, v3, v4, v5, v6] (.int y1 :: .ref b1 :: st) u P = ((b1 = 2000000 ∧ xinb y1 (xN u 2000000)) ∧ zl I 0 269 [v0, v1, v2, v3, v4, v5, v6] (.int (xI u 2000000 (xix y1)) :: st) u P) := zl_Scr h0_268
theorem h0_269 : xcd2 I 0 269 = oAl 0 270 := ch_1 (Nat.le_of_ble_eq_true rfl) rfl
theorem q0_269 : zl I 0 269 [.ref a0, v1, v2, v3, v4, v5, v6] st u P = zl I 0 270 [.ref a0, v1, v2, v3, v4, v5, v6] (.ref a0 :: st) u P := zl_Al h0_269 rfl
theorem h0_270 : xcd2 I 0 270 = oIl 4 272 := ch_1 (Nat.le_of_ble_eq_true rfl) rfl
theorem q0_270 : zl I 0 270 [v0, v1, v2, v3, .int x4, v5, v6] st u P = zl I 0 272 [v0, v1, v2, v3, .int x4, v5, v6] (.int x4 :: st) u P := zl_Il h0_270 rfl
theorem h0_272 : xcd2 I 0 272 = oI 5 273 := ch_1 (Nat.le_of_ble_eq_true rfl) rfl
theorem q0_272 : zl I 0 272 [v0, v1, v2, v3, v4, v5, v6] st u P = zl I 0 273 [v0, v1, v2, v3, v4, v5, v6] (.int 5 :: st) u P := zl_I h0_272
theorem h0_273 : xcd2 I 0 273 = oB (fun x y => x + y) 274 := ch_1 (Nat.le_of_ble_eq_true rfl) rfl
theorem q0_273 : zl I 0 273 [v0, v1, v2, v3, v4, v5, v6] (.int y1 :: .int y2 :: st) u P = zl I 0 274 [v0, v1, v2, v3, v4, v5, v6] (.int (y2 + y1) :: st) u P := zl_B h0_273
theorem h0_274 : xcd2 I 0 274 = oScr 275 := ch_1 (Nat.le_of_ble_eq_true rfl) rfl
theorem q0_274 : zl I 0 274 [v0, v1, v2, v3, v4, v5, v6] (.int y1 :: .ref b1 :: st) u P = ((b1 = 2000000 ∧ xinb y1 (xN u 2000000)) ∧ zl I 0 275 [v0, v1, v2, v3, v4, v5, v6] (.int (xI u 2000000 (xix y1)) :: st) u P) := zl_Scr h0_274
theorem h0_275 : xcd2 I 0 275 = oCalV 10 107 5 278 := ch_1 (Nat.le_of_ble_eq_true rfl) rfl
theorem q0_275 : zl I 0 275 [v0, v1, v2, v3, v4, v5, v6] (.int y5 :: .int y4 :: .int y3 :: .int y2 :: .int y1 :: .ref b8 :: st) u P = ((xIs u b8 10 ∧ xcat st ≤ 8) ∧ zl I 107 0 [.ref b8, .int y1, .int y2, .int y3, .int y4, .int y5, .null] [] u (fun r u2 => zl I 0 278 [v0, v1, v2, v3, v4, v5, v6] (r.toList ++ st) u2 P)) := zl_CV h0_275 rfl rfl rfl ⟨Nat.le_of_ble_eq_true rfl, Nat.succ_ne_zero _, by decide⟩ rfl
theorem h0_278 : xcd2 I 0 278 = oAl 2 279 := ch_1 (Nat.le_of_ble_eq_true rfl) rfl
theorem q0_278 : zl I 0 278 [v0, v1, .ref a2, v3, v4, v5, v6] st u P = zl I 0 279 [v0, v1, .ref a2, v3, v4, v5, v6] (.ref a2 :: st) u P := zl_Al h0_278 rfl
theorem h0_279 : xcd2 I 0 279 = oAl 0 280 := ch_1 (Nat.le_of_ble_eq_true rfl) rfl
theorem q0_279 : zl I 0 279 [.ref a0, v1, v2, v3, v4, v5, v6] st u P = zl I 0 280 [.ref a0, v1, v2, v3, v4, v5, v6] (.ref a0 :: st) u P := zl_Al h0_279 rfl
theorem h0_280 : xcd2 I 0 280 = oIl 4 282 := ch_1 (Nat.le_of_ble_eq_true rfl) rfl
theorem q0_280 : zl I 0 280 [v0, v1, v2, v3, .int x4, v5, v6] st u P = zl I 0 282 [v0, v1, v2, v3, .int x4, v5, v6] (.int x4 :: st) u P := zl_Il h0_280 rfl
theorem h0_282 : xcd2 I 0 282 = oI 1 283 := ch_1 (Nat.le_of_ble_eq_true rfl) rfl
theorem q0_282 : zl I 0 282 [v0, v1, v2, v3, v4, v5, v6] st u P = zl I 0 283 [v0, v1, v2, v3, v4, v5, v6] (.int 1 :: st) u P := zl_I h0_282
theorem h0_283 : xcd2 I 0 283 = oB (fun x y => x + y) 284 := ch_1 (Nat.le_of_ble_eq_true rfl) rfl
theorem q0_283 : zl I 0 283 [v0, v1, v2, v3, v4, v5, v6] (.int y1 :: .int y2 :: st) u P = zl I 0 284 [v0, v1, v2, v3, v4, v5, v6] (.int (y2 + y1) :: st) u P := zl_B h0_283
theorem h0_284 : xcd2 I 0 284 = oScr 285 := ch_1 (Nat.le_of_ble_eq_true rfl) rfl
theorem q0_284 : zl I 0 284 [v0, v1, v2, v3, v4, v5, v6] (.int y1 :: .ref b1 :: st) u P = ((b1 = 2000000 ∧ xinb y1 (xN u 2000000)) ∧ zl I 0 285 [v0, v1, v2, v3, v4, v5, v6] (.int (xI u 2000000 (xix y1)) :: st) u P) := zl_Scr h0_284
theorem h0_285 : xcd2 I 0 285 = oAl 0 286 := ch_1 (Nat.le_of_ble_eq_true rfl) rfl
theorem q0_285 : zl I 0 285 [.ref a0, v1, v2, v3, v4, v5, v6] st u P = zl I 0 286 [.ref a0, v1, v2, v3, v4, v5, v6] (.ref a0 :: st) u P := zl_Al h0_285 rfl
theorem h0_286 : xcd2 I 0 286 = oIl 4 288 := ch_1 (Nat.le_of_ble_eq_true rfl) rfl
theorem q0_286 : zl I 0 286 [v0, v1, v2, v3, .int x4, v5, v6] st u P = zl I 0 288 [v0, v1, v2, v3, .int x4, v5, v6] (.int x4 :: st) u P := zl_Il h0_286 rfl
theorem h0_288 : xcd2 I 0 288 = oI 2 289 := ch_2 (Nat.le_of_ble_eq_true rfl) rfl
theorem q0_288 : zl I 0 288 [v0, v1, v2, v3, v4, v5, v6] st u P = zl I 0 289 [v0, v1, v2, v3, v4, v5, v6] (.int 2 :: st) u P := zl_I h0_288
theorem h0_289 : xcd2 I 0 289 = oB (fun x y => x + y) 290 := ch_2 (Nat.le_of_ble_eq_true rfl) rfl
theorem q0_289 : zl I 0 289 [v0, v1, v2, v3, v4, v5, v6] (.int y1 :: .int y2 :: st) u P = zl I 0 290 [v0, v1, v2, v3, v4, v5, v6] (.int (y2 + y1) :: st) u P := zl_B h0_289
theorem h0_290 : xcd2 I 0 290 = oScr 291 := ch_2 (Nat.le_of_ble_eq_true rfl) rfl
theorem q0_290 : zl I 0 290 [v0, v1, v2, v3, v4, v5, v6] (.int y1 :: .ref b1 :: st) u P = ((b1 = 2000000 ∧ xinb y1 (xN u 2000000)) ∧ zl I 0 291 [v0, v1, v2, v3, v4, v5, v6] (.int (xI u 2000000 (xix y1)) :: st) u P) := zl_Scr h0_290
theorem h0_291 : xcd2 I 0 291 = oAl 0 292 := ch_2 (Nat.le_of_ble_eq_true rfl) rfl
theorem q0_291 : zl I 0 291 [.ref a0, v1, v2, v3, v4, v5, v6] st u P = zl I 0 292 [.ref a0, v1, v2, v3, v4, v5, v6] (.ref a0 :: st) u P := zl_Al h0_291 rfl
theorem h0_292 : xcd2 I 0 292 = oIl 4 294 := ch_2 (Nat.le_of_ble_eq_true rfl) rfl
theorem q0_292 : zl I 0 292 [v0, v1, v2, v3, .int x4, v5, v6] st u P = zl I 0 294 [v0, v1, v2, v3, .int x4, v5, v6] (.int x4 :: st) u P := zl_Il h0_292 rfl
theorem h0_294 : xcd2 I 0 294 = oI 3 295 := ch_2 (Nat.le_of_ble_eq_true rfl) rfl
theorem q0_294 : zl I 0 294 [v0, v1, v2, v3, v4, v5, v6] st u P = zl I 0 295 [v0, v1, v2, v3, v4, v5, v6] (.int 3 :: st) u P := zl_I h0_294
theorem h0_295 : xcd2 I 0 295 = oB (fun x y => x + y) 296 := ch_2 (Nat.le_of_ble_eq_true rfl) rfl
theorem q0_295 : zl I 0 295 [v0, v1, v2, v3, v4, v5, v6] (.int y1 :: .int y2 :: st) u P = zl I 0 296 [v0, v1, v2, v3, v4, v5, v6] (.int (y2 + y1) :: st) u P := zl_B h0_295
theorem h0_296 : xcd2 I 0 296 = oScr 297 := ch_2 (Nat.le_of_ble_eq_true rfl) rfl
theorem q0_296 : zl I 0 296 [v0, v1, v2, v3, v4, v5, v6] (.int y1 :: .ref b1 :: st) u P = ((b1 = 2000000 ∧ xinb y1 (xN u 2000000)) ∧ zl I 0 297 [v0, v1, v2, v3, v4, v5, v6] (.int (xI u 2000000 (xix y1)) :: st) u P) := zl_Scr h0_296
theorem h0_297 : xcd2 I 0 297 = oAl 0 298 := ch_2 (Nat.le_of_ble_eq_true rfl) rfl
theorem q0_297 : zl I 0 297 [.ref a0, v1, v2, v3, v4, v5, v6] st u P = zl I 0 298 [.ref a0, v1, v2, v3, v4, v5, v6] (.ref a0 :: st) u P := zl_Al h0_297 rfl
theorem h0_298 : xcd2 I 0 298 = oIl 4 300 := ch_2 (Nat.le_of_ble_eq_true rfl) rfl
theorem q0_298 : zl I 0 298 [v0, v1, v2, v3, .int x4, v5, v6] st u P = zl I 0 300 [v0, v1, v2, v3, .int x4, v5, v6] (.int x4 :: st) u P := zl_Il h0_298 rfl
theorem h0_300 : xcd2 I 0 300 = oI 4 301 := ch_2 (Nat.le_of_ble_eq_true rfl) rfl
theorem q0_300 : zl I 0 300 [v0, v1, v2, v3, v4, v5, v6] st u P = zl I 0 301 [v0, v1, v2, v3, v4, v5, v6] (.int 4 :: st) u P := zl_I h0_300
theorem h0_301 : xcd2 I 0 301 = oB (fun x y => x + y) 302 := ch_2 (Nat.le_of_ble_eq_true rfl) rfl
theorem q0_301 : zl I 0 301 [v0, v1, v2, v3, v4, v5, v6] (.int y1 :: .int y2 :: st) u P = zl I 0 302 [v0, v1, v2, v3, v4, v5, v6] (.int (y2 + y1) :: st) u P := zl_B h0_301
theorem h0_302 : xcd2 I 0 302 = oScr 303 := ch_2 (Nat.le_of_ble_eq_true rfl) rfl
theorem q0_302 : zl I 0 302 [v0, v1, v2, v3, v4, v5, v6] (.int y1 :: .ref b1 :: st) u P = ((b1 = 2000000 ∧ xinb y1 (xN u 2000000)) ∧ zl I 0 303 [v0, v1, v2, v3, v4, v5, v6] (.int (xI u 2000000 (xix y1)) :: st) u P) := zl_Scr h0_302
theorem h0_303 : xcd2 I 0 303 = oAl 0 304 := ch_2 (Nat.le_of_ble_eq_true rfl) rfl
theorem q0_303 : zl I 0 303 [.ref a0, v1, v2, v3, v4, v5, v6] st u P = zl I 0 304 [.ref a0, v1, v2, v3, v4, v5, v6] (.ref a0 :: st) u P := zl_Al h0_303 rfl
theorem h0_304 : xcd2 I 0 304 = oIl 4 306 := ch_2 (Nat.le_of_ble_eq_true rfl) rfl
theorem q0_304 : zl I 0 304 [v0, v1, v2, v3, .int x4, v5, v6] st u P = zl I 0 306 [v0, v1, v2, v3, .int x4, v5, v6] (.int x4 :: st) u P := zl_Il h0_304 rfl
theorem h0_306 : xcd2 I 0 306 = oI 5 307 := ch_2 (Nat.le_of_ble_eq_true rfl) rfl
theorem q0_306 : zl I 0 306 [v0, v1, v2, v3, v4, v5, v6] st u P = zl I 0 307 [v0, v1, v2, v3, v4, v5, v6] (.int 5 :: st) u P := zl_I h0_306
theorem h0_307 : xcd2 I 0 307 = oB (fun x y => x + y) 308 := ch_2 (Nat.le_of_ble_eq_true rfl) rfl
theorem q0_307 : zl I 0 307 [v0, v1, v2, v3, v4, v5, v6] (.int y1 :: .int y2 :: st) u P = zl I 0 308 [v0, v1, v2, v3, v4, v5, v6] (.int (y2 + y1) :: st) u P := zl_B h0_307
theorem h0_308 : xcd2 I 0 308 = oScr 309 := ch_2 (Nat.le_of_ble_eq_true rfl) rfl
theorem q0_308 : zl I 0 308 [v0, v1, v2, v3, v4, v5, v6] (.int y1 :: .ref b1 :: st) u P = ((b1 = 2000000 ∧ xinb y1 (xN u 2000000)) ∧ zl I 0 309 [v0, v1, v2, v3, v4, v5, v6] (.int (xI u 2000000 (xix y1)) :: st) u P) := zl_Scr h0_308
theorem h0_309 : xcd2 I 0 309 = oCalV 11 208 5 312 := ch_2 (Nat.le_of_ble_eq_true rfl) rfl
theorem q0_309 : zl I 0 309 [v0, v1, v2, v3, v4, v5, v6] (.int y5 :: .int y4 :: .int y3 :: .int y2 :: .int y1 :: .ref b8 :: st) u P = ((xIs u b8 11 ∧ xcat st ≤ 8) ∧ zl I 208 0 [.ref b8, .int y1, .int y2, .int y3, .int y4, .int y5, .null, .null] [] u (fun r u2 => zl I 0 312 [v0, v1, v2, v3, v4, v5, v6] (r.toList ++ st) u2 P)) := zl_CV h0_309 rfl rfl rfl ⟨Nat.le_of_ble_eq_true rfl, Nat.succ_ne_zero _, by decide⟩ rfl
theorem h0_312 : xcd2 I 0 312 = oCmp (fun x y => decide (x = y)) 2238 315 := ch_2 (Nat.le_of_ble_eq_true rfl) rfl
theorem q0_312 : zl I 0 312 [v0, v1, v2, v3, v4, v5, v6] (.int y1 :: .int y2 :: st) u P = (if y2 = y1 then zl I 0 2238 [v0, v1, v2, v3, v4, v5, v6] st u P else zl I 0 315 [v0, v1, v2, v3, v4, v5, v6] st u P) := zl_Cmp h0_312
theorem h0_315 : xcd2 I 0 315 = oI 0 316 := ch_2 (Nat.le_of_ble_eq_true rfl) rfl
theorem q0_315 : zl I 0 315 [v0, v1, v2, v3, v4, v5, v6] st u P = zl I 0 316 [v0, v1, v2, v3, v4, v5, v6] (.int 0 :: st) u P := zl_I h0_315
theorem h0_316 : xcd2 I 0 316 = oRz 0 := ch_2 (Nat.le_of_ble_eq_true rfl) rfl
theorem q0_316 : zl I 0 316 [v0, v1, v2, v3, v4, v5, v6] [.int y1] u P = ((y1 = 0 ∨ y1 = 1) ∧ P (some (.int y1)) u) := zl_Rz h0_316
theorem h0_317 : xcd2 I 0 317 = oAl 1 318 := ch_2 (Nat.le_of_ble_eq_true rfl) rfl
theorem q0_317 : zl I 0 317 [v0, .ref a1, v2, v3, v4, v5, v6] st u P = zl I 0 318 [v0, .ref a1, v2, v3, v4, v5, v6] (.ref a1 :: st) u P := zl_Al h0_317 rfl
theorem h0_318 : xcd2 I 0 318 = oAl 0 319 := ch_2 (Nat.le_of_ble_eq_true rfl) rfl
theorem q0_318 : zl I 0 318 [.ref a0, v1, v2, v3, v4, v5, v6] st u P = zl I 0 319 [.ref a0, v1, v2, v3, v4, v5, v6] (.ref a0 :: st) u P := zl_Al h0_318 rfl
theorem h0_319 : xcd2 I 0 319 = oIl 4 321 := ch_2 (Nat.le_of_ble_eq_true rfl) rfl
theorem q0_319 : zl I 0 319 [v0, v1, v2, v3, .int x4, v5, v6] st u P = zl I 0 321 [v0, v1, v2, v3, .int x4, v5, v6] (.int x4 :: st) u P := zl_Il h0_319 rfl
theorem h0_321 : xcd2 I 0 321 = oI 1 322 := ch_2 (Nat.le_of_ble_eq_true rfl) rfl
theorem q0_321 : zl I 0 321 [v0, v1, v2, v3, v4, v5, v6] st u P = zl I 0 322 [v0, v1, v2, v3, v4, v5, v6] (.int 1 :: st) u P := zl_I h0_321
theorem h0_322 : xcd2 I 0 322 = oB (fun x y => x + y) 323 := ch_2 (Nat.le_of_ble_eq_true rfl) rfl
theorem q0_322 : zl I 0 322 [v0, v1, v2, v3, v4, v5, v6] (.int y1 :: .int y2 :: st) u P = zl I 0 323 [v0, v1, v2, v3, v4, v5, v6] (.int (y2 + y1) :: st) u P := zl_B h0_322
theorem h0_323 : xcd2 I 0 323 = oScr 324 := ch_2 (Nat.le_of_ble_eq_true rfl) rfl
theorem q0_323 : zl I 0 323 [v0, v1, v2, v3, v4, v5, v6] (.int y1 :: .ref b1 :: st) u P = ((b1 = 2000000 ∧ xinb y1 (xN u 2000000)) ∧ zl I 0 324 [v0, v1, v2, v3, v4, v5, v6] (.int (xI u 2000000 (xix y1)) :: st) u P) := zl_Scr h0_323
theorem h0_324 : xcd2 I 0 324 = oCalV 10 108 1 327 := ch_2 (Nat.le_of_ble_eq_true rfl) rfl
theorem q0_324 : zl I 0 324 [v0, v1, v2, v3, v4, v5, v6] (.int y1 :: .ref b8 :: st) u P = ((xIs u b8 10 ∧ xcat st ≤ 8) ∧ zl I 108 0 [.ref b8, .int y1, .null] [] u (fun r u2 => zl I 0 327 [v0, v1, v2, v3, v4, v5, v6] (r.toList ++ st) u2 P)) := zl_CV h0_324 rfl rfl rfl ⟨Nat.le_of_ble_eq_true rfl, Nat.succ_ne_zero _, by decide⟩ rfl
theorem h0_327 : xcd2 I 0 327 = oAl 2 328 := ch_2 (Nat.le_of_ble_eq_true rfl) rfl
theorem q0_327 : zl I 0 327 [v0, v1, .ref a2, v3, v4, v5, v6] st u P = zl I 0 328 [v0, v1, .ref a2, v3, v4, v5, v6] (.ref a2 :: st) u P := zl_Al h0_327 rfl
theorem h0_328 : xcd2 I 0 328 = oAl 0 329 := ch_3 (Nat.le_of_ble_eq_true rfl) rfl
theorem q0_328 : zl I 0 328 [.ref a0, v1, v2, v3, v4, v5, v6] st u P = zl I 0 329 [.ref a0, v1, v2, v3, v4, v5, v6] (.ref a0 :: st) u P := zl_Al h0_328 rfl
theorem h0_329 : xcd2 I 0 329 = oIl 4 331 := ch_3 (Nat.le_of_ble_eq_true rfl) rfl
theorem q0_329 : zl I 0 329 [v0, v1, v2, v3, .int x4, v5, v6] st u P = zl I 0 331 [v0, v1, v2, v3, .int x4, v5, v6] (.int x4 :: st) u P := zl_Il h0_329 rfl
theorem h0_331 : xcd2 I 0 331 = oI 1 332 := ch_3 (Nat.le_of_ble_eq_true rfl) rfl
theorem q0_331 : zl I 0 331 [v0, v1, v2, v3, v4, v5, v6] st u P = zl I 0 332 [v0, v1, v2, v3, v4, v5, v6] (.int 1 :: st) u P := zl_I h0_331
theorem h0_332 : xcd2 I 0 332 = oB (fun x y => x + y) 333 := ch_3 (Nat.le_of_ble_eq_true rfl) rfl
theorem q0_332 : zl I 0 332 [v0, v1, v2, v3, v4, v5, v6] (.int y1 :: .int y2 :: st) u P = zl I 0 333 [v0, v1, v2, v3, v4, v5, v6] (.int (y2 + y1) :: st) u P := zl_B h0_332
theorem h0_333 : xcd2 I 0 333 = oScr 334 := ch_3 (Nat.le_of_ble_eq_true rfl) rfl
theorem q0_333 : zl I 0 333 [v0, v1, v2, v3, v4, v5, v6] (.int y1 :: .ref b1 :: st) u P = ((b1 = 2000000 ∧ xinb y1 (xN u 2000000)) ∧ zl I 0 334 [v0, v1, v2, v3, v4, v5, v6] (.int (xI u 2000000 (xix y1)) :: st) u P) := zl_Scr h0_333
theorem h0_334 : xcd2 I 0 334 = oCalV 11 209 1 337 := ch_3 (Nat.le_of_ble_eq_true rfl) rfl
theorem q0_334 : zl I 0 334 [v0, v1, v2, v3, v4, v5, v6] (.int y1 :: .ref b8 :: st) u P = ((xIs u b8 11 ∧ xcat st ≤ 8) ∧ zl I 209 0 [.ref b8, .int y1, .null] [] u (fun r u2 => zl I 0 337 [v0, v1, v2, v3, v4, v5, v6] (r.toList ++ st) u2 P)) := zl_CV h0_334 rfl rfl rfl ⟨Nat.le_of_ble_eq_true rfl, Nat.succ_ne_zero _, by decide⟩ rfl
theorem h0_337 : xcd2 I 0 337 = oCmp (fun x y => decide (x = y)) 2238 340 := ch_3 (Nat.le_of_ble_eq_true rfl) rfl
theorem q0_337 : zl I 0 337 [v0, v1, v2, v3, v4, v5, v6] (.int y1 :: .int y2 :: st) u P = (if y2 = y1 then zl I 0 2238 [v0, v1, v2, v3, v4, v5, v6] st u P else zl I 0 340 [v0, v1, v2, v3, v4, v5, v6] st u P) := zl_Cmp h0_337
theorem h0_340 : xcd2 I 0 340 = oI 0 341 := ch_3 (Nat.le_of_ble_eq_true rfl) rfl
theorem q0_340 : zl I 0 340 [v0, v1, v2, v3, v4, v5, v6] st u P = zl I 0 341 [v0, v1, v2, v3, v4, v5, v6] (.int 0 :: st) u P := zl_I h0_340
theorem h0_341 : xcd2 I 0 341 = oRz 0 := ch_3 (Nat.le_of_ble_eq_true rfl) rfl
theorem q0_341 : zl I 0 341 [v0, v1, v2, v3, v4, v5, v6] [.int y1] u P = ((y1 = 0 ∨ y1 = 1) ∧ P (some (.int y1)) u) := zl_Rz h0_341
theorem h0_342 : xcd2 I 0 342 = oAl 1 343 := ch_3 (Nat.le_of_ble_eq_true rfl) rfl
theorem q0_342 : zl I 0 342 [v0, .ref a1, v2, v3, v4, v5, v6] st u P = zl I 0 343 [v0, .ref a1, v2, v3, v4, v5, v6] (.ref a1 :: st) u P := zl_Al h0_342 rfl
theorem h0_343 : xcd2 I 0 343 = oCalV 10 109 0 346 := ch_3 (Nat.le_of_ble_eq_true rfl) rfl
theorem q0_343 : zl I 0 343 [v0, v1, v2, v3, v4, v5, v6] (.ref b8 :: st) u P = ((xIs u b8 10 ∧ xcat st ≤ 8) ∧ zl I 109 0 [.ref b8] [] u (fun r u2 => zl I 0 346 [v0, v1, v2, v3, v4, v5, v6] (r.toList ++ st) u2 P)) := zl_CV h0_343 rfl rfl rfl ⟨Nat.le_of_ble_eq_true rfl, Nat.succ_ne_zero _, by decide⟩ rfl
theorem h0_346 : xcd2 I 0 346 = oAl 2 347 := ch_3 (Nat.le_of_ble_eq_true rfl) rfl
theorem q0_346 : zl I 0 346 [v0, v1, .ref a2, v3, v4, v5, v6] st u P = zl I 0 347 [v0, v1, .ref a2, v3, v4, v5, v6] (.ref a2 :: st) u P := zl_Al h0_346 rfl
theorem h0_347 : xcd2 I 0 347 = oCalV 11 210 0 350 := ch_3 (Nat.le_of_ble_eq_true rfl) rfl
theorem q0_347 : zl I 0 347 [v0, v1, v2, v3, v4, v5, v6] (.ref b8 :: st) u P = ((xIs u b8 11 ∧ xcat st ≤ 8) ∧ zl I 210 0 [.ref b8] [] u (fun r u2 => zl I 0 350 [v0, v1, v2, v3, v4, v5, v6] (r.toList ++ st) u2 P)) := zl_CV h0_347 rfl rfl rfl ⟨Nat.le_of_ble_eq_true rfl, Nat.succ_ne_zero _, by decide⟩ rfl
theorem h0_350 : xcd2 I 0 350 = oCmp (fun x y => decide (x = y)) 2238 353 := ch_3 (Nat.le_of_ble_eq_true rfl) rfl
theorem q0_350 : zl I 0 350 [v0, v1, v2, v3, v4, v5, v6] (.int y1 :: .int y2 :: st) u P = (if y2 = y1 then zl I 0 2238 [v0, v1, v2, v3, v4, v5, v6] st u P else zl I 0 353 [v0, v1, v2, v3, v4, v5, v6] st u P) := zl_Cmp h0_350
theorem h0_353 : xcd2 I 0 353 = oI 0 354 := ch_3 (Nat.le_of_ble_eq_true rfl) rfl
theorem q0_353 : zl I 0 353 [v0, v1, v2, v3, v4, v5, v6] st u P = zl I 0 354 [v0, v1, v2, v3, v4, v5, v6] (.int 0 :: st) u P := zl_I h0_353
theorem h0_354 : xcd2 I 0 354 = oRz 0 := ch_3 (Nat.le_of_ble_eq_true rfl) rfl
theorem q0_354 : zl I 0 354 [v0, v1, v2, v3, v4, v5, v6] [.int y1] u P = ((y1 = 0 ∨ y1 = 1) ∧ P (some (.int y1)) u) := zl_Rz h0_354
theorem h0_355 : xcd2 I 0 355 = oAl 1 356 := ch_3 (Nat.le_of_ble_eq_true rfl) rfl
theorem q0_355 : zl I 0 355 [v0, .ref a1, v2, v3, v4, v5, v6] st u P = zl I 0 356 [v0, .ref a1, v2, v3, v4, v5, v6] (.ref a1 :: st) u P := zl_Al h0_355 rfl
theorem h0_356 : xcd2 I 0 356 = oCalV 10 110 0 359 := ch_3 (Nat.le_of_ble_eq_true rfl) rfl
theorem q0_356 : zl I 0 356 [v0, v1, v2, v3, v4, v5, v6] (.ref b8 :: st) u P = ((xIs u b8 10 ∧ xcat st ≤ 8) ∧ zl I 110 0 [.ref b8] [] u (fun r u2 => zl I 0 359 [v0, v1, v2, v3, v4, v5, v6] (r.toList ++ st) u2 P)) := zl_CV h0_356 rfl rfl rfl ⟨Nat.le_of_ble_eq_true rfl, Nat.succ_ne_zero _, by decide⟩ rfl
theorem h0_359 : xcd2 I 0 359 = oAl 2 360 := ch_3 (Nat.le_of_ble_eq_true rfl) rfl
theorem q0_359 : zl I 0 359 [v0, v1, .ref a2, v3, v4, v5, v6] st u P = zl I 0 360 [v0, v1, .ref a2, v3, v4, v5, v6] (.ref a2 :: st) u P := zl_Al h0_359 rfl
theorem h0_360 : xcd2 I 0 360 = oCalV 11 211 0 363 := ch_3 (Nat.le_of_ble_eq_true rfl) rfl
theorem q0_360 : zl I 0 360 [v0, v1, v2, v3, v4, v5, v6] (.ref b8 :: st) u P = ((xIs u b8 11 ∧ xcat st ≤ 8) ∧ zl I 211 0 [.ref b8] [] u (fun r u2 => zl I 0 363 [v0, v1, v2, v3, v4, v5, v6] (r.toList ++ st) u2 P)) := zl_CV h0_360 rfl rfl rfl ⟨Nat.le_of_ble_eq_true rfl, Nat.succ_ne_zero _, by decide⟩ rfl
theorem h0_363 : xcd2 I 0 363 = oCmp (fun x y => decide (x = y)) 2238 366 := ch_3 (Nat.le_of_ble_eq_true rfl) rfl
theorem q0_363 : zl I 0 363 [v0, v1, v2, v3, v4, v5, v6] (.int y1 :: .int y2 :: st) u P = (if y2 = y1 then zl I 0 2238 [v0, v1, v2, v3, v4, v5, v6] st u P else zl I 0 366 [v0, v1, v2, v3, v4, v5, v6] st u P) := zl_Cmp h0_363
theorem h0_366 : xcd2 I 0 366 = oI 0 367 := ch_3 (Nat.le_of_ble_eq_true rfl) rfl
theorem q0_366 : zl I 0 366 [v0, v1, v2, v3, v4, v5, v6] st u P = zl I 0 367 [v0, v1, v2, v3, v4, v5, v6] (.int 0 :: st) u P := zl_I h0_366
theorem h0_367 : xcd2 I 0 367 = oRz 0 := ch_3 (Nat.le_of_ble_eq_true rfl) rfl
theorem q0_367 : zl I 0 367 [v0, v1, v2, v3, v4, v5, v6] [.int y1] u P = ((y1 = 0 ∨ y1 = 1) ∧ P (some (.int y1)) u) := zl_Rz h0_367
theorem h0_368 : xcd2 I 0 368 = oAl 1 369 := ch_3 (Nat.le_of_ble_eq_true rfl) rfl
theorem q0_368 : zl I 0 368 [v0, .ref a1, v2, v3, v4, v5, v6] st u P = zl I 0 369 [v0, .ref a1, v2, v3, v4, v5, v6] (.ref a1 :: st) u P := zl_Al h0_368 rfl
theorem h0_369 : xcd2 I 0 369 = oAl 0 370 := ch_3 (Nat.le_of_ble_eq_true rfl) rfl
theorem q0_369 : zl I 0 369 [.ref a0, v1, v2, v3, v4, v5, v6] st u P = zl I 0 370 [.ref a0, v1, v2, v3, v4, v5, v6] (.ref a0 :: st) u P := zl_Al h0_369 rfl
theorem h0_370 : xcd2 I 0 370 = oIl 4 372 := ch_3 (Nat.le_of_ble_eq_true rfl) rfl
theorem q0_370 : zl I 0 370 [v0, v1, v2, v3, .int x4, v5, v6] st u P = zl I 0 372 [v0, v1, v2, v3, .int x4, v5, v6] (.int x4 :: st) u P := zl_Il h0_370 rfl
theorem h0_372 : xcd2 I 0 372 = oI 1 373 := ch_3 (Nat.le_of_ble_eq_true rfl) rfl
theorem q0_372 : zl I 0 372 [v0, v1, v2, v3, v4, v5, v6] st u P = zl I 0 373 [v0, v1, v2, v3, v4, v5, v6] (.int 1 :: st) u P := zl_I h0_372
theorem h0_373 : xcd2 I 0 373 = oB (fun x y => x + y) 374 := ch_3 (Nat.le_of_ble_eq_true rfl) rfl
theorem q0_373 : zl I 0 373 [v0, v1, v2, v3, v4, v5, v6] (.int y1 :: .int y2 :: st) u P = zl I 0 374 [v0, v1, v2, v3, v4, v5, v6] (.int (y2 + y1) :: st) u P := zl_B h0_373
theorem h0_374 : xcd2 I 0 374 = oScr 375 := ch_3 (Nat.le_of_ble_eq_true rfl) rfl
theorem q0_374 : zl I 0 374 [v0, v1, v2, v3, v4, v5, v6] (.int y1 :: .ref b1 :: st) u P = ((b1 = 2000000 ∧ xinb y1 (xN u 2000000)) ∧ zl I 0 375 [v0, v1, v2, v3, v4, v5, v6] (.int (xI u 2000000 (xix y1)) :: st) u P) := zl_Scr h0_374
theorem h0_375 : xcd2 I 0 375 = oCalV 10 111 1 378 := ch_3 (Nat.le_of_ble_eq_true rfl) rfl
theorem q0_375 : zl I 0 375 [v0, v1, v2, v3, v4, v5, v6] (.int y1 :: .ref b8 :: st) u P = ((xIs u b8 10 ∧ xcat st ≤ 8) ∧ zl I 111 0 [.ref b8, .int y1] [] u (fun r u2 => zl I 0 378 [v0, v1, v2, v3, v4, v5, v6] (r.toList ++ st) u2 P)) := zl_CV h0_375 rfl rfl rfl ⟨Nat.le_of_ble_eq_true rfl, Nat.succ_ne_zero _, by decide⟩ rfl
theorem h0_378 : xcd2 I 0 378 = oAl 2 379 := ch_4 (Nat.le_of_ble_eq_true rfl) rfl
theorem q0_378 : zl I 0 378 [v0, v1, .ref a2, v3, v4, v5, v6] st u P = zl I 0 379 [v0, v1, .ref a2, v3, v4, v5, v6] (.ref a2 :: st) u P := zl_Al h0_378 rfl
theorem h0_379 : xcd2 I 0 379 = oAl 0 380 := ch_4 (Nat.le_of_ble_eq_true rfl) rfl
theorem q0_379 : zl I 0 379 [.ref a0, v1, v2, v3, v4, v5, v6] st u P = zl I 0 380 [.ref a0, v1, v2, v3, v4, v5, v6] (.ref a0 :: st) u P := zl_Al h0_379 rfl
theorem h0_380 : xcd2 I 0 380 = oIl 4 382 := ch_4 (Nat.le_of_ble_eq_true rfl) rfl
theorem q0_380 : zl I 0 380 [v0, v1, v2, v3, .int x4, v5, v6] st u P = zl I 0 382 [v0, v1, v2, v3, .int x4, v5, v6] (.int x4 :: st) u P := zl_Il h0_380 rfl
theorem h0_382 : xcd2 I 0 382 = oI 1 383 := ch_4 (Nat.le_of_ble_eq_true rfl) rfl
theorem q0_382 : zl I 0 382 [v0, v1, v2, v3, v4, v5, v6] st u P = zl I 0 383 [v0, v1, v2, v3, v4, v5, v6] (.int 1 :: st) u P := zl_I h0_382
theorem h0_383 : xcd2 I 0 383 = oB (fun x y => x + y) 384 := ch_4 (Nat.le_of_ble_eq_true rfl) rfl
theorem q0_383 : zl I 0 383 [v0, v1, v2, v3, v4, v5, v6] (.int y1 :: .int y2 :: st) u P = zl I 0 384 [v0, v1, v2, v3, v4, v5, v6] (.int (y2 + y1) :: st) u P := zl_B h0_383
theorem h0_384 : xcd2 I 0 384 = oScr 385 := ch_4 (Nat.le_of_ble_eq_true rfl) rfl
theorem q0_384 : zl I 0 384 [v0, v1, v2, v3, v4, v5, v6] (.int y1 :: .ref b1 :: st) u P = ((b1 = 2000000 ∧ xinb y1 (xN u 2000000)) ∧ zl I 0 385 [v0, v1, v2, v3, v4, v5, v6] (.int (xI u 2000000 (xix y1)) :: st) u P) := zl_Scr h0_384
theorem h0_385 : xcd2 I 0 385 = oCalV 11 212 1 388 := ch_4 (Nat.le_of_ble_eq_true rfl) rfl
theorem q0_385 : zl I 0 385 [v0, v1, v2, v3, v4, v5, v6] (.int y1 :: .ref b8 :: st) u P = ((xIs u b8 11 ∧ xcat st ≤ 8) ∧ zl I 212 0 [.ref b8, .int y1] [] u (fun r u2 => zl I 0 388 [v0, v1, v2, v3, v4, v5, v6] (r.toList ++ st) u2 P)) := zl_CV h0_385 rfl rfl rfl ⟨Nat.le_of_ble_eq_true rfl, Nat.succ_ne_zero _, by decide⟩ rfl
theorem h0_388 : xcd2 I 0 388 = oCmp (fun x y => decide (x = y)) 2238 391 := ch_4 (Nat.le_of_ble_eq_true rfl) rfl
theorem q0_388 : zl I 0 388 [v0, v1, v2, v3, v4, v5, v6] (.int y1 :: .int y2 :: st) u P = (if y2 = y1 then zl I 0 2238 [v0, v1, v2, v3, v4, v5, v6] st u P else zl I 0 391 [v0, v1, v2, v3, v4, v5, v6] st u P) := zl_Cmp h0_388
theorem h0_391 : xcd2 I 0 391 = oI 0 392 := ch_4 (Nat.le_of_ble_eq_true rfl) rfl
theorem q0_391 : zl I 0 391 [v0, v1, v2, v3, v4, v5, v6] st u P = zl I 0 392 [v0, v1, v2, v3, v4, v5, v6] (.int 0 :: st) u P := zl_I h0_391
theorem h0_392 : xcd2 I 0 392 = oRz 0 := ch_4 (Nat.le_of_ble_eq_true rfl) rfl
theorem q0_392 : zl I 0 392 [v0, v1, v2, v3, v4, v5, v6] [.int y1] u P = ((y1 = 0 ∨ y1 = 1) ∧ P (some (.int y1)) u) := zl_Rz h0_392
theorem h0_393 : xcd2 I 0 393 = oAl 1 394 := ch_4 (Nat.le_of_ble_eq_true rfl) rfl
theorem q0_393 : zl I 0 393 [v0, .ref a1, v2, v3, v4, v5, v6] st u P = zl I 0 394 [v0, .ref a1, v2, v3, v4, v5, v6] (.ref a1 :: st) u P := zl_Al h0_393 rfl
theorem h0_394 : xcd2 I 0 394 = oAl 0 395 := ch_4 (Nat.le_of_ble_eq_true rfl) rfl
theorem q0_394 : zl I 0 394 [.ref a0, v1, v2, v3, v4, v5, v6] st u P = zl I 0 395 [.ref a0, v1, v2, v3, v4, v5, v6] (.ref a0 :: st) u P := zl_Al h0_394 rfl
theorem h0_395 : xcd2 I 0 395 = oIl 4 397 := ch_4 (Nat.le_of_ble_eq_true rfl) rfl
theorem q0_395 : zl I 0 395 [v0, v1, v2, v3, .int x4, v5, v6] st u P = zl I 0 397 [v0, v1, v2, v3, .int x4, v5, v6] (.int x4 :: st) u P := zl_Il h0_395 rfl
theorem h0_397 : xcd2 I 0 397 = oI 1 398 := ch_4 (Nat.le_of_ble_eq_true rfl) rfl
theorem q0_397 : zl I 0 397 [v0, v1, v2, v3, v4, v5, v6] st u P = zl I 0 398 [v0, v1, v2, v3, v4, v5, v6] (.int 1 :: st) u P := zl_I h0_397
theorem h0_398 : xcd2 I 0 398 = oB (fun x y => x + y) 399 := ch_4 (Nat.le_of_ble_eq_true rfl) rfl
theorem q0_398 : zl I 0 398 [v0, v1, v2, v3, v4, v5, v6] (.int y1 :: .int y2 :: st) u P = zl I 0 399 [v0, v1, v2, v3, v4, v5, v6] (.int (y2 + y1) :: st) u P := zl_B h0_398
theorem h0_399 : xcd2 I 0 399 = oScr 400 := ch_4 (Nat.le_of_ble_eq_true rfl) rfl
theorem q0_399 : zl I 0 399 [v0, v1, v2, v3, v4, v5, v6] (.int y1 :: .ref b1 :: st) u P = ((b1 = 2000000 ∧ xinb y1 (xN u 2000000)) ∧ zl I 0 400 [v0, v1, v2, v3, v4, v5, v6] (.int (xI u 2000000 (xix y1)) :: st) u P) := zl_Scr h0_399
theorem h0_400 : xcd2 I 0 400 = oCalV 10 112 1 403 := ch_4 (Nat.le_of_ble_eq_true rfl) rfl
theorem q0_400 : zl I 0 400 [v0, v1, v2, v3, v4, v5, v6] (.int y1 :: .ref b8 :: st) u P = ((xIs u b8 10 ∧ xcat st ≤ 8) ∧ zl I 112 0 [.ref b8, .int y1] [] u (fun r u2 => zl I 0 403 [v0, v1, v2, v3, v4, v5, v6] (r.toList ++ st) u2 P)) := zl_CV h0_400 rfl rfl rfl ⟨Nat.le_of_ble_eq_true rfl, Nat.succ_ne_zero _, by decide⟩ rfl
theorem h0_403 : xcd2 I 0 403 = oAl 2 404 := ch_4 (Nat.le_of_ble_eq_true rfl) rfl
theorem q0_403 : zl I 0 403 [v0, v1, .ref a2, v3, v4, v5, v6] st u P = zl I 0 404 [v0, v1, .ref a2, v3, v4, v5, v6] (.ref a2 :: st) u P := zl_Al h0_403 rfl
theorem h0_404 : xcd2 I 0 404 = oAl 0 405 := ch_4 (Nat.le_of_ble_eq_true rfl) rfl
theorem q0_404 : zl I 0 404 [.ref a0, v1, v2, v3, v4, v5, v6] st u P = zl I 0 405 [.ref a0, v1, v2, v3, v4, v5, v6] (.ref a0 :: st) u P := zl_Al h0_404 rfl
theorem h0_405 : xcd2 I 0 405 = oIl 4 407 := ch_4 (Nat.le_of_ble_eq_true rfl) rfl
theorem q0_405 : zl I 0 405 [v0, v1, v2, v3, .int x4, v5, v6] st u P = zl I 0 407 [v0, v1, v2, v3, .int x4, v5, v6] (.int x4 :: st) u P := zl_Il h0_405 rfl
theorem h0_407 : xcd2 I 0 407 = oI 1 408 := ch_4 (Nat.le_of_ble_eq_true rfl) rfl
theorem q0_407 : zl I 0 407 [v0, v1, v2, v3, v4, v5, v6] st u P = zl I 0 408 [v0, v1, v2, v3, v4, v5, v6] (.int 1 :: st) u P := zl_I h0_407
theorem h0_408 : xcd2 I 0 408 = oB (fun x y => x + y) 409 := ch_4 (Nat.le_of_ble_eq_true rfl) rfl
theorem q0_408 : zl I 0 408 [v0, v1, v2, v3, v4, v5, v6] (.int y1 :: .int y2 :: st) u P = zl I 0 409 [v0, v1, v2, v3, v4, v5, v6] (.int (y2 + y1) :: st) u P := zl_B h0_408
theorem h0_409 : xcd2 I 0 409 = oScr 410 := ch_4 (Nat.le_of_ble_eq_true rfl) rfl
theorem q0_409 : zl I 0 409 [v0, v1, v2, v3, v4, v5, v6] (.int y1 :: .ref b1 :: st) u P = ((b1 = 2000000 ∧ xinb y1 (xN u 2000000)) ∧ zl I 0 410 [v0, v1, v2, v3, v4, v5, v6] (.int (xI u 2000000 (xix y1)) :: st) u P) := zl_Scr h0_409
theorem h0_410 : xcd2 I 0 410 = oCalV 11 215 1 413 := ch_4 (Nat.le_of_ble_eq_true rfl) rfl
theorem q0_410 : zl I 0 410 [v0, v1, v2, v3, v4, v5, v6] (.int y1 :: .ref b8 :: st) u P = ((xIs u b8 11 ∧ xcat st ≤ 8) ∧ zl I 215 0 [.ref b8, .int y1] [] u (fun r u2 => zl I 0 413 [v0, v1, v2, v3, v4, v5, v6] (r.toList ++ st) u2 P)) := zl_CV h0_410 rfl rfl rfl ⟨Nat.le_of_ble_eq_true rfl, Nat.succ_ne_zero _, by decide⟩ rfl
theorem h0_413 : xcd2 I 0 413 = oCmp (fun x y => decide (x = y)) 2238 416 := ch_4 (Nat.le_of_ble_eq_true rfl) rfl
theorem q0_413 : zl I 0 413 [v0, v1, v2, v3, v4, v5, v6] (.int y1 :: .int y2 :: st) u P = (if y2 = y1 then zl I 0 2238 [v0, v1, v2, v3, v4, v5, v6] st u P else zl I 0 416 [v0, v1, v2, v3, v4, v5, v6] st u P) := zl_Cmp h0_413
theorem h0_416 : xcd2 I 0 416 = oI 0 417 := ch_4 (Nat.le_of_ble_eq_true rfl) rfl
theorem q0_416 : zl I 0 416 [v0, v1, v2, v3, v4, v5, v6] st u P = zl I 0 417 [v0, v1, v2, v3, v4, v5, v6] (.int 0 :: st) u P := zl_I h0_416
theorem h0_417 : xcd2 I 0 417 = oRz 0 := ch_4 (Nat.le_of_ble_eq_true rfl) rfl
theorem q0_417 : zl I 0 417 [v0, v1, v2, v3, v4, v5, v6] [.int y1] u P = ((y1 = 0 ∨ y1 = 1) ∧ P (some (.int y1)) u) := zl_Rz h0_417
theorem h0_418 : xcd2 I 0 418 = oAl 1 419 := ch_4 (Nat.le_of_ble_eq_true rfl) rfl
theorem q0_418 : zl I 0 418 [v0, .ref a1, v2, v3, v4, v5, v6] st u P = zl I 0 419 [v0, .ref a1, v2, v3, v4, v5, v6] (.ref a1 :: st) u P := zl_Al h0_418 rfl
theorem h0_419 : xcd2 I 0 419 = oAl 0 420 := ch_4 (Nat.le_of_ble_eq_true rfl) rfl
theorem q0_419 : zl I 0 419 [.ref a0, v1, v2, v3, v4, v5, v6] st u P = zl I 0 420 [.ref a0, v1, v2, v3, v4, v5, v6] (.ref a0 :: st) u P := zl_Al h0_419 rfl
theorem h0_420 : xcd2 I 0 420 = oIl 4 422 := ch_4 (Nat.le_of_ble_eq_true rfl) rfl
theorem q0_420 : zl I 0 420 [v0, v1, v2, v3, .int x4, v5, v6] st u P = zl I 0 422 [v0, v1, v2, v3, .int x4, v5, v6] (.int x4 :: st) u P := zl_Il h0_420 rfl
theorem h0_422 : xcd2 I 0 422 = oI 1 423 := ch_5 (Nat.le_of_ble_eq_true rfl) rfl
theorem q0_422 : zl I 0 422 [v0, v1, v2, v3, v4, v5, v6] st u P = zl I 0 423 [v0, v1, v2, v3, v4, v5, v6] (.int 1 :: st) u P := zl_I h0_422
theorem h0_423 : xcd2 I 0 423 = oB (fun x y => x + y) 424 := ch_5 (Nat.le_of_ble_eq_true rfl) rfl
theorem q0_423 : zl I 0 423 [v0, v1, v2, v3, v4, v5, v6] (.int y1 :: .int y2 :: st) u P = zl I 0 424 [v0, v1, v2, v3, v4, v5, v6] (.int (y2 + y1) :: st) u P := zl_B h0_423
theorem h0_424 : xcd2 I 0 424 = oScr 425 := ch_5 (Nat.le_of_ble_eq_true rfl) rfl
theorem q0_424 : zl I 0 424 [v0, v1, v2, v3, v4, v5, v6] (.int y1 :: .ref b1 :: st) u P = ((b1 = 2000000 ∧ xinb y1 (xN u 2000000)) ∧ zl I 0 425 [v0, v1, v2, v3, v4, v5, v6] (.int (xI u 2000000 (xix y1)) :: st) u P) := zl_Scr h0_424
theorem h0_425 : xcd2 I 0 425 = oAl 0 426 := ch_5 (Nat.le_of_ble_eq_true rfl) rfl
theorem q0_425 : zl I 0 425 [.ref a0, v1, v2, v3, v4, v5, v6] st u P = zl I 0 426 [.ref a0, v1, v2, v3, v4, v5, v6] (.ref a0 :: st) u P := zl_Al h0_425 rfl
theorem h0_426 : xcd2 I 0 426 = oIl 4 428 := ch_5 (Nat.le_of_ble_eq_true rfl) rfl
theorem q0_426 : zl I 0 426 [v0, v1, v2, v3, .int x4, v5, v6] st u P = zl I 0 428 [v0, v1, v2, v3, .int x4, v5, v6] (.int x4 :: st) u P := zl_Il h0_426 rfl
theorem h0_428 : xcd2 I 0 428 = oI 2 429 := ch_5 (Nat.le_of_ble_eq_true rfl) rfl
theorem q0_428 : zl I 0 428 [v0, v1, v2, v3, v4, v5, v6] st u P = zl I 0 429 [v0, v1, v2, v3, v4, v5, v6] (.int 2 :: st) u P := zl_I h0_428
theorem h0_429 : xcd2 I 0 429 = oB (fun x y => x + y) 430 := ch_5 (Nat.le_of_ble_eq_true rfl) rfl
theorem q0_429 : zl I 0 429 [v0, v1, v2, v3, v4, v5, v6] (.int y1 :: .int y2 :: st) u P = zl I 0 430 [v0, v1, v2, v3, v4, v5, v6] (.int (y2 + y1) :: st) u P := zl_B h0_429
theorem h0_430 : xcd2 I 0 430 = oScr 431 := ch_5 (Nat.le_of_ble_eq_true rfl) rfl
theorem q0_430 : zl I 0 430 [v0, v1, v2, v3, v4, v5, v6] (.int y1 :: .ref b1 :: st) u P = ((b1 = 2000000 ∧ xinb y1 (xN u 2000000)) ∧ zl I 0 431 [v0, v1, v2, v3, v4, v5, v6] (.int (xI u 2000000 (xix y1)) :: st) u P) := zl_Scr h0_430
theorem h0_431 : xcd2 I 0 431 = oCalV 10 113 2 434 := ch_5 (Nat.le_of_ble_eq_true rfl) rfl
theorem q0_431 : zl I 0 431 [v0, v1, v2, v3, v4, v5, v6] (.int y2 :: .int y1 :: .ref b8 :: st) u P = ((xIs u b8 10 ∧ xcat st ≤ 8) ∧ zl I 113 0 [.ref b8, .int y1, .int y2, .null] [] u (fun r u2 => zl I 0 434 [v0, v1, v2, v3, v4, v5, v6] (r.toList ++ st) u2 P)) := zl_CV h0_431 rfl rfl rfl ⟨Nat.le_of_ble_eq_true rfl, Nat.succ_ne_zero _, by decide⟩ rfl
theorem h0_434 : xcd2 I 0 434 = oAl 2 435 := ch_5 (Nat.le_of_ble_eq_true rfl) rfl
theorem q0_434 : zl I 0 434 [v0, v1, .ref a2, v3, v4, v5, v6] st u P = zl I 0 435 [v0, v1, .ref a2, v3, v4, v5, v6] (.ref a2 :: st) u P := zl_Al h0_434 rfl
theorem h0_435 : xcd2 I 0 435 = oAl 0 436 := ch_5 (Nat.le_of_ble_eq_true rfl) rfl
theorem q0_435 : zl I 0 435 [.ref a0, v1, v2, v3, v4, v5, v6] st u P = zl I 0 436 [.ref a0, v1, v2, v3, v4, v5, v6] (.ref a0 :: st) u P := zl_Al h0_435 rfl
theorem h0_436 : xcd2 I 0 436 = oIl 4 438 := ch_5 (Nat.le_of_ble_eq_true rfl) rfl
theorem q0_436 : zl I 0 436 [v0, v1, v2, v3, .int x4, v5, v6] st u P = zl I 0 438 [v0, v1, v2, v3, .int x4, v5, v6] (.int x4 :: st) u P := zl_Il h0_436 rfl
theorem h0_438 : xcd2 I 0 438 = oI 1 439 := ch_5 (Nat.le_of_ble_eq_true rfl) rfl
theorem q0_438 : zl I 0 438 [v0, v1, v2, v3, v4, v5, v6] st u P = zl I 0 439 [v0, v1, v2, v3, v4, v5, v6] (.int 1 :: st) u P := zl_I h0_438
theorem h0_439 : xcd2 I 0 439 = oB (fun x y => x + y) 440 := ch_5 (Nat.le_of_ble_eq_true rfl) rfl
theorem q0_439 : zl I 0 439 [v0, v1, v2, v3, v4, v5, v6] (.int y1 :: .int y2 :: st) u P = zl I 0 440 [v0, v1, v2, v3, v4, v5, v6] (.int (y2 + y1) :: st) u P := zl_B h0_439
theorem h0_440 : xcd2 I 0 440 = oScr 441 := ch_5 (Nat.le_of_ble_eq_true rfl) rfl
theorem q0_440 : zl I 0 440 [v0, v1, v2, v3, v4, v5, v6] (.int y1 :: .ref b1 :: st) u P = ((b1 = 2000000 ∧ xinb y1 (xN u 2000000)) ∧ zl I 0 441 [v0, v1, v2, v3, v4, v5, v6] (.int (xI u 2000000 (xix y1)) :: st) u P) := zl_Scr h0_440
theorem h0_441 : xcd2 I 0 441 = oAl 0 442 := ch_5 (Nat.le_of_ble_eq_true rfl) rfl
theorem q0_441 : zl I 0 441 [.ref a0, v1, v2, v3, v4, v5, v6] st u P = zl I 0 442 [.ref a0, v1, v2, v3, v4, v5, v6] (.ref a0 :: st) u P := zl_Al h0_441 rfl
theorem h0_442 : xcd2 I 0 442 = oIl 4 444 := ch_5 (Nat.le_of_ble_eq_true rfl) rfl
theorem q0_442 : zl I 0 442 [v0, v1, v2, v3, .int x4, v5, v6] st u P = zl I 0 444 [v0, v1, v2, v3, .int x4, v5, v6] (.int x4 :: st) u P := zl_Il h0_442 rfl
theorem h0_444 : xcd2 I 0 444 = oI 2 445 := ch_5 (Nat.le_of_ble_eq_true rfl) rfl
theorem q0_444 : zl I 0 444 [v0, v1, v2, v3, v4, v5, v6] st u P = zl I 0 445 [v0, v1, v2, v3, v4, v5, v6] (.int 2 :: st) u P := zl_I h0_444
theorem h0_445 : xcd2 I 0 445 = oB (fun x y => x + y) 446 := ch_5 (Nat.le_of_ble_eq_true rfl) rfl
theorem q0_445 : zl I 0 445 [v0, v1, v2, v3, v4, v5, v6] (.int y1 :: .int y2 :: st) u P = zl I 0 446 [v0, v1, v2, v3, v4, v5, v6] (.int (y2 + y1) :: st) u P := zl_B h0_445
theorem h0_446 : xcd2 I 0 446 = oScr 447 := ch_5 (Nat.le_of_ble_eq_true rfl) rfl
theorem q0_446 : zl I 0 446 [v0, v1, v2, v3, v4, v5, v6] (.int y1 :: .ref b1 :: st) u P = ((b1 = 2000000 ∧ xinb y1 (xN u 2000000)) ∧ zl I 0 447 [v0, v1, v2, v3, v4, v5, v6] (.int (xI u 2000000 (xix y1)) :: st) u P) := zl_Scr h0_446
theorem h0_447 : xcd2 I 0 447 = oCalV 11 216 2 450 := ch_5 (Nat.le_of_ble_eq_true rfl) rfl
theorem q0_447 : zl I 0 447 [v0, v1, v2, v3, v4, v5, v6] (.int y2 :: .int y1 :: .ref b8 :: st) u P = ((xIs u b8 11 ∧ xcat st ≤ 8) ∧ zl I 216 0 [.ref b8, .int y1, .int y2] [] u (fun r u2 => zl I 0 450 [v0, v1, v2, v3, v4, v5, v6] (r.toList ++ st) u2 P)) := zl_CV h0_447 rfl rfl rfl ⟨Nat.le_of_ble_eq_true rfl, Nat.succ_ne_zero _, by decide⟩ rfl
theorem h0_450 : xcd2 I 0 450 = oCmp (fun x y => decide (x = y)) 2238 453 := ch_5 (Nat.le_of_ble_eq_true rfl) rfl
theorem q0_450 : zl I 0 450 [v0, v1, v2, v3, v4, v5, v6] (.int y1 :: .int y2 :: st) u P = (if y2 = y1 then zl I 0 2238 [v0, v1, v2, v3, v4, v5, v6] st u P else zl I 0 453 [v0, v1, v2, v3, v4, v5, v6] st u P) := zl_Cmp h0_450
theorem h0_453 : xcd2 I 0 453 = oI 0 454 := ch_5 (Nat.le_of_ble_eq_true rfl) rfl
theorem q0_453 : zl I 0 453 [v0, v1, v2, v3, v4, v5, v6] st u P = zl I 0 454 [v0, v1, v2, v3, v4, v5, v6] (.int 0 :: st) u P := zl_I h0_453
theorem h0_454 : xcd2 I 0 454 = oRz 0 := ch_5 (Nat.le_of_ble_eq_true rfl) rfl
theorem q0_454 : zl I 0 454 [v0, v1, v2, v3, v4, v5, v6] [.int y1] u P = ((y1 = 0 ∨ y1 = 1) ∧ P (some (.int y1)) u) := zl_Rz h0_454
theorem h0_455 : xcd2 I 0 455 = oAl 1 456 := ch_5 (Nat.le_of_ble_eq_true rfl) rfl
theorem q0_455 : zl I 0 455 [v0, .ref a1, v2, v3, v4, v5, v6] st u P = zl I 0 456 [v0, .ref a1, v2, v3, v4, v5, v6] (.ref a1 :: st) u P := zl_Al h0_455 rfl
theorem h0_456 : xcd2 I 0 456 = oAl 0 457 := ch_5 (Nat.le_of_ble_eq_true rfl) rfl
theorem q0_456 : zl I 0 456 [.ref a0, v1, v2, v3, v4, v5, v6] st u P = zl I 0 457 [.ref a0, v1, v2, v3, v4, v5, v6] (.ref a0 :: st) u P := zl_Al h0_456 rfl
theorem h0_457 : xcd2 I 0 457 = oIl 4 459 := ch_5 (Nat.le_of_ble_eq_true rfl) rfl
theorem q0_457 : zl I 0 457 [v0, v1, v2, v3, .int x4, v5, v6] st u P = zl I 0 459 [v0, v1, v2, v3, .int x4, v5, v6] (.int x4 :: st) u P := zl_Il h0_457 rfl
theorem h0_459 : xcd2 I 0 459 = oI 1 460 := ch_5 (Nat.le_of_ble_eq_true rfl) rfl
theorem q0_459 : zl I 0 459 [v0, v1, v2, v3, v4, v5, v6] st u P = zl I 0 460 [v0, v1, v2, v3, v4, v5, v6] (.int 1 :: st) u P := zl_I h0_459
theorem h0_460 : xcd2 I 0 460 = oB (fun x y => x + y) 461 := ch_5 (Nat.le_of_ble_eq_true rfl) rfl
theorem q0_460 : zl I 0 460 [v0, v1, v2, v3, v4, v5, v6] (.int y1 :: .int y2 :: st) u P = zl I 0 461 [v0, v1, v2, v3, v4, v5, v6] (.int (y2 + y1) :: st) u P := zl_B h0_460
theorem h0_461 : xcd2 I 0 461 = oScr 462 := ch_5 (Nat.le_of_ble_eq_true rfl) rfl
theorem q0_461 : zl I 0 461 [v0, v1, v2, v3, v4, v5, v6] (.int y1 :: .ref b1 :: st) u P = ((b1 = 2000000 ∧ xinb y1 (xN u 2000000)) ∧ zl I 0 462 [v0, v1, v2, v3, v4, v5, v6] (.int (xI u 2000000 (xix y1)) :: st) u P) := zl_Scr h0_461
theorem h0_462 : xcd2 I 0 462 = oAl 0 463 := ch_6 (Nat.le_of_ble_eq_true rfl) rfl
theorem q0_462 : zl I 0 462 [.ref a0, v1, v2, v3, v4, v5, v6] st u P = zl I 0 463 [.ref a0, v1, v2, v3, v4, v5, v6] (.ref a0 :: st) u P := zl_Al h0_462 rfl
theorem h0_463 : xcd2 I 0 463 = oIl 4 465 := ch_6 (Nat.le_of_ble_eq_true rfl) rfl
theorem q0_463 : zl I 0 463 [v0, v1, v2, v3, .int x4, v5, v6] st u P = zl I 0 465 [v0, v1, v2, v3, .int x4, v5, v6] (.int x4 :: st) u P := zl_Il h0_463 rfl
theorem h0_465 : xcd2 I 0 465 = oI 2 466 := ch_6 (Nat.le_of_ble_eq_true rfl) rfl
theorem q0_465 : zl I 0 465 [v0, v1, v2, v3, v4, v5, v6] st u P = zl I 0 466 [v0, v1, v2, v3, v4, v5, v6] (.int 2 :: st) u P := zl_I h0_465
theorem h0_466 : xcd2 I 0 466 = oB (fun x y => x + y) 467 := ch_6 (Nat.le_of_ble_eq_true rfl) rfl
theorem q0_466 : zl I 0 466 [v0, v1, v2, v3, v4, v5, v6] (.int y1 :: .int y2 :: st) u P = zl I 0 467 [v0, v1, v2, v3, v4, v5, v6] (.int (y2 + y1) :: st) u P := zl_B h0_466
theorem h0_467 : xcd2 I 0 467 = oScr 468 := ch_6 (Nat.le_of_ble_eq_true rfl) rfl
theorem q0_467 : zl I 0 467 [v0, v1, v2, v3, v4, v5, v6] (.int y1 :: .ref b1 :: st) u P = ((b1 = 2000000 ∧ xinb y1 (xN u 2000000)) ∧ zl I 0 468 [v0, v1, v2, v3, v4, v5, v6] (.int (xI u 2000000 (xix y1)) :: st) u P) := zl_Scr h0_467
theorem h0_468 : xcd2 I 0 468 = oCalV 10 114 2 471 := ch_6 (Nat.le_of_ble_eq_true rfl) rfl
theorem q0_468 : zl I 0 468 [v0, v1, v2, v3, v4, v5, v6] (.int y2 :: .int y1 :: .ref b8 :: st) u P = ((xIs u b8 10 ∧ xcat st ≤ 8) ∧ zl I 114 0 [.ref b8, .int y1, .int y2] [] u (fun r u2 => zl I 0 471 [v0, v1, v2, v3, v4, v5, v6] (r.toList ++ st) u2 P)) := zl_CV h0_468 rfl rfl rfl ⟨Nat.le_of_ble_eq_true rfl, Nat.succ_ne_zero _, by decide⟩ rfl
theorem h0_471 : xcd2 I 0 471 = oAl 2 472 := ch_6 (Nat.le_of_ble_eq_true rfl) rfl
theorem q0_471 : zl I 0 471 [v0, v1, .ref a2, v3, v4, v5, v6] st u P = zl I 0 472 [v0, v1, .ref a2, v3, v4, v5, v6] (.ref a2 :: st) u P := zl_Al h0_471 rfl
theorem h0_472 : xcd2 I 0 472 = oAl 0 473 := ch_6 (Nat.le_of_ble_eq_true rfl) rfl
theorem q0_472 : zl I 0 472 [.ref a0, v1, v2, v3, v4, v5, v6] st u P = zl I 0 473 [.ref a0, v1, v2, v3, v4, v5, v6] (.ref a0 :: st) u P := zl_Al h0_472 rfl
theorem h0_473 : xcd2 I 0 473 = oIl 4 475 := ch_6 (Nat.le_of_ble_eq_true rfl) rfl
theorem q0_473 : zl I 0 473 [v0, v1, v2, v3, .int x4, v5, v6] st u P = zl I 0 475 [v0, v1, v2, v3, .int x4, v5, v6] (.int x4 :: st) u P := zl_Il h0_473 rfl
theorem h0_475 : xcd2 I 0 475 = oI 1 476 := ch_6 (Nat.le_of_ble_eq_true rfl) rfl
theorem q0_475 : zl I 0 475 [v0, v1, v2, v3, v4, v5, v6] st u P = zl I 0 476 [v0, v1, v2, v3, v4, v5, v6] (.int 1 :: st) u P := zl_I h0_475
theorem h0_476 : xcd2 I 0 476 = oB (fun x y => x + y) 477 := ch_6 (Nat.le_of_ble_eq_true rfl) rfl
theorem q0_476 : zl I 0 476 [v0, v1, v2, v3, v4, v5, v6] (.int y1 :: .int y2 :: st) u P = zl I 0 477 [v0, v1, v2, v3, v4, v5, v6] (.int (y2 + y1) :: st) u P := zl_B h0_476
theorem h0_477 : xcd2 I 0 477 = oScr 478 := ch_6 (Nat.le_of_ble_eq_true rfl) rfl
theorem q0_477 : zl I 0 477 [v0, v1, v2, v3, v4, v5, v6] (.int y1 :: .ref b1 :: st) u P = ((b1 = 2000000 ∧ xinb y1 (xN u 2000000)) ∧ zl I 0 478 [v0, v1, v2, v3, v4, v5, v6] (.int (xI u 2000000 (xix y1)) :: st) u P) := zl_Scr h0_477
theorem h0_478 : xcd2 I 0 478 = oAl 0 479 := ch_6 (Nat.le_of_ble_eq_true rfl) rfl
theorem q0_478 : zl I 0 478 [.ref a0, v1, v2, v3, v4, v5, v6] st u P = zl I 0 479 [.ref a0, v1, v2, v3, v4, v5, v6] (.ref a0 :: st) u P := zl_Al h0_478 rfl
theorem h0_479 : xcd2 I 0 479 = oIl 4 481 := ch_6 (Nat.le_of_ble_eq_true rfl) rfl
theorem q0_479 : zl I 0 479 [v0, v1, v2, v3, .int x4, v5, v6] st u P = zl I 0 481 [v0, v1, v2, v3, .int x4, v5, v6] (.int x4 :: st) u P := zl_Il h0_479 rfl
theorem h0_481 : xcd2 I 0 481 = oI 2 482 := ch_6 (Nat.le_of_ble_eq_true rfl) rfl
theorem q0_481 : zl I 0 481 [v0, v1, v2, v3, v4, v5, v6] st u P = zl I 0 482 [v0, v1, v2, v3, v4, v5, v6] (.int 2 :: st) u P := zl_I h0_481
theorem h0_482 : xcd2 I 0 482 = oB (fun x y => x + y) 483 := ch_6 (Nat.le_of_ble_eq_true rfl) rfl
theorem q0_482 : zl I 0 482 [v0, v1, v2, v3, v4, v5, v6] (.int y1 :: .int y2 :: st) u P = zl I 0 483 [v0, v1, v2, v3, v4, v5, v6] (.int (y2 + y1) :: st) u P := zl_B h0_482
theorem h0_483 : xcd2 I 0 483 = oScr 484 := ch_6 (Nat.le_of_ble_eq_true rfl) rfl
theorem q0_483 : zl I 0 483 [v0, v1, v2, v3, v4, v5, v6] (.int y1 :: .ref b1 :: st) u P = ((b1 = 2000000 ∧ xinb y1 (xN u 2000000)) ∧ zl I 0 484 [v0, v1, v2, v3, v4, v5, v6] (.int (xI u 2000000 (xix y1)) :: st) u P) := zl_Scr h0_483
theorem h0_484 : xcd2 I 0 484 = oCalV 11 226 2 487 := ch_6 (Nat.le_of_ble_eq_true rfl) rfl
theorem q0_484 : zl I 0 484 [v0, v1, v2, v3, v4, v5, v6] (.int y2 :: .int y1 :: .ref b8 :: st) u P = ((xIs u b8 11 ∧ xcat st ≤ 8) ∧ zl I 226 0 [.ref b8, .int y1, .int y2, .null] [] u (fun r u2 => zl I 0 487 [v0, v1, v2, v3, v4, v5, v6] (r.toList ++ st) u2 P)) := zl_CV h0_484 rfl rfl rfl ⟨Nat.le_of_ble_eq_true rfl, Nat.succ_ne_zero _, by decide⟩ rfl
theorem h0_487 : xcd2 I 0 487 = oCmp (fun x y => decide (x = y)) 2238 490 := ch_6 (Nat.le_of_ble_eq_true rfl) rfl
theorem q0_487 : zl I 0 487 [v0, v1, v2, v3, v4, v5, v6] (.int y1 :: .int y2 :: st) u P = (if y2 = y1 then zl I 0 2238 [v0, v1, v2, v3, v4, v5, v6] st u P else zl I 0 490 [v0, v1, v2, v3, v4, v5, v6] st u P) := zl_Cmp h0_487
theorem h0_490 : xcd2 I 0 490 = oI 0 491 := ch_6 (Nat.le_of_ble_eq_true rfl) rfl
theorem q0_490 : zl I 0 490 [v0, v1, v2, v3, v4, v5, v6] st u P = zl I 0 491 [v0, v1, v2, v3, v4, v5, v6] (.int 0 :: st) u P := zl_I h0_490
theorem h0_491 : xcd2 I 0 491 = oRz 0 := ch_6 (Nat.le_of_ble_eq_true rfl) rfl
theorem q0_491 : zl I 0 491 [v0, v1, v2, v3, v4, v5, v6] [.int y1] u P = ((y1 = 0 ∨ y1 = 1) ∧ P (some (.int y1)) u) := zl_Rz h0_491
theorem h0_492 : xcd2 I 0 492 = oAl 1 493 := ch_6 (Nat.le_of_ble_eq_true rfl) rfl
theorem q0_492 : zl I 0 492 [v0, .ref a1, v2, v3, v4, v5, v6] st u P = zl I 0 493 [v0, .ref a1, v2, v3, v4, v5, v6] (.ref a1 :: st) u P := zl_Al h0_492 rfl
theorem h0_493 : xcd2 I 0 493 = oAl 0 494 := ch_6 (Nat.le_of_ble_eq_true rfl) rfl
theorem q0_493 : zl I 0 493 [.ref a0, v1, v2, v3, v4, v5, v6] st u P = zl I 0 494 [.ref a0, v1, v2, v3, v4, v5, v6] (.ref a0 :: st) u P := zl_Al h0_493 rfl
theorem h0_494 : xcd2 I 0 494 = oIl 4 496 := ch_6 (Nat.le_of_ble_eq_true rfl) rfl
theorem q0_494 : zl I 0 494 [v0, v1, v2, v3, .int x4, v5, v6] st u P = zl I 0 496 [v0, v1, v2, v3, .int x4, v5, v6] (.int x4 :: st) u P := zl_Il h0_494 rfl
theorem h0_496 : xcd2 I 0 496 = oI 1 497 := ch_6 (Nat.le_of_ble_eq_true rfl) rfl
theorem q0_496 : zl I 0 496 [v0, v1, v2, v3, v4, v5, v6] st u P = zl I 0 497 [v0, v1, v2, v3, v4, v5, v6] (.int 1 :: st) u P := zl_I h0_496
theorem h0_497 : xcd2 I 0 497 = oB (fun x y => x + y) 498 := ch_6 (Nat.le_of_ble_eq_true rfl) rfl
theorem q0_497 : zl I 0 497 [v0, v1, v2, v3, v4, v5, v6] (.int y1 :: .int y2 :: st) u P = zl I 0 498 [v0, v1, v2, v3, v4, v5, v6] (.int (y2 + y1) :: st) u P := zl_B h0_497
theorem h0_498 : xcd2 I 0 498 = oScr 499 := ch_6 (Nat.le_of_ble_eq_true rfl) rfl
theorem q0_498 : zl I 0 498 [v0, v1, v2, v3, v4, v5, v6] (.int y1 :: .ref b1 :: st) u P = ((b1 = 2000000 ∧ xinb y1 (xN u 2000000)) ∧ zl I 0 499 [v0, v1, v2, v3, v4, v5, v6] (.int (xI u 2000000 (xix y1)) :: st) u P) := zl_Scr h0_498
theorem h0_499 : xcd2 I 0 499 = oAl 0 500 := ch_6 (Nat.le_of_ble_eq_true rfl) rfl
theorem q0_499 : zl I 0 499 [.ref a0, v1, v2, v3, v4, v5, v6] st u P = zl I 0 500 [.ref a0, v1, v2, v3, v4, v5, v6] (.ref a0 :: st) u P := zl_Al h0_499 rfl
theorem h0_500 : xcd2 I 0 500 = oIl 4 502 := ch_6 (Nat.le_of_ble_eq_true rfl) rfl
theorem q0_500 : zl I 0 500 [v0, v1, v2, v3, .int x4, v5, v6] st u P = zl I 0 502 [v0, v1, v2, v3, .int x4, v5, v6] (.int x4 :: st) u P := zl_Il h0_500 rfl
theorem h0_502 : xcd2 I 0 502 = oI 2 503 := ch_6 (Nat.le_of_ble_eq_true rfl) rfl
theorem q0_502 : zl I 0 502 [v0, v1, v2, v3, v4, v5, v6] st u P = zl I 0 503 [v0, v1, v2, v3, v4, v5, v6] (.int 2 :: st) u P := zl_I h0_502
theorem h0_503 : xcd2 I 0 503 = oB (fun x y => x + y) 504 := ch_7 (Nat.le_of_ble_eq_true rfl) rfl
theorem q0_503 : zl I 0 503 [v0, v1, v2, v3, v4, v5, v6] (.int y1 :: .int y2 :: st) u P = zl I 0 504 [v0, v1, v2, v3, v4, v5, v6] (.int (y2 + y1) :: st) u P := zl_B h0_503
theorem h0_504 : xcd2 I 0 504 = oScr 505 := ch_7 (Nat.le_of_ble_eq_true rfl) rfl
theorem q0_504 : zl I 0 504 [v0, v1, v2, v3, v4, v5, v6] (.int y1 :: .ref b1 :: st) u P = ((b1 = 2000000 ∧ xinb y1 (xN u 2000000)) ∧ zl I 0 505 [v0, v1, v2, v3, v4, v5, v6] (.int (xI u 2000000 (xix y1)) :: st) u P) := zl_Scr h0_504
theorem h0_505 : xcd2 I 0 505 = oAl 0 506 := ch_7 (Nat.le_of_ble_eq_true rfl) rfl
theorem q0_505 : zl I 0 505 [.ref a0, v1, v2, v3, v4, v5, v6] st u P = zl I 0 506 [.ref a0, v1, v2, v3, v4, v5, v6] (.ref a0 :: st) u P := zl_Al h0_505 rfl
theorem h0_506 : xcd2 I 0 506 = oIl 4 508 := ch_7 (Nat.le_of_ble_eq_true rfl) rfl
theorem q0_506 : zl I 0 506 [v0, v1, v2, v3, .int x4, v5, v6] st u P = zl I 0 508 [v0, v1, v2, v3, .int x4, v5, v6] (.int x4 :: st) u P := zl_Il h0_506 rfl
theorem h0_508 : xcd2 I 0 508 = oI 3 509 := ch_7 (Nat.le_of_ble_eq_true rfl) rfl
theorem q0_508 : zl I 0 508 [v0, v1, v2, v3, v4, v5, v6] st u P = zl I 0 509 [v0, v1, v2, v3, v4, v5, v6] (.int 3 :: st) u P := zl_I h0_508
theorem h0_509 : xcd2 I 0 509 = oB (fun x y => x + y) 510 := ch_7 (Nat.le_of_ble_eq_true rfl) rfl
theorem q0_509 : zl I 0 509 [v0, v1, v2, v3, v4, v5, v6] (.int y1 :: .int y2 :: st) u P = zl I 0 510 [v0, v1, v2, v3, v4, v5, v6] (.int (y2 + y1) :: st) u P := zl_B h0_509
theorem h0_510 : xcd2 I 0 510 = oScr 511 := ch_7 (Nat.le_of_ble_eq_true rfl) rfl
theorem q0_510 : zl I 0 510 [v0, v1, v2, v3, v4, v5, v6] (.int y1 :: .ref b1 :: st) u P = ((b1 = 2000000 ∧ xinb y1 (xN u 2000000)) ∧ zl I 0 511 [v0, v1, v2, v3, v4, v5, v6] (.int (xI u 2000000 (xix y1)) :: st) u P) := zl_Scr h0_510
theorem h0_511 : xcd2 I 0 511 = oAl 0 512 := ch_7 (Nat.le_of_ble_eq_true rfl) rfl
theorem q0_511 : zl I 0 511 [.ref a0, v1, v2, v3, v4, v5, v6] st u P = zl I 0 512 [.ref a0, v1, v2, v3, v4, v5, v6] (.ref a0 :: st) u P := zl_Al h0_511 rfl
theorem h0_512 : xcd2 I 0 512 = oIl 4 514 := ch_7 (Nat.le_of_ble_eq_true rfl) rfl
theorem q0_512 : zl I 0 512 [v0, v1, v2, v3, .int x4, v5, v6] st u P = zl I 0 514 [v0, v1, v2, v3, .int x4, v5, v6] (.int x4 :: st) u P := zl_Il h0_512 rfl
theorem h0_514 : xcd2 I 0 514 = oI 4 515 := ch_7 (Nat.le_of_ble_eq_true rfl) rfl
theorem q0_514 : zl I 0 514 [v0, v1, v2, v3, v4, v5, v6] st u P = zl I 0 515 [v0, v1, v2, v3, v4, v5, v6] (.int 4 :: st) u P := zl_I h0_514
theorem h0_515 : xcd2 I 0 515 = oB (fun x y => x + y) 516 := ch_7 (Nat.le_of_ble_eq_true rfl) rfl
theorem q0_515 : zl I 0 515 [v0, v1, v2, v3, v4, v5, v6] (.int y1 :: .int y2 :: st) u P = zl I 0 516 [v0, v1, v2, v3, v4, v5, v6] (.int (y2 + y1) :: st) u P := zl_B h0_515
theorem h0_516 : xcd2 I 0 516 = oScr 517 := ch_7 (Nat.le_of_ble_eq_true rfl) rfl
theorem q0_516 : zl I 0 516 [v0, v1, v2, v3, v4, v5, v6] (.int y1 :: .ref b1 :: st) u P = ((b1 = 2000000 ∧ xinb y1 (xN u 2000000)) ∧ zl I 0 517 [v0, v1, v2, v3, v4, v5, v6] (.int (xI u 2000000 (xix y1)) :: st) u P) := zl_Scr h0_516
theorem h0_517 : xcd2 I 0 517 = oCalV 10 115 4 520 := ch_7 (Nat.le_of_ble_eq_true rfl) rfl
theorem q0_517 : zl I 0 517 [v0, v1, v2, v3, v4, v5, v6] (.int y4 :: .int y3 :: .int y2 :: .int y1 :: .ref b8 :: st) u P = ((xIs u b8 10 ∧ xcat st ≤ 8) ∧ zl I 115 0 [.ref b8, .int y1, .int y2, .int y3, .int y4, .null, .null, .null] [] u (fun r u2 => zl I 0 520 [v0, v1, v2, v3, v4, v5, v6] (r.toList ++ st) u2 P)) := zl_CV h0_517 rfl rfl rfl ⟨Nat.le_of_ble_eq_true rfl, Nat.succ_ne_zero _, by decide⟩ rfl
theorem h0_520 : xcd2 I 0 520 = oAl 2 521 := ch_7 (Nat.le_of_ble_eq_true rfl) rfl
theorem q0_520 : zl I 0 520 [v0, v1, .ref a2, v3, v4, v5, v6] st u P = zl I 0 521 [v0, v1, .ref a2, v3, v4, v5, v6] (.ref a2 :: st) u P := zl_Al h0_520 rfl
theorem h0_521 : xcd2 I 0 521 = oAl 0 522 := ch_7 (Nat.le_of_ble_eq_true rfl) rfl
theorem q0_521 : zl I 0 521 [.ref a0, v1, v2, v3, v4, v5, v6] st u P = zl I 0 522 [.ref a0, v1, v2, v3, v4, v5, v6] (.ref a0 :: st) u P := zl_Al h0_521 rfl
theorem h0_522 : xcd2 I 0 522 = oIl 4 524 := ch_7 (Nat.le_of_ble_eq_true rfl) rfl
theorem q0_522 : zl I 0 522 [v0, v1, v2, v3, .int x4, v5, v6] st u P = zl I 0 524 [v0, v1, v2, v3, .int x4, v5, v6] (.int x4 :: st) u P := zl_Il h0_522 rfl
theorem h0_524 : xcd2 I 0 524 = oI 1 525 := ch_7 (Nat.le_of_ble_eq_true rfl) rfl
theorem q0_524 : zl I 0 524 [v0, v1, v2, v3, v4, v5, v6] st u P = zl I 0 525 [v0, v1, v2, v3, v4, v5, v6] (.int 1 :: st) u P := zl_I h0_524
theorem h0_525 : xcd2 I 0 525 = oB (fun x y => x + y) 526 := ch_7 (Nat.le_of_ble_eq_true rfl) rfl
theorem q0_525 : zl I 0 525 [v0, v1, v2, v3, v4, v5, v6] (.int y1 :: .int y2 :: st) u P = zl I 0 526 [v0, v1, v2, v3, v4, v5, v6] (.int (y2 + y1) :: st) u P := zl_B h0_525
theorem h0_526 : xcd2 I 0 526 = oScr 527 := ch_7 (Nat.le_of_ble_eq_true rfl) rfl
theorem q0_526 : zl I 0 526 [v0, v1, v2, v3, v4, v5, v6] (.int y1 :: .ref b1 :: st) u P = ((b1 = 2000000 ∧ xinb y1 (xN u 2000000)) ∧ zl I 0 527 [v0, v1, v2, v3, v4, v5, v6] (.int (xI u 2000000 (xix y1)) :: st) u P) := zl_Scr h0_526
theorem h0_527 : xcd2 I 0 527 = oAl 0 528 := ch_7 (Nat.le_of_ble_eq_true rfl) rfl
theorem q0_527 : zl I 0 527 [.ref a0, v1, v2, v3, v4, v5, v6] st u P = zl I 0 528 [.ref a0, v1, v2, v3, v4, v5, v6] (.ref a0 :: st) u P := zl_Al h0_527 rfl
theorem h0_528 : xcd2 I 0 528 = oIl 4 530 := ch_7 (Nat.le_of_ble_eq_true rfl) rfl
theorem q0_528 : zl I 0 528 [v0, v1, v2, v3, .int x4, v5, v6] st u P = zl I 0 530 [v0, v1, v2, v3, .int x4, v5, v6] (.int x4 :: st) u P := zl_Il h0_528 rfl
theorem h0_530 : xcd2 I 0 530 = oI 2 531 := ch_7 (Nat.le_of_ble_eq_true rfl) rfl
theorem q0_530 : zl I 0 530 [v0, v1, v2, v3, v4, v5, v6] st u P = zl I 0 531 [v0, v1, v2, v3, v4, v5, v6] (.int 2 :: st) u P := zl_I h0_530
theorem h0_531 : xcd2 I 0 531 = oB (fun x y => x + y) 532 := ch_7 (Nat.le_of_ble_eq_true rfl) rfl
theorem q0_531 : zl I 0 531 [v0, v1, v2, v3, v4, v5, v6] (.int y1 :: .int y2 :: st) u P = zl I 0 532 [v0, v1, v2, v3, v4, v5, v6] (.int (y2 + y1) :: st) u P := zl_B h0_531
theorem h0_532 : xcd2 I 0 532 = oScr 533 := ch_7 (Nat.le_of_ble_eq_true rfl) rfl
theorem q0_532 : zl I 0 532 [v0, v1, v2, v3, v4, v5, v6] (.int y1 :: .ref b1 :: st) u P = ((b1 = 2000000 ∧ xinb y1 (xN u 2000000)) ∧ zl I 0 533 [v0, v1, v2, v3, v4, v5, v6] (.int (xI u 2000000 (xix y1)) :: st) u P) := zl_Scr h0_532
theorem h0_533 : xcd2 I 0 533 = oAl 0 534 := ch_7 (Nat.le_of_ble_eq_true rfl) rfl
theorem q0_533 : zl I 0 533 [.ref a0, v1, v2, v3, v4, v5, v6] st u P = zl I 0 534 [.ref a0, v1, v2, v3, v4, v5, v6] (.ref a0 :: st) u P := zl_Al h0_533 rfl
theorem h0_534 : xcd2 I 0 534 = oIl 4 536 := ch_7 (Nat.le_of_ble_eq_true rfl) rfl
theorem q0_534 : zl I 0 534 [v0, v1, v2, v3, .int x4, v5, v6] st u P = zl I 0 536 [v0, v1, v2, v3, .int x4, v5, v6] (.int x4 :: st) u P := zl_Il h0_534 rfl
theorem h0_536 : xcd2 I 0 536 = oI 3 537 := ch_7 (Nat.le_of_ble_eq_true rfl) rfl
theorem q0_536 : zl I 0 536 [v0, v1, v2, v3, v4, v5, v6] st u P = zl I 0 537 [v0, v1, v2, v3, v4, v5, v6] (.int 3 :: st) u P := zl_I h0_536
theorem h0_537 : xcd2 I 0 537 = oB (fun x y => x + y) 538 := ch_7 (Nat.le_of_ble_eq_true rfl) rfl
theorem q0_537 : zl I 0 537 [v0, v1, v2, v3, v4, v5, v6] (.int y1 :: .int y2 :: st) u P = zl I 0 538 [v0, v1, v2, v3, v4, v5, v6] (.int (y2 + y1) :: st) u P := zl_B h0_537
theorem h0_538 : xcd2 I 0 538 = oScr 539 := ch_7 (Nat.le_of_ble_eq_true rfl) rfl
theorem q0_538 : zl I 0 538 [v0, v1, v2, v3, v4, v5, v6] (.int y1 :: .ref b1 :: st) u P = ((b1 = 2000000 ∧ xinb y1 (xN u 2000000)) ∧ zl I 0 539 [v0, v1, v2, v3, v4, v5, v6] (.int (xI u 2000000 (xix y1)) :: st) u P) := zl_Scr h0_538
theorem h0_539 : xcd2 I 0 539 = oAl 0 540 := ch_7 (Nat.le_of_ble_eq_true rfl) rfl
theorem q0_539 : zl I 0 539 [.ref a0, v1, v2, v3, v4, v5, v6] st u P = zl I 0 540 [.ref a0, v1, v2, v3, v4, v5, v6] (.ref a0 :: st) u P := zl_Al h0_539 rfl
theorem h0_540 : xcd2 I 0 540 = oIl 4 542 := ch_8 (Nat.le_of_ble_eq_true rfl) rfl
theorem q0_540 : zl I 0 540 [v0, v1, v2, v3, .int x4, v5, v6] st u P = zl I 0 542 [v0, v1, v2, v3, .int x4, v5, v6] (.int x4 :: st) u P := zl_Il h0_540 rfl
theorem h0_542 : xcd2 I 0 542 = oI 4 543 := ch_8 (Nat.le_of_ble_eq_true rfl) rfl
theorem q0_542 : zl I 0 542 [v0, v1, v2, v3, v4, v5, v6] st u P = zl I 0 543 [v0, v1, v2, v3, v4, v5, v6] (.int 4 :: st) u P := zl_I h0_542
theorem h0_543 : xcd2 I 0 543 = oB (fun x y => x + y) 544 := ch_8 (Nat.le_of_ble_eq_true rfl) rfl
theorem q0_543 : zl I 0 543 [v0, v1, v2, v3, v4, v5, v6] (.int y1 :: .int y2 :: st) u P = zl I 0 544 [v0, v1, v2, v3, v4, v5, v6] (.int (y2 + y1) :: st) u P := zl_B h0_543
theorem h0_544 : xcd2 I 0 544 = oScr 545 := ch_8 (Nat.le_of_ble_eq_true rfl) rfl
theorem q0_544 : zl I 0 544 [v0, v1, v2, v3, v4, v5, v6] (.int y1 :: .ref b1 :: st) u P = ((b1 = 2000000 ∧ xinb y1 (xN u 2000000)) ∧ zl I 0 545 [v0, v1, v2, v3, v4, v5, v6] (.int (xI u 2000000 (xix y1)) :: st) u P) := zl_Scr h0_544
theorem h0_545 : xcd2 I 0 545 = oCalV 11 227 4 548 := ch_8 (Nat.le_of_ble_eq_true rfl) rfl
theorem q0_545 : zl I 0 545 [v0, v1, v2, v3, v4, v5, v6] (.int y4 :: .int y3 :: .int y2 :: .int y1 :: .ref b8 :: st) u P = ((xIs u b8 11 ∧ xcat st ≤ 8) ∧ zl I 227 0 [.ref b8, .int y1, .int y2, .int y3, .int y4, .null, .null] [] u (fun r u2 => zl I 0 548 [v0, v1, v2, v3, v4, v5, v6] (r.toList ++ st) u2 P)) := zl_CV h0_545 rfl rfl rfl ⟨Nat.le_of_ble_eq_true rfl, Nat.succ_ne_zero _, by decide⟩ rfl
theorem h0_548 : xcd2 I 0 548 = oCmp (fun x y => decide (x = y)) 2238 551 := ch_8 (Nat.le_of_ble_eq_true rfl) rfl
theorem q0_548 : zl I 0 548 [v0, v1, v2, v3, v4, v5, v6] (.int y1 :: .int y2 :: st) u P = (if y2 = y1 then zl I 0 2238 [v0, v1, v2, v3, v4, v5, v6] st u P else zl I 0 551 [v0, v1, v2, v3, v4, v5, v6] st u P) := zl_Cmp h0_548
theorem h0_551 : xcd2 I 0 551 = oI 0 552 := ch_8 (Nat.le_of_ble_eq_true rfl) rfl
theorem q0_551 : zl I 0 551 [v0, v1, v2, v3, v4, v5, v6] st u P = zl I 0 552 [v0, v1, v2, v3, v4, v5, v6] (.int 0 :: st) u P := zl_I h0_551
theorem h0_552 : xcd2 I 0 552 = oRz 0 := ch_8 (Nat.le_of_ble_eq_true rfl) rfl
theorem q0_552 : zl I 0 552 [v0, v1, v2, v3, v4, v5, v6] [.int y1] u P = ((y1 = 0 ∨ y1 = 1) ∧ P (some (.int y1)) u) := zl_Rz h0_552
theorem h0_553 : xcd2 I 0 553 = oAl 1 554 := ch_8 (Nat.le_of_ble_eq_true rfl) rfl
theorem q0_553 : zl I 0 553 [v0, .ref a1, v2, v3, v4, v5, v6] st u P = zl I 0 554 [v0, .ref a1, v2, v3, v4, v5, v6] (.ref a1 :: st) u P := zl_Al h0_553 rfl
theorem h0_554 : xcd2 I 0 554 = oAl 0 555 := ch_8 (Nat.le_of_ble_eq_true rfl) rfl
theorem q0_554 : zl I 0 554 [.ref a0, v1, v2, v3, v4, v5, v6] st u P = zl I 0 555 [.ref a0, v1, v2, v3, v4, v5, v6] (.ref a0 :: st) u P := zl_Al h0_554 rfl
theorem h0_555 : xcd2 I 0 555 = oIl 4 557 := ch_8 (Nat.le_of_ble_eq_true rfl) rfl
theorem q0_555 : zl I 0 555 [v0, v1, v2, v3, .int x4, v5, v6] st u P = zl I 0 557 [v0, v1, v2, v3, .int x4, v5, v6] (.int x4 :: st) u P := zl_Il h0_555 rfl
theorem h0_557 : xcd2 I 0 557 = oI 1 558 := ch_8 (Nat.le_of_ble_eq_true rfl) rfl
theorem q0_557 : zl I 0 557 [v0, v1, v2, v3, v4, v5, v6] st u P = zl I 0 558 [v0, v1, v2, v3, v4, v5, v6] (.int 1 :: st) u P := zl_I h0_557
theorem h0_558 : xcd2 I 0 558 = oB (fun x y => x + y) 559 := ch_8 (Nat.le_of_ble_eq_true rfl) rfl
theorem q0_558 : zl I 0 558 [v0, v1, v2, v3, v4, v5, v6] (.int y1 :: .int y2 :: st) u P = zl I 0 559 [v0, v1, v2, v3, v4, v5, v6] (.int (y2 + y1) :: st) u P := zl_B h0_558
theorem h0_559 : xcd2 I 0 559 = oScr 560 := ch_8 (Nat.le_of_ble_eq_true rfl) rfl
theorem q0_559 : zl I 0 559 [v0, v1, v2, v3, v4, v5, v6] (.int y1 :: .ref b1 :: st) u P = ((b1 = 2000000 ∧ xinb y1 (xN u 2000000)) ∧ zl I 0 560 [v0, v1, v2, v3, v4, v5, v6] (.int (xI u 2000000 (xix y1)) :: st) u P) := zl_Scr h0_559
theorem h0_560 : xcd2 I 0 560 = oAl 0 561 := ch_8 (Nat.le_of_ble_eq_true rfl) rfl
theorem q0_560 : zl I 0 560 [.ref a0, v1, v2, v3, v4, v5, v6] st u P = zl I 0 561 [.ref a0, v1, v2, v3, v4, v5, v6] (.ref a0 :: st) u P := zl_Al h0_560 rfl
theorem h0_561 : xcd2 I 0 561 = oIl 4 563 := ch_8 (Nat.le_of_ble_eq_true rfl) rfl
theorem q0_561 : zl I 0 561 [v0, v1, v2, v3, .int x4, v5, v6] st u P = zl I 0 563 [v0, v1, v2, v3, .int x4, v5, v6] (.int x4 :: st) u P := zl_Il h0_561 rfl
theorem h0_563 : xcd2 I 0 563 = oI 2 564 := ch_8 (Nat.le_of_ble_eq_true rfl) rfl
theorem q0_563 : zl I 0 563 [v0, v1, v2, v3, v4, v5, v6] st u P = zl I 0 564 [v0, v1, v2, v3, v4, v5, v6] (.int 2 :: st) u P := zl_I h0_563
theorem h0_564 : xcd2 I 0 564 = oB (fun x y => x + y) 565 := ch_8 (Nat.le_of_ble_eq_true rfl) rfl
theorem q0_564 : zl I 0 564 [v0, v1, v2, v3, v4, v5, v6] (.int y1 :: .int y2 :: st) u P = zl I 0 565 [v0, v1, v2, v3, v4, v5, v6] (.int (y2 + y1) :: st) u P := zl_B h0_564
theorem h0_565 : xcd2 I 0 565 = oScr 566 := ch_8 (Nat.le_of_ble_eq_true rfl) rfl
theorem q0_565 : zl I 0 565 [v0, v1, v2, v3, v4, v5, v6] (.int y1 :: .ref b1 :: st) u P = ((b1 = 2000000 ∧ xinb y1 (xN u 2000000)) ∧ zl I 0 566 [v0, v1, v2, v3, v4, v5, v6] (.int (xI u 2000000 (xix y1)) :: st) u P) := zl_Scr h0_565
theorem h0_566 : xcd2 I 0 566 = oCalV 10 116 2 569 := ch_8 (Nat.le_of_ble_eq_true rfl) rfl
theorem q0_566 : zl I 0 566 [v0, v1, v2, v3, v4, v5, v6] (.int y2 :: .int y1 :: .ref b8 :: st) u P = ((xIs u b8 10 ∧ xcat st ≤ 8) ∧ zl I 116 0 [.ref b8, .int y1, .int y2, .null, .null] [] u (fun r u2 => zl I 0 569 [v0, v1, v2, v3, v4, v5, v6] (r.toList ++ st) u2 P)) := zl_CV h0_566 rfl rfl rfl ⟨Nat.le_of_ble_eq_true rfl, Nat.succ_ne_zero _, by decide⟩ rfl
theorem h0_569 : xcd2 I 0 569 = oAl 2 570 := ch_8 (Nat.le_of_ble_eq_true rfl) rfl
theorem q0_569 : zl I 0 569 [v0, v1, .ref a2, v3, v4, v5, v6] st u P = zl I 0 570 [v0, v1, .ref a2, v3, v4, v5, v6] (.ref a2 :: st) u P := zl_Al h0_569 rfl
theorem h0_570 : xcd2 I 0 570 = oAl 0 571 := ch_8 (Nat.le_of_ble_eq_true rfl) rfl
theorem q0_570 : zl I 0 570 [.ref a0, v1, v2, v3, v4, v5, v6] st u P = zl I 0 571 [.ref a0, v1, v2, v3, v4, v5, v6] (.ref a0 :: st) u P := zl_Al h0_570 rfl
theorem h0_571 : xcd2 I 0 571 = oIl 4 573 := ch_8 (Nat.le_of_ble_eq_true rfl) rfl
theorem q0_571 : zl I 0 571 [v0, v1, v2, v3, .int x4, v5, v6] st u P = zl I 0 573 [v0, v1, v2, v3, .int x4, v5, v6] (.int x4 :: st) u P := zl_Il h0_571 rfl
theorem h0_573 : xcd2 I 0 573 = oI 1 574 := ch_8 (Nat.le_of_ble_eq_true rfl) rfl
theorem q0_573 : zl I 0 573 [v0, v1, v2, v3, v4, v5, v6] st u P = zl I 0 574 [v0, v1, v2, v3, v4, v5, v6] (.int 1 :: st) u P := zl_I h0_573
theorem h0_574 : xcd2 I 0 574 = oB (fun x y => x + y) 575 := ch_8 (Nat.le_of_ble_eq_true rfl) rfl
theorem q0_574 : zl I 0 574 [v0, v1, v2, v3, v4, v5, v6] (.int y1 :: .int y2 :: st) u P = zl I 0 575 [v0, v1, v2, v3, v4, v5, v6] (.int (y2 + y1) :: st) u P := zl_B h0_574
theorem h0_575 : xcd2 I 0 575 = oScr 576 := ch_8 (Nat.le_of_ble_eq_true rfl) rfl
theorem q0_575 : zl I 0 575 [v0, v1, v2, v3, v4, v5, v6] (.int y1 :: .ref b1 :: st) u P = ((b1 = 2000000 ∧ xinb y1 (xN u 2000000)) ∧ zl I 0 576 [v0, v1, v2, v3, v4, v5, v6] (.int (xI u 2000000 (xix y1)) :: st) u P) := zl_Scr h0_575
theorem h0_576 : xcd2 I 0 576 = oAl 0 577 := ch_8 (Nat.le_of_ble_eq_true rfl) rfl
theorem q0_576 : zl I 0 576 [.ref a0, v1, v2, v3, v4, v5, v6] st u P = zl I 0 577 [.ref a0, v1, v2, v3, v4, v5, v6] (.ref a0 :: st) u P := zl_Al h0_576 rfl
theorem h0_577 : xcd2 I 0 577 = oIl 4 579 := ch_8 (Nat.le_of_ble_eq_true rfl) rfl
theorem q0_577 : zl I 0 577 [v0, v1, v2, v3, .int x4, v5, v6] st u P = zl I 0 579 [v0, v1, v2, v3, .int x4, v5, v6] (.int x4 :: st) u P := zl_Il h0_577 rfl
theorem h0_579 : xcd2 I 0 579 = oI 2 580 := ch_8 (Nat.le_of_ble_eq_true rfl) rfl
theorem q0_579 : zl I 0 579 [v0, v1, v2, v3, v4, v5, v6] st u P = zl I 0 580 [v0, v1, v2, v3, v4, v5, v6] (.int 2 :: st) u P := zl_I h0_579
theorem h0_580 : xcd2 I 0 580 = oB (fun x y => x + y) 581 := ch_8 (Nat.le_of_ble_eq_true rfl) rfl
theorem q0_580 : zl I 0 580 [v0, v1, v2, v3, v4, v5, v6] (.int y1 :: .int y2 :: st) u P = zl I 0 581 [v0, v1, v2, v3, v4, v5, v6] (.int (y2 + y1) :: st) u P := zl_B h0_580
theorem h0_581 : xcd2 I 0 581 = oScr 582 := ch_9 (Nat.le_of_ble_eq_true rfl) rfl
theorem q0_581 : zl I 0 581 [v0, v1, v2, v3, v4, v5, v6] (.int y1 :: .ref b1 :: st) u P = ((b1 = 2000000 ∧ xinb y1 (xN u 2000000)) ∧ zl I 0 582 [v0, v1, v2, v3, v4, v5, v6] (.int (xI u 2000000 (xix y1)) :: st) u P) := zl_Scr h0_581
theorem h0_582 : xcd2 I 0 582 = oCalV 11 228 2 585 := ch_9 (Nat.le_of_ble_eq_true rfl) rfl
theorem q0_582 : zl I 0 582 [v0, v1, v2, v3, v4, v5, v6] (.int y2 :: .int y1 :: .ref b8 :: st) u P = ((xIs u b8 11 ∧ xcat st ≤ 8) ∧ zl I 228 0 [.ref b8, .int y1, .int y2, .null, .null, .null, .null, .null, .null] [] u (fun r u2 => zl I 0 585 [v0, v1, v2, v3, v4, v5, v6] (r.toList ++ st) u2 P)) := zl_CV h0_582 rfl rfl rfl ⟨Nat.le_of_ble_eq_true rfl, Nat.succ_ne_zero _, by decide⟩ rfl
theorem h0_585 : xcd2 I 0 585 = oCmp (fun x y => decide (x = y)) 2238 588 := ch_9 (Nat.le_of_ble_eq_true rfl) rfl
theorem q0_585 : zl I 0 585 [v0, v1, v2, v3, v4, v5, v6] (.int y1 :: .int y2 :: st) u P = (if y2 = y1 then zl I 0 2238 [v0, v1, v2, v3, v4, v5, v6] st u P else zl I 0 588 [v0, v1, v2, v3, v4, v5, v6] st u P) := zl_Cmp h0_585
theorem h0_588 : xcd2 I 0 588 = oI 0 589 := ch_9 (Nat.le_of_ble_eq_true rfl) rfl
theorem q0_588 : zl I 0 588 [v0, v1, v2, v3, v4, v5, v6] st u P = zl I 0 589 [v0, v1, v2, v3, v4, v5, v6] (.int 0 :: st) u P := zl_I h0_588
theorem h0_589 : xcd2 I 0 589 = oRz 0 := ch_9 (Nat.le_of_ble_eq_true rfl) rfl
theorem q0_589 : zl I 0 589 [v0, v1, v2, v3, v4, v5, v6] [.int y1] u P = ((y1 = 0 ∨ y1 = 1) ∧ P (some (.int y1)) u) := zl_Rz h0_589
theorem h0_590 : xcd2 I 0 590 = oAl 1 591 := ch_9 (Nat.le_of_ble_eq_true rfl) rfl
theorem q0_590 : zl I 0 590 [v0, .ref a1, v2, v3, v4, v5, v6] st u P = zl I 0 591 [v0, .ref a1, v2, v3, v4, v5, v6] (.ref a1 :: st) u P := zl_Al h0_590 rfl
theorem h0_591 : xcd2 I 0 591 = oAl 0 592 := ch_9 (Nat.le_of_ble_eq_true rfl) rfl
theorem q0_591 : zl I 0 591 [.ref a0, v1, v2, v3, v4, v5, v6] st u P = zl I 0 592 [.ref a0, v1, v2, v3, v4, v5, v6] (.ref a0 :: st) u P := zl_Al h0_591 rfl
theorem h0_592 : xcd2 I 0 592 = oIl 4 594 := ch_9 (Nat.le_of_ble_eq_true rfl) rfl
theorem q0_592 : zl I 0 592 [v0, v1, v2, v3, .int x4, v5, v6] st u P = zl I 0 594 [v0, v1, v2, v3, .int x4, v5, v6] (.int x4 :: st) u P := zl_Il h0_592 rfl
theorem h0_594 : xcd2 I 0 594 = oI 1 595 := ch_9 (Nat.le_of_ble_eq_true rfl) rfl
theorem q0_594 : zl I 0 594 [v0, v1, v2, v3, v4, v5, v6] st u P = zl I 0 595 [v0, v1, v2, v3, v4, v5, v6] (.int 1 :: st) u P := zl_I h0_594
theorem h0_595 : xcd2 I 0 595 = oB (fun x y => x + y) 596 := ch_9 (Nat.le_of_ble_eq_true rfl) rfl
theorem q0_595 : zl I 0 595 [v0, v1, v2, v3, v4, v5, v6] (.int y1 :: .int y2 :: st) u P = zl I 0 596 [v0, v1, v2, v3, v4, v5, v6] (.int (y2 + y1) :: st) u P := zl_B h0_595
theorem h0_596 : xcd2 I 0 596 = oScr 597 := ch_9 (Nat.le_of_ble_eq_true rfl) rfl
theorem q0_596 : zl I 0 596 [v0, v1, v2, v3, v4, v5, v6] (.int y1 :: .ref b1 :: st) u P = ((b1 = 2000000 ∧ xinb y1 (xN u 2000000)) ∧ zl I 0 597 [v0, v1, v2, v3, v4, v5, v6] (.int (xI u 2000000 (xix y1)) :: st) u P) := zl_Scr h0_596
theorem h0_597 : xcd2 I 0 597 = oAl 0 598 := ch_9 (Nat.le_of_ble_eq_true rfl) rfl
theorem q0_597 : zl I 0 597 [.ref a0, v1, v2, v3, v4, v5, v6] st u P = zl I 0 598 [.ref a0, v1, v2, v3, v4, v5, v6] (.ref a0 :: st) u P := zl_Al h0_597 rfl
theorem h0_598 : xcd2 I 0 598 = oIl 4 600 := ch_9 (Nat.le_of_ble_eq_true rfl) rfl
theorem q0_598 : zl I 0 598 [v0, v1, v2, v3, .int x4, v5, v6] st u P = zl I 0 600 [v0, v1, v2, v3, .int x4, v5, v6] (.int x4 :: st) u P := zl_Il h0_598 rfl
theorem h0_600 : xcd2 I 0 600 = oI 2 601 := ch_9 (Nat.le_of_ble_eq_true rfl) rfl
theorem q0_600 : zl I 0 600 [v0, v1, v2, v3, v4, v5, v6] st u P = zl I 0 601 [v0, v1, v2, v3, v4, v5, v6] (.int 2 :: st) u P := zl_I h0_600
theorem h0_601 : xcd2 I 0 601 = oB (fun x y => x + y) 602 := ch_9 (Nat.le_of_ble_eq_true rfl) rfl
theorem q0_601 : zl I 0 601 [v0, v1, v2, v3, v4, v5, v6] (.int y1 :: .int y2 :: st) u P = zl I 0 602 [v0, v1, v2, v3, v4, v5, v6] (.int (y2 + y1) :: st) u P := zl_B h0_601
theorem h0_602 : xcd2 I 0 602 = oScr 603 := ch_9 (Nat.le_of_ble_eq_true rfl) rfl
theorem q0_602 : zl I 0 602 [v0, v1, v2, v3, v4, v5, v6] (.int y1 :: .ref b1 :: st) u P = ((b1 = 2000000 ∧ xinb y1 (xN u 2000000)) ∧ zl I 0 603 [v0, v1, v2, v3, v4, v5, v6] (.int (xI u 2000000 (xix y1)) :: st) u P) := zl_Scr h0_602
theorem h0_603 : xcd2 I 0 603 = oAl 0 604 := ch_9 (Nat.le_of_ble_eq_true rfl) rfl
theorem q0_603 : zl I 0 603 [.ref a0, v1, v2, v3, v4, v5, v6] st u P = zl I 0 604 [.ref a0, v1, v2, v3, v4, v5, v6] (.ref a0 :: st) u P := zl_Al h0_603 rfl
theorem h0_604 : xcd2 I 0 604 = oIl 4 606 := ch_9 (Nat.le_of_ble_eq_true rfl) rfl
theorem q0_604 : zl I 0 604 [v0, v1, v2, v3, .int x4, v5, v6] st u P = zl I 0 606 [v0, v1, v2, v3, .int x4, v5, v6] (.int x4 :: st) u P := zl_Il h0_604 rfl
theorem h0_606 : xcd2 I 0 606 = oI 3 607 := ch_9 (Nat.le_of_ble_eq_true rfl) rfl
theorem q0_606 : zl I 0 606 [v0, v1, v2, v3, v4, v5, v6] st u P = zl I 0 607 [v0, v1, v2, v3, v4, v5, v6] (.int 3 :: st) u P := zl_I h0_606
theorem h0_607 : xcd2 I 0 607 = oB (fun x y => x + y) 608 := ch_9 (Nat.le_of_ble_eq_true rfl) rfl
theorem q0_607 : zl I 0 607 [v0, v1, v2, v3, v4, v5, v6] (.int y1 :: .int y2 :: st) u P = zl I 0 608 [v0, v1, v2, v3, v4, v5, v6] (.int (y2 + y1) :: st) u P := zl_B h0_607
theorem h0_608 : xcd2 I 0 608 = oScr 609 := ch_9 (Nat.le_of_ble_eq_true rfl) rfl
theorem q0_608 : zl I 0 608 [v0, v1, v2, v3, v4, v5, v6] (.int y1 :: .ref b1 :: st) u P = ((b1 = 2000000 ∧ xinb y1 (xN u 2000000)) ∧ zl I 0 609 [v0, v1, v2, v3, v4, v5, v6] (.int (xI u 2000000 (xix y1)) :: st) u P) := zl_Scr h0_608
theorem h0_609 : xcd2 I 0 609 = oAl 0 610 := ch_9 (Nat.le_of_ble_eq_true rfl) rfl
theorem q0_609 : zl I 0 609 [.ref a0, v1, v2, v3, v4, v5, v6] st u P = zl I 0 610 [.ref a0, v1, v2, v3, v4, v5, v6] (.ref a0 :: st) u P := zl_Al h0_609 rfl
theorem h0_610 : xcd2 I 0 610 = oIl 4 612 := ch_9 (Nat.le_of_ble_eq_true rfl) rfl
theorem q0_610 : zl I 0 610 [v0, v1, v2, v3, .int x4, v5, v6] st u P = zl I 0 612 [v0, v1, v2, v3, .int x4, v5, v6] (.int x4 :: st) u P := zl_Il h0_610 rfl
theorem h0_612 : xcd2 I 0 612 = oI 4 613 := ch_9 (Nat.le_of_ble_eq_true rfl) rfl
theorem q0_612 : zl I 0 612 [v0, v1, v2, v3, v4, v5, v6] st u P = zl I 0 613 [v0, v1, v2, v3, v4, v5, v6] (.int 4 :: st) u P := zl_I h0_612
theorem h0_613 : xcd2 I 0 613 = oB (fun x y => x + y) 614 := ch_9 (Nat.le_of_ble_eq_true rfl) rfl
theorem q0_613 : zl I 0 613 [v0, v1, v2, v3, v4, v5, v6] (.int y1 :: .int y2 :: st) u P = zl I 0 614 [v0, v1, v2, v3, v4, v5, v6] (.int (y2 + y1) :: st) u P := zl_B h0_613
theorem h0_614 : xcd2 I 0 614 = oScr 615 := ch_9 (Nat.le_of_ble_eq_true rfl) rfl
theorem q0_614 : zl I 0 614 [v0, v1, v2, v3, v4, v5, v6] (.int y1 :: .ref b1 :: st) u P = ((b1 = 2000000 ∧ xinb y1 (xN u 2000000)) ∧ zl I 0 615 [v0, v1, v2, v3, v4, v5, v6] (.int (xI u 2000000 (xix y1)) :: st) u P) := zl_Scr h0_614
theorem h0_615 : xcd2 I 0 615 = oCalV 10 117 4 618 := ch_9 (Nat.le_of_ble_eq_true rfl) rfl
theorem q0_615 : zl I 0 615 [v0, v1, v2, v3, v4, v5, v6] (.int y4 :: .int y3 :: .int y2 :: .int y1 :: .ref b8 :: st) u P = ((xIs u b8 10 ∧ xcat st ≤ 8) ∧ zl I 117 0 [.ref b8, .int y1, .int y2, .int y3, .int y4, .null] [] u (fun r u2 => zl I 0 618 [v0, v1, v2, v3, v4, v5, v6] (r.toList ++ st) u2 P)) := zl_CV h0_615 rfl rfl rfl ⟨Nat.le_of_ble_eq_true rfl, Nat.succ_ne_zero _, by decide⟩ rfl
theorem h0_618 : xcd2 I 0 618 = oAl 2 619 := ch_9 (Nat.le_of_ble_eq_true rfl) rfl
theorem q0_618 : zl I 0 618 [v0, v1, .ref a2, v3, v4, v5, v6] st u P = zl I 0 619 [v0, v1, .ref a2, v3, v4, v5, v6] (.ref a2 :: st) u P := zl_Al h0_618 rfl
theorem h0_619 : xcd2 I 0 619 = oAl 0 620 := ch_9 (Nat.le_of_ble_eq_true rfl) rfl
theorem q0_619 : zl I 0 619 [.ref a0, v1, v2, v3, v4, v5, v6] st u P = zl I 0 620 [.ref a0, v1, v2, v3, v4, v5, v6] (.ref a0 :: st) u P := zl_Al h0_619 rfl
theorem h0_620 : xcd2 I 0 620 = oIl 4 622 := ch_9 (Nat.le_of_ble_eq_true rfl) rfl
theorem q0_620 : zl I 0 620 [v0, v1, v2, v3, .int x4, v5, v6] st u P = zl I 0 622 [v0, v1, v2, v3, .int x4, v5, v6] (.int x4 :: st) u P := zl_Il h0_620 rfl
theorem h0_622 : xcd2 I 0 622 = oI 1 623 := ch_10 (Nat.le_of_ble_eq_true rfl) rfl
theorem q0_622 : zl I 0 622 [v0, v1, v2, v3, v4, v5, v6] st u P = zl I 0 623 [v0, v1, v2, v3, v4, v5, v6] (.int 1 :: st) u P := zl_I h0_622
theorem h0_623 : xcd2 I 0 623 = oB (fun x y => x + y) 624 := ch_10 (Nat.le_of_ble_eq_true rfl) rfl
theorem q0_623 : zl I 0 623 [v0, v1, v2, v3, v4, v5, v6] (.int y1 :: .int y2 :: st) u P = zl I 0 624 [v0, v1, v2, v3, v4, v5, v6] (.int (y2 + y1) :: st) u P := zl_B h0_623
theorem h0_624 : xcd2 I 0 624 = oScr 625 := ch_10 (Nat.le_of_ble_eq_true rfl) rfl
theorem q0_624 : zl I 0 624 [v0, v1, v2, v3, v4, v5, v6] (.int y1 :: .ref b1 :: st) u P = ((b1 = 2000000 ∧ xinb y1 (xN u 2000000)) ∧ zl I 0 625 [v0, v1, v2, v3, v4, v5, v6] (.int (xI u 2000000 (xix y1)) :: st) u P) := zl_Scr h0_624
theorem h0_625 : xcd2 I 0 625 = oAl 0 626 := ch_10 (Nat.le_of_ble_eq_true rfl) rfl
theorem q0_625 : zl I 0 625 [.ref a0, v1, v2, v3, v4, v5, v6] st u P = zl I 0 626 [.ref a0, v1, v2, v3, v4, v5, v6] (.ref a0 :: st) u P := zl_Al h0_625 rfl
theorem h0_626 : xcd2 I 0 626 = oIl 4 628 := ch_10 (Nat.le_of_ble_eq_true rfl) rfl
theorem q0_626 : zl I 0 626 [v0, v1, v2, v3, .int x4, v5, v6] st u P = zl I 0 628 [v0, v1, v2, v3, .int x4, v5, v6] (.int x4 :: st) u P := zl_Il h0_626 rfl
theorem h0_628 : xcd2 I 0 628 = oI 2 629 := ch_10 (Nat.le_of_ble_eq_true rfl) rfl
theorem q0_628 : zl I 0 628 [v0, v1, v2, v3, v4, v5, v6] st u P = zl I 0 629 [v0, v1, v2, v3, v4, v5, v6] (.int 2 :: st) u P := zl_I h0_628
theorem h0_629 : xcd2 I 0 629 = oB (fun x y => x + y) 630 := ch_10 (Nat.le_of_ble_eq_true rfl) rfl
theorem q0_629 : zl I 0 629 [v0, v1, v2, v3, v4, v5, v6] (.int y1 :: .int y2 :: st) u P = zl I 0 630 [v0, v1, v2, v3, v4, v5, v6] (.int (y2 + y1) :: st) u P := zl_B h0_629
theorem h0_630 : xcd2 I 0 630 = oScr 631 := ch_10 (Nat.le_of_ble_eq_true rfl) rfl
theorem q0_630 : zl I 0 630 [v0, v1, v2, v3, v4, v5, v6] (.int y1 :: .ref b1 :: st) u P = ((b1 = 2000000 ∧ xinb y1 (xN u 2000000)) ∧ zl I 0 631 [v0, v1, v2, v3, v4, v5, v6] (.int (xI u 2000000 (xix y1)) :: st) u P) := zl_Scr h0_630
theorem h0_631 : xcd2 I 0 631 = oAl 0 632 := ch_10 (Nat.le_of_ble_eq_true rfl) rfl
theorem q0_631 : zl I 0 631 [.ref a0, v1, v2, v3, v4, v5, v6] st u P = zl I 0 632 [.ref a0, v1, v2, v3, v4, v5, v6] (.ref a0 :: st) u P := zl_Al h0_631 rfl
theorem h0_632 : xcd2 I 0 632 = oIl 4 634 := ch_10 (Nat.le_of_ble_eq_true rfl) rfl
theorem q0_632 : zl I 0 632 [v0, v1, v2, v3, .int x4, v5, v6] st u P = zl I 0 634 [v0, v1, v2, v3, .int x4, v5, v6] (.int x4 :: st) u P := zl_Il h0_632 rfl
theorem h0_634 : xcd2 I 0 634 = oI 3 635 := ch_10 (Nat.le_of_ble_eq_true rfl) rfl
theorem q0_634 : zl I 0 634 [v0, v1, v2, v3, v4, v5, v6] st u P = zl I 0 635 [v0, v1, v2, v3, v4, v5, v6] (.int 3 :: st) u P := zl_I h0_634
theorem h0_635 : xcd2 I 0 635 = oB (fun x y => x + y) 636 := ch_10 (Nat.le_of_ble_eq_true rfl) rfl
theorem q0_635 : zl I 0 635 [v0, v1, v2, v3, v4, v5, v6] (.int y1 :: .int y2 :: st) u P = zl I 0 636 [v0, v1, v2, v3, v4, v5, v6] (.int (y2 + y1) :: st) u P := zl_B h0_635
theorem h0_636 : xcd2 I 0 636 = oScr 637 := ch_10 (Nat.le_of_ble_eq_true rfl) rfl
theorem q0_636 : zl I 0 636 [v0, v1, v2, v3, v4, v5, v6] (.int y1 :: .ref b1 :: st) u P = ((b1 = 2000000 ∧ xinb y1 (xN u 2000000)) ∧ zl I 0 637 [v0, v1, v2, v3, v4, v5, v6] (.int (xI u 2000000 (xix y1)) :: st) u P) := zl_Scr h0_636
theorem h0_637 : xcd2 I 0 637 = oAl 0 638 := ch_10 (Nat.le_of_ble_eq_true rfl) rfl
theorem q0_637 : zl I 0 637 [.ref a0, v1, v2, v3, v4, v5, v6] st u P = zl I 0 638 [.ref a0, v1, v2, v3, v4, v5, v6] (.ref a0 :: st) u P := zl_Al h0_637 rfl
theorem h0_638 : xcd2 I 0 638 = oIl 4 640 := ch_10 (Nat.le_of_ble_eq_true rfl) rfl
theorem q0_638 : zl I 0 638 [v0, v1, v2, v3, .int x4, v5, v6] st u P = zl I 0 640 [v0, v1, v2, v3, .int x4, v5, v6] (.int x4 :: st) u P := zl_Il h0_638 rfl
theorem h0_640 : xcd2 I 0 640 = oI 4 641 := ch_10 (Nat.le_of_ble_eq_true rfl) rfl
theorem q0_640 : zl I 0 640 [v0, v1, v2, v3, v4, v5, v6] st u P = zl I 0 641 [v0, v1, v2, v3, v4, v5, v6] (.int 4 :: st) u P := zl_I h0_640
theorem h0_641 : xcd2 I 0 641 = oB (fun x y => x + y) 642 := ch_10 (Nat.le_of_ble_eq_true rfl) rfl
theorem q0_641 : zl I 0 641 [v0, v1, v2, v3, v4, v5, v6] (.int y1 :: .int y2 :: st) u P = zl I 0 642 [v0, v1, v2, v3, v4, v5, v6] (.int (y2 + y1) :: st) u P := zl_B h0_641
theorem h0_642 : xcd2 I 0 642 = oScr 643 := ch_10 (Nat.le_of_ble_eq_true rfl) rfl
theorem q0_642 : zl I 0 642 [v0, v1, v2, v3, v4, v5, v6] (.int y1 :: .ref b1 :: st) u P = ((b1 = 2000000 ∧ xinb y1 (xN u 2000000)) ∧ zl I 0 643 [v0, v1, v2, v3, v4, v5, v6] (.int (xI u 2000000 (xix y1)) :: st) u P) := zl_Scr h0_642
theorem h0_643 : xcd2 I 0 643 = oCalV 11 231 4 646 := ch_10 (Nat.le_of_ble_eq_true rfl) rfl
theorem q0_643 : zl I 0 643 [v0, v1, v2, v3, v4, v5, v6] (.int y4 :: .int y3 :: .int y2 :: .int y1 :: .ref b8 :: st) u P = ((xIs u b8 11 ∧ xcat st ≤ 8) ∧ zl I 231 0 [.ref b8, .int y1, .int y2, .int y3, .int y4, .null] [] u (fun r u2 => zl I 0 646 [v0, v1, v2, v3, v4, v5, v6] (r.toList ++ st) u2 P)) := zl_CV h0_643 rfl rfl rfl ⟨Nat.le_of_ble_eq_true rfl, Nat.succ_ne_zero _, by decide⟩ rfl
theorem h0_646 : xcd2 I 0 646 = oCmp (fun x y => decide (x = y)) 2238 649 := ch_10 (Nat.le_of_ble_eq_true rfl) rfl
theorem q0_646 : zl I 0 646 [v0, v1, v2, v3, v4, v5, v6] (.int y1 :: .int y2 :: st) u P = (if y2 = y1 then zl I 0 2238 [v0, v1, v2, v3, v4, v5, v6] st u P else zl I 0 649 [v0, v1, v2, v3, v4, v5, v6] st u P) := zl_Cmp h0_646
theorem h0_649 : xcd2 I 0 649 = oI 0 650 := ch_10 (Nat.le_of_ble_eq_true rfl) rfl
theorem q0_649 : zl I 0 649 [v0, v1, v2, v3, v4, v5, v6] st u P = zl I 0 650 [v0, v1, v2, v3, v4, v5, v6] (.int 0 :: st) u P := zl_I h0_649
theorem h0_650 : xcd2 I 0 650 = oRz 0 := ch_10 (Nat.le_of_ble_eq_true rfl) rfl
theorem q0_650 : zl I 0 650 [v0, v1, v2, v3, v4, v5, v6] [.int y1] u P = ((y1 = 0 ∨ y1 = 1) ∧ P (some (.int y1)) u) := zl_Rz h0_650
theorem h0_651 : xcd2 I 0 651 = oAl 1 652 := ch_10 (Nat.le_of_ble_eq_true rfl) rfl
theorem q0_651 : zl I 0 651 [v0, .ref a1, v2, v3, v4, v5, v6] st u P = zl I 0 652 [v0, .ref a1, v2, v3, v4, v5, v6] (.ref a1 :: st) u P := zl_Al h0_651 rfl
theorem h0_652 : xcd2 I 0 652 = oAl 0 653 := ch_10 (Nat.le_of_ble_eq_true rfl) rfl
theorem q0_652 : zl I 0 652 [.ref a0, v1, v2, v3, v4, v5, v6] st u P = zl I 0 653 [.ref a0, v1, v2, v3, v4, v5, v6] (.ref a0 :: st) u P := zl_Al h0_652 rfl
theorem h0_653 : xcd2 I 0 653 = oIl 4 655 := ch_10 (Nat.le_of_ble_eq_true rfl) rfl
theorem q0_653 : zl I 0 653 [v0, v1, v2, v3, .int x4, v5, v6] st u P = zl I 0 655 [v0, v1, v2, v3, .int x4, v5, v6] (.int x4 :: st) u P := zl_Il h0_653 rfl
theorem h0_655 : xcd2 I 0 655 = oI 1 656 := ch_10 (Nat.le_of_ble_eq_true rfl) rfl
theorem q0_655 : zl I 0 655 [v0, v1, v2, v3, v4, v5, v6] st u P = zl I 0 656 [v0, v1, v2, v3, v4, v5, v6] (.int 1 :: st) u P := zl_I h0_655
theorem h0_656 : xcd2 I 0 656 = oB (fun x y => x + y) 657 := ch_10 (Nat.le_of_ble_eq_true rfl) rfl
theorem q0_656 : zl I 0 656 [v0, v1, v2, v3, v4, v5, v6] (.int y1 :: .int y2 :: st) u P = zl I 0 657 [v0, v1, v2, v3, v4, v5, v6] (.int (y2 + y1) :: st) u P := zl_B h0_656
theorem h0_657 : xcd2 I 0 657 = oScr 658 := ch_10 (Nat.le_of_ble_eq_true rfl) rfl
theorem q0_657 : zl I 0 657 [v0, v1, v2, v3, v4, v5, v6] (.int y1 :: .ref b1 :: st) u P = ((b1 = 2000000 ∧ xinb y1 (xN u 2000000)) ∧ zl I 0 658 [v0, v1, v2, v3, v4, v5, v6] (.int (xI u 2000000 (xix y1)) :: st) u P) := zl_Scr h0_657
theorem h0_658 : xcd2 I 0 658 = oAl 0 659 := ch_10 (Nat.le_of_ble_eq_true rfl) rfl
theorem q0_658 : zl I 0 658 [.ref a0, v1, v2, v3, v4, v5, v6] st u P = zl I 0 659 [.ref a0, v1, v2, v3, v4, v5, v6] (.ref a0 :: st) u P := zl_Al h0_658 rfl
theorem h0_659 : xcd2 I 0 659 = oIl 4 661 := ch_10 (Nat.le_of_ble_eq_true rfl) rfl
theorem q0_659 : zl I 0 659 [v0, v1, v2, v3, .int x4, v5, v6] st u P = zl I 0 661 [v0, v1, v2, v3, .int x4, v5, v6] (.int x4 :: st) u P := zl_Il h0_659 rfl
theorem h0_661 : xcd2 I 0 661 = oI 2 662 := ch_11 (Nat.le_of_ble_eq_true rfl) rfl
theorem q0_661 : zl I 0 661 [v0, v1, v2, v3, v4, v5, v6] st u P = zl I 0 662 [v0, v1, v2, v3, v4, v5, v6] (.int 2 :: st) u P := zl_I h0_661
theorem h0_662 : xcd2 I 0 662 = oB (fun x y => x + y) 663 := ch_11 (Nat.le_of_ble_eq_true rfl) rfl
theorem q0_662 : zl I 0 662 [v0, v1, v2, v3, v4, v5, v6] (.int y1 :: .int y2 :: st) u P = zl I 0 663 [v0, v1, v2, v3, v4, v5, v6] (.int (y2 + y1) :: st) u P := zl_B h0_662
theorem h0_663 : xcd2 I 0 663 = oScr 664 := ch_11 (Nat.le_of_ble_eq_true rfl) rfl
theorem q0_663 : zl I 0 663 [v0, v1, v2, v3, v4, v5, v6] (.int y1 :: .ref b1 :: st) u P = ((b1 = 2000000 ∧ xinb y1 (xN u 2000000)) ∧ zl I 0 664 [v0, v1, v2, v3, v4, v5, v6] (.int (xI u 2000000 (xix y1)) :: st) u P) := zl_Scr h0_663
theorem h0_664 : xcd2 I 0 664 = oAl 0 665 := ch_11 (Nat.le_of_ble_eq_true rfl) rfl
theorem q0_664 : zl I 0 664 [.ref a0, v1, v2, v3, v4, v5, v6] st u P = zl I 0 665 [.ref a0, v1, v2, v3, v4, v5, v6] (.ref a0 :: st) u P := zl_Al h0_664 rfl
theorem h0_665 : xcd2 I 0 665 = oIl 4 667 := ch_11 (Nat.le_of_ble_eq_true rfl) rfl
theorem q0_665 : zl I 0 665 [v0, v1, v2, v3, .int x4, v5, v6] st u P = zl I 0 667 [v0, v1, v2, v3, .int x4, v5, v6] (.int x4 :: st) u P := zl_Il h0_665 rfl
theorem h0_667 : xcd2 I 0 667 = oI 3 668 := ch_11 (Nat.le_of_ble_eq_true rfl) rfl
theorem q0_667 : zl I 0 667 [v0, v1, v2, v3, v4, v5, v6] st u P = zl I 0 668 [v0, v1, v2, v3, v4, v5, v6] (.int 3 :: st) u P := zl_I h0_667
theorem h0_668 : xcd2 I 0 668 = oB (fun x y => x + y) 669 := ch_11 (Nat.le_of_ble_eq_true rfl) rfl
theorem q0_668 : zl I 0 668 [v0, v1, v2, v3, v4, v5, v6] (.int y1 :: .int y2 :: st) u P = zl I 0 669 [v0, v1, v2, v3, v4, v5, v6] (.int (y2 + y1) :: st) u P := zl_B h0_668
theorem h0_669 : xcd2 I 0 669 = oScr 670 := ch_11 (Nat.le_of_ble_eq_true rfl) rfl
theorem q0_669 : zl I 0 669 [v0, v1, v2, v3, v4, v5, v6] (.int y1 :: .ref b1 :: st) u P = ((b1 = 2000000 ∧ xinb y1 (xN u 2000000)) ∧ zl I 0 670 [v0, v1, v2, v3, v4, v5, v6] (.int (xI u 2000000 (xix y1)) :: st) u P) := zl_Scr h0_669
theorem h0_670 : xcd2 I 0 670 = oAl 0 671 := ch_11 (Nat.le_of_ble_eq_true rfl) rfl
theorem q0_670 : zl I 0 670 [.ref a0, v1, v2, v3, v4, v5, v6] st u P = zl I 0 671 [.ref a0, v1, v2, v3, v4, v5, v6] (.ref a0 :: st) u P := zl_Al h0_670 rfl
theorem h0_671 : xcd2 I 0 671 = oIl 4 673 := ch_11 (Nat.le_of_ble_eq_true rfl) rfl
theorem q0_671 : zl I 0 671 [v0, v1, v2, v3, .int x4, v5, v6] st u P = zl I 0 673 [v0, v1, v2, v3, .int x4, v5, v6] (.int x4 :: st) u P := zl_Il h0_671 rfl
theorem h0_673 : xcd2 I 0 673 = oI 4 674 := ch_11 (Nat.le_of_ble_eq_true rfl) rfl
theorem q0_673 : zl I 0 673 [v0, v1, v2, v3, v4, v5, v6] st u P = zl I 0 674 [v0, v1, v2, v3, v4, v5, v6] (.int 4 :: st) u P := zl_I h0_673
theorem h0_674 : xcd2 I 0 674 = oB (fun x y => x + y) 675 := ch_11 (Nat.le_of_ble_eq_true rfl) rfl
theorem q0_674 : zl I 0 674 [v0, v1, v2, v3, v4, v5, v6] (.int y1 :: .int y2 :: st) u P = zl I 0 675 [v0, v1, v2, v3, v4, v5, v6] (.int (y2 + y1) :: st) u P := zl_B h0_674
theorem h0_675 : xcd2 I 0 675 = oScr 676 := ch_11 (Nat.le_of_ble_eq_true rfl) rfl
theorem q0_675 : zl I 0 675 [v0, v1, v2, v3, v4, v5, v6] (.int y1 :: .ref b1 :: st) u P = ((b1 = 2000000 ∧ xinb y1 (xN u 2000000)) ∧ zl I 0 676 [v0, v1, v2, v3, v4, v5, v6] (.int (xI u 2000000 (xix y1)) :: st) u P) := zl_Scr h0_675
theorem h0_676 : xcd2 I 0 676 = oCalV 10 118 4 679 := ch_11 (Nat.le_of_ble_eq_true rfl) rfl
theorem q0_676 : zl I 0 676 [v0, v1, v2, v3, v4, v5, v6] (.int y4 :: .int y3 :: .int y2 :: .int y1 :: .ref b8 :: st) u P = ((xIs u b8 10 ∧ xcat st ≤ 8) ∧ zl I 118 0 [.ref b8, .int y1, .int y2, .int y3, .int y4, .null, .null] [] u (fun r u2 => zl I 0 679 [v0, v1, v2, v3, v4, v5, v6] (r.toList ++ st) u2 P)) := zl_CV h0_676 rfl rfl rfl ⟨Nat.le_of_ble_eq_true rfl, Nat.succ_ne_zero _, by decide⟩ rfl
theorem h0_679 : xcd2 I 0 679 = oAl 2 680 := ch_11 (Nat.le_of_ble_eq_true rfl) rfl
theorem q0_679 : zl I 0 679 [v0, v1, .ref a2, v3, v4, v5, v6] st u P = zl I 0 680 [v0, v1, .ref a2, v3, v4, v5, v6] (.ref a2 :: st) u P := zl_Al h0_679 rfl
theorem h0_680 : xcd2 I 0 680 = oAl 0 681 := ch_11 (Nat.le_of_ble_eq_true rfl) rfl
theorem q0_680 : zl I 0 680 [.ref a0, v1, v2, v3, v4, v5, v6] st u P = zl I 0 681 [.ref a0, v1, v2, v3, v4, v5, v6] (.ref a0 :: st) u P := zl_Al h0_680 rfl
theorem h0_681 : xcd2 I 0 681 = oIl 4 683 := ch_11 (Nat.le_of_ble_eq_true rfl) rfl
theorem q0_681 : zl I 0 681 [v0, v1, v2, v3, .int x4, v5, v6] st u P = zl I 0 683 [v0, v1, v2, v3, .int x4, v5, v6] (.int x4 :: st) u P := zl_Il h0_681 rfl
theorem h0_683 : xcd2 I 0 683 = oI 1 684 := ch_11 (Nat.le_of_ble_eq_true rfl) rfl
theorem q0_683 : zl I 0 683 [v0, v1, v2, v3, v4, v5, v6] st u P = zl I 0 684 [v0, v1, v2, v3, v4, v5, v6] (.int 1 :: st) u P := zl_I h0_683
theorem h0_684 : xcd2 I 0 684 = oB (fun x y => x + y) 685 := ch_11 (Nat.le_of_ble_eq_true rfl) rfl
theorem q0_684 : zl I 0 684 [v0, v1, v2, v3, v4, v5, v6] (.int y1 :: .int y2 :: st) u P = zl I 0 685 [v0, v1, v2, v3, v4, v5, v6] (.int (y2 + y1) :: st) u P := zl_B h0_684
theorem h0_685 : xcd2 I 0 685 = oScr 686 := ch_11 (Nat.le_of_ble_eq_true rfl) rfl
theorem q0_685 : zl I 0 685 [v0, v1, v2, v3, v4, v5, v6] (.int y1 :: .ref b1 :: st) u P = ((b1 = 2000000 ∧ xinb y1 (xN u 2000000)) ∧ zl I 0 686 [v0, v1, v2, v3, v4, v5, v6] (.int (xI u 2000000 (xix y1)) :: st) u P) := zl_Scr h0_685
theorem h0_686 : xcd2 I 0 686 = oAl 0 687 := ch_11 (Nat.le_of_ble_eq_true rfl) rfl
theorem q0_686 : zl I 0 686 [.ref a0, v1, v2, v3, v4, v5, v6] st u P = zl I 0 687 [.ref a0, v1, v2, v3, v4, v5, v6] (.ref a0 :: st) u P := zl_Al h0_686 rfl
theorem h0_687 : xcd2 I 0 687 = oIl 4 689 := ch_11 (Nat.le_of_ble_eq_true rfl) rfl
theorem q0_687 : zl I 0 687 [v0, v1, v2, v3, .int x4, v5, v6] st u P = zl I 0 689 [v0, v1, v2, v3, .int x4, v5, v6] (.int x4 :: st) u P := zl_Il h0_687 rfl
theorem h0_689 : xcd2 I 0 689 = oI 2 690 := ch_11 (Nat.le_of_ble_eq_true rfl) rfl
theorem q0_689 : zl I 0 689 [v0, v1, v2, v3, v4, v5, v6] st u P = zl I 0 690 [v0, v1, v2, v3, v4, v5, v6] (.int 2 :: st) u P := zl_I h0_689
theorem h0_690 : xcd2 I 0 690 = oB (fun x y => x + y) 691 := ch_11 (Nat.le_of_ble_eq_true rfl) rfl
theorem q0_690 : zl I 0 690 [v0, v1, v2, v3, v4, v5, v6] (.int y1 :: .int y2 :: st) u P = zl I 0 691 [v0, v1, v2, v3, v4, v5, v6] (.int (y2 + y1) :: st) u P := zl_B h0_690
theorem h0_691 : xcd2 I 0 691 = oScr 692 := ch_11 (Nat.le_of_ble_eq_true rfl) rfl
theorem q0_691 : zl I 0 691 [v0, v1, v2, v3, v4, v5, v6] (.int y1 :: .ref b1 :: st) u P = ((b1 = 2000000 ∧ xinb y1 (xN u 2000000)) ∧ zl I 0 692 [v0, v1, v2, v3, v4, v5, v6] (.int (xI u 2000000 (xix y1)) :: st) u P) := zl_Scr h0_691
theorem h0_692 : xcd2 I 0 692 = oAl 0 693 := ch_11 (Nat.le_of_ble_eq_true rfl) rfl
theorem q0_692 : zl I 0 692 [.ref a0, v1, v2, v3, v4, v5, v6] st u P = zl I 0 693 [.ref a0, v1, v2, v3, v4, v5, v6] (.ref a0 :: st) u P := zl_Al h0_692 rfl
theorem h0_693 : xcd2 I 0 693 = oIl 4 695 := ch_11 (Nat.le_of_ble_eq_true rfl) rfl
theorem q0_693 : zl I 0 693 [v0, v1, v2, v3, .int x4, v5, v6] st u P = zl I 0 695 [v0, v1, v2, v3, .int x4, v5, v6] (.int x4 :: st) u P := zl_Il h0_693 rfl
theorem h0_695 : xcd2 I 0 695 = oI 3 696 := ch_11 (Nat.le_of_ble_eq_true rfl) rfl
theorem q0_695 : zl I 0 695 [v0, v1, v2, v3, v4, v5, v6] st u P = zl I 0 696 [v0, v1, v2, v3, v4, v5, v6] (.int 3 :: st) u P := zl_I h0_695
theorem h0_696 : xcd2 I 0 696 = oB (fun x y => x + y) 697 := ch_11 (Nat.le_of_ble_eq_true rfl) rfl
theorem q0_696 : zl I 0 696 [v0, v1, v2, v3, v4, v5, v6] (.int y1 :: .int y2 :: st) u P = zl I 0 697 [v0, v1, v2, v3, v4, v5, v6] (.int (y2 + y1) :: st) u P := zl_B h0_696
theorem h0_697 : xcd2 I 0 697 = oScr 698 := ch_11 (Nat.le_of_ble_eq_true rfl) rfl
theorem q0_697 : zl I 0 697 [v0, v1, v2, v3, v4, v5, v6] (.int y1 :: .ref b1 :: st) u P = ((b1 = 2000000 ∧ xinb y1 (xN u 2000000)) ∧ zl I 0 698 [v0, v1, v2, v3, v4, v5, v6] (.int (xI u 2000000 (xix y1)) :: st) u P) := zl_Scr h0_697
theorem h0_698 : xcd2 I 0 698 = oAl 0 699 := ch_12 (Nat.le_of_ble_eq_true rfl) rfl
theorem q0_698 : zl I 0 698 [.ref a0, v1, v2, v3, v4, v5, v6] st u P = zl I 0 699 [.ref a0, v1, v2, v3, v4, v5, v6] (.ref a0 :: st) u P := zl_Al h0_698 rfl
theorem h0_699 : xcd2 I 0 699 = oIl 4 701 := ch_12 (Nat.le_of_ble_eq_true rfl) rfl
theorem q0_699 : zl I 0 699 [v0, v1, v2, v3, .int x4, v5, v6] st u P = zl I 0 701 [v0, v1, v2, v3, .int x4, v5, v6] (.int x4 :: st) u P := zl_Il h0_699 rfl
theorem h0_701 : xcd2 I 0 701 = oI 4 702 := ch_12 (Nat.le_of_ble_eq_true rfl) rfl
theorem q0_701 : zl I 0 701 [v0, v1, v2, v3, v4, v5, v6] st u P = zl I 0 702 [v0, v1, v2, v3, v4, v5, v6] (.int 4 :: st) u P := zl_I h0_701
theorem h0_702 : xcd2 I 0 702 = oB (fun x y => x + y) 703 := ch_12 (Nat.le_of_ble_eq_true rfl) rfl
theorem q0_702 : zl I 0 702 [v0, v1, v2, v3, v4, v5, v6] (.int y1 :: .int y2 :: st) u P = zl I 0 703 [v0, v1, v2, v3, v4, v5, v6] (.int (y2 + y1) :: st) u P := zl_B h0_702
theorem h0_703 : xcd2 I 0 703 = oScr 704 := ch_12 (Nat.le_of_ble_eq_true rfl) rfl
theorem q0_703 : zl I 0 703 [v0, v1, v2, v3, v4, v5, v6] (.int y1 :: .ref b1 :: st) u P = ((b1 = 2000000 ∧ xinb y1 (xN u 2000000)) ∧ zl I 0 704 [v0, v1, v2, v3, v4, v5, v6] (.int (xI u 2000000 (xix y1)) :: st) u P) := zl_Scr h0_703
theorem h0_704 : xcd2 I 0 704 = oCalV 11 233 4 707 := ch_12 (Nat.le_of_ble_eq_true rfl) rfl
theorem q0_704 : zl I 0 704 [v0, v1, v2, v3, v4, v5, v6] (.int y4 :: .int y3 :: .int y2 :: .int y1 :: .ref b8 :: st) u P = ((xIs u b8 11 ∧ xcat st ≤ 8) ∧ zl I 233 0 [.ref b8, .int y1, .int y2, .int y3, .int y4, .null, .null, .null, .null, .null, .null, .null] [] u (fun r u2 => zl I 0 707 [v0, v1, v2, v3, v4, v5, v6] (r.toList ++ st) u2 P)) := zl_CV h0_704 rfl rfl rfl ⟨Nat.le_of_ble_eq_true rfl, Nat.succ_ne_zero _, by decide⟩ rfl
theorem h0_707 : xcd2 I 0 707 = oCmp (fun x y => decide (x = y)) 2238 710 := ch_12 (Nat.le_of_ble_eq_true rfl) rfl
theorem q0_707 : zl I 0 707 [v0, v1, v2, v3, v4, v5, v6] (.int y1 :: .int y2 :: st) u P = (if y2 = y1 then zl I 0 2238 [v0, v1, v2, v3, v4, v5, v6] st u P else zl I 0 710 [v0, v1, v2, v3, v4, v5, v6] st u P) := zl_Cmp h0_707
theorem h0_710 : xcd2 I 0 710 = oI 0 711 := ch_12 (Nat.le_of_ble_eq_true rfl) rfl
theorem q0_710 : zl I 0 710 [v0, v1, v2, v3, v4, v5, v6] st u P = zl I 0 711 [v0, v1, v2, v3, v4, v5, v6] (.int 0 :: st) u P := zl_I h0_710
theorem h0_711 : xcd2 I 0 711 = oRz 0 := ch_12 (Nat.le_of_ble_eq_true rfl) rfl
theorem q0_711 : zl I 0 711 [v0, v1, v2, v3, v4, v5, v6] [.int y1] u P = ((y1 = 0 ∨ y1 = 1) ∧ P (some (.int y1)) u) := zl_Rz h0_711
theorem h0_712 : xcd2 I 0 712 = oAl 1 713 := ch_12 (Nat.le_of_ble_eq_true rfl) rfl
theorem q0_712 : zl I 0 712 [v0, .ref a1, v2, v3, v4, v5, v6] st u P = zl I 0 713 [v0, .ref a1, v2, v3, v4, v5, v6] (.ref a1 :: st) u P := zl_Al h0_712 rfl
theorem h0_713 : xcd2 I 0 713 = oAl 0 714 := ch_12 (Nat.le_of_ble_eq_true rfl) rfl
theorem q0_713 : zl I 0 713 [.ref a0, v1, v2, v3, v4, v5, v6] st u P = zl I 0 714 [.ref a0, v1, v2, v3, v4, v5, v6] (.ref a0 :: st) u P := zl_Al h0_713 rfl
theorem h0_714 : xcd2 I 0 714 = oIl 4 716 := ch_12 (Nat.le_of_ble_eq_true rfl) rfl
theorem q0_714 : zl I 0 714 [v0, v1, v2, v3, .int x4, v5, v6] st u P = zl I 0 716 [v0, v1, v2, v3, .int x4, v5, v6] (.int x4 :: st) u P := zl_Il h0_714 rfl
theorem h0_716 : xcd2 I 0 716 = oI 1 717 := ch_12 (Nat.le_of_ble_eq_true rfl) rfl
theorem q0_716 : zl I 0 716 [v0, v1, v2, v3, v4, v5, v6] st u P = zl I 0 717 [v0, v1, v2, v3, v4, v5, v6] (.int 1 :: st) u P := zl_I h0_716
theorem h0_717 : xcd2 I 0 717 = oB (fun x y => x + y) 718 := ch_12 (Nat.le_of_ble_eq_true rfl) rfl
theorem q0_717 : zl I 0 717 [v0, v1, v2, v3, v4, v5, v6] (.int y1 :: .int y2 :: st) u P = zl I 0 718 [v0, v1, v2, v3, v4, v5, v6] (.int (y2 + y1) :: st) u P := zl_B h0_717
theorem h0_718 : xcd2 I 0 718 = oScr 719 := ch_12 (Nat.le_of_ble_eq_true rfl) rfl
theorem q0_718 : zl I 0 718 [v0, v1, v2, v3, v4, v5, v6] (.int y1 :: .ref b1 :: st) u P = ((b1 = 2000000 ∧ xinb y1 (xN u 2000000)) ∧ zl I 0 719 [v0, v1, v2, v3, v4, v5, v6] (.int (xI u 2000000 (xix y1)) :: st) u P) := zl_Scr h0_718
theorem h0_719 : xcd2 I 0 719 = oAl 0 720 := ch_12 (Nat.le_of_ble_eq_true rfl) rfl
theorem q0_719 : zl I 0 719 [.ref a0, v1, v2, v3, v4, v5, v6] st u P = zl I 0 720 [.ref a0, v1, v2, v3, v4, v5, v6] (.ref a0 :: st) u P := zl_Al h0_719 rfl
theorem h0_720 : xcd2 I 0 720 = oIl 4 722 := ch_12 (Nat.le_of_ble_eq_true rfl) rfl
theorem q0_720 : zl I 0 720 [v0, v1, v2, v3, .int x4, v5, v6] st u P = zl I 0 722 [v0, v1, v2, v3, .int x4, v5, v6] (.int x4 :: st) u P := zl_Il h0_720 rfl
theorem h0_722 : xcd2 I 0 722 = oI 2 723 := ch_12 (Nat.le_of_ble_eq_true rfl) rfl
theorem q0_722 : zl I 0 722 [v0, v1, v2, v3, v4, v5, v6] st u P = zl I 0 723 [v0, v1, v2, v3, v4, v5, v6] (.int 2 :: st) u P := zl_I h0_722
theorem h0_723 : xcd2 I 0 723 = oB (fun x y => x + y) 724 := ch_12 (Nat.le_of_ble_eq_true rfl) rfl
theorem q0_723 : zl I 0 723 [v0, v1, v2, v3, v4, v5, v6] (.int y1 :: .int y2 :: st) u P = zl I 0 724 [v0, v1, v2, v3, v4, v5, v6] (.int (y2 + y1) :: st) u P := zl_B h0_723
theorem h0_724 : xcd2 I 0 724 = oScr 725 := ch_12 (Nat.le_of_ble_eq_true rfl) rfl
theorem q0_724 : zl I 0 724 [v0, v1, v2, v3, v4, v5, v6] (.int y1 :: .ref b1 :: st) u P = ((b1 = 2000000 ∧ xinb y1 (xN u 2000000)) ∧ zl I 0 725 [v0, v1, v2, v3, v4, v5, v6] (.int (xI u 2000000 (xix y1)) :: st) u P) := zl_Scr h0_724
theorem h0_725 : xcd2 I 0 725 = oCalV 10 119 2 728 := ch_12 (Nat.le_of_ble_eq_true rfl) rfl
theorem q0_725 : zl I 0 725 [v0, v1, v2, v3, v4, v5, v6] (.int y2 :: .int y1 :: .ref b8 :: st) u P = ((xIs u b8 10 ∧ xcat st ≤ 8) ∧ zl I 119 0 [.ref b8, .int y1, .int y2] [] u (fun r u2 => zl I 0 728 [v0, v1, v2, v3, v4, v5, v6] (r.toList ++ st) u2 P)) := zl_CV h0_725 rfl rfl rfl ⟨Nat.le_of_ble_eq_true rfl, Nat.succ_ne_zero _, by decide⟩ rfl
theorem h0_728 : xcd2 I 0 728 = oAl 2 729 := ch_12 (Nat.le_of_ble_eq_true rfl) rfl
theorem q0_728 : zl I 0 728 [v0, v1, .ref a2, v3, v4, v5, v6] st u P = zl I 0 729 [v0, v1, .ref a2, v3, v4, v5, v6] (.ref a2 :: st) u P := zl_Al h0_728 rfl
theorem h0_729 : xcd2 I 0 729 = oAl 0 730 := ch_12 (Nat.le_of_ble_eq_true rfl) rfl
theorem q0_729 : zl I 0 729 [.ref a0, v1, v2, v3, v4, v5, v6] st u P = zl I 0 730 [.ref a0, v1, v2, v3, v4, v5, v6] (.ref a0 :: st) u P := zl_Al h0_729 rfl
theorem h0_730 : xcd2 I 0 730 = oIl 4 732 := ch_12 (Nat.le_of_ble_eq_true rfl) rfl
theorem q0_730 : zl I 0 730 [v0, v1, v2, v3, .int x4, v5, v6] st u P = zl I 0 732 [v0, v1, v2, v3, .int x4, v5, v6] (.int x4 :: st) u P := zl_Il h0_730 rfl
theorem h0_732 : xcd2 I 0 732 = oI 1 733 := ch_12 (Nat.le_of_ble_eq_true rfl) rfl
theorem q0_732 : zl I 0 732 [v0, v1, v2, v3, v4, v5, v6] st u P = zl I 0 733 [v0, v1, v2, v3, v4, v5, v6] (.int 1 :: st) u P := zl_I h0_732
theorem h0_733 : xcd2 I 0 733 = oB (fun x y => x + y) 734 := ch_12 (Nat.le_of_ble_eq_true rfl) rfl
theorem q0_733 : zl I 0 733 [v0, v1, v2, v3, v4, v5, v6] (.int y1 :: .int y2 :: st) u P = zl I 0 734 [v0, v1, v2, v3, v4, v5, v6] (.int (y2 + y1) :: st) u P := zl_B h0_733
theorem h0_734 : xcd2 I 0 734 = oScr 735 := ch_12 (Nat.le_of_ble_eq_true rfl) rfl
theorem q0_734 : zl I 0 734 [v0, v1, v2, v3, v4, v5, v6] (.int y1 :: .ref b1 :: st) u P = ((b1 = 2000000 ∧ xinb y1 (xN u 2000000)) ∧ zl I 0 735 [v0, v1, v2, v3, v4, v5, v6] (.int (xI u 2000000 (xix y1)) :: st) u P) := zl_Scr h0_734
theorem h0_735 : xcd2 I 0 735 = oAl 0 736 := ch_12 (Nat.le_of_ble_eq_true rfl) rfl
theorem q0_735 : zl I 0 735 [.ref a0, v1, v2, v3, v4, v5, v6] st u P = zl I 0 736 [.ref a0, v1, v2, v3, v4, v5, v6] (.ref a0 :: st) u P := zl_Al h0_735 rfl
theorem h0_736 : xcd2 I 0 736 = oIl 4 738 := ch_12 (Nat.le_of_ble_eq_true rfl) rfl
theorem q0_736 : zl I 0 736 [v0, v1, v2, v3, .int x4, v5, v6] st u P = zl I 0 738 [v0, v1, v2, v3, .int x4, v5, v6] (.int x4 :: st) u P := zl_Il h0_736 rfl
theorem h0_738 : xcd2 I 0 738 = oI 2 739 := ch_12 (Nat.le_of_ble_eq_true rfl) rfl
theorem q0_738 : zl I 0 738 [v0, v1, v2, v3, v4, v5, v6] st u P = zl I 0 739 [v0, v1, v2, v3, v4, v5, v6] (.int 2 :: st) u P := zl_I h0_738
theorem h0_739 : xcd2 I 0 739 = oB (fun x y => x + y) 740 := ch_13 (Nat.le_of_ble_eq_true rfl) rfl
theorem q0_739 : zl I 0 739 [v0, v1, v2, v3, v4, v5, v6] (.int y1 :: .int y2 :: st) u P = zl I 0 740 [v0, v1, v2, v3, v4, v5, v6] (.int (y2 + y1) :: st) u P := zl_B h0_739
theorem h0_740 : xcd2 I 0 740 = oScr 741 := ch_13 (Nat.le_of_ble_eq_true rfl) rfl
theorem q0_740 : zl I 0 740 [v0, v1, v2, v3, v4, v5, v6] (.int y1 :: .ref b1 :: st) u P = ((b1 = 2000000 ∧ xinb y1 (xN u 2000000)) ∧ zl I 0 741 [v0, v1, v2, v3, v4, v5, v6] (.int (xI u 2000000 (xix y1)) :: st) u P) := zl_Scr h0_740
theorem h0_741 : xcd2 I 0 741 = oCalV 11 234 2 744 := ch_13 (Nat.le_of_ble_eq_true rfl) rfl
theorem q0_741 : zl I 0 741 [v0, v1, v2, v3, v4, v5, v6] (.int y2 :: .int y1 :: .ref b8 :: st) u P = ((xIs u b8 11 ∧ xcat st ≤ 8) ∧ zl I 234 0 [.ref b8, .int y1, .int y2, .null, .null] [] u (fun r u2 => zl I 0 744 [v0, v1, v2, v3, v4, v5, v6] (r.toList ++ st) u2 P)) := zl_CV h0_741 rfl rfl rfl ⟨Nat.le_of_ble_eq_true rfl, Nat.succ_ne_zero _, by decide⟩ rfl
theorem h0_744 : xcd2 I 0 744 = oCmp (fun x y => decide (x = y)) 2238 747 := ch_13 (Nat.le_of_ble_eq_true rfl) rfl
theorem q0_744 : zl I 0 744 [v0, v1, v2, v3, v4, v5, v6] (.int y1 :: .int y2 :: st) u P = (if y2 = y1 then zl I 0 2238 [v0, v1, v2, v3, v4, v5, v6] st u P else zl I 0 747 [v0, v1, v2, v3, v4, v5, v6] st u P) := zl_Cmp h0_744
theorem h0_747 : xcd2 I 0 747 = oI 0 748 := ch_13 (Nat.le_of_ble_eq_true rfl) rfl
theorem q0_747 : zl I 0 747 [v0, v1, v2, v3, v4, v5, v6] st u P = zl I 0 748 [v0, v1, v2, v3, v4, v5, v6] (.int 0 :: st) u P := zl_I h0_747
theorem h0_748 : xcd2 I 0 748 = oRz 0 := ch_13 (Nat.le_of_ble_eq_true rfl) rfl
theorem q0_748 : zl I 0 748 [v0, v1, v2, v3, v4, v5, v6] [.int y1] u P = ((y1 = 0 ∨ y1 = 1) ∧ P (some (.int y1)) u) := zl_Rz h0_748
theorem h0_749 : xcd2 I 0 749 = oAl 1 750 := ch_13 (Nat.le_of_ble_eq_true rfl) rfl
theorem q0_749 : zl I 0 749 [v0, .ref a1, v2, v3, v4, v5, v6] st u P = zl I 0 750 [v0, .ref a1, v2, v3, v4, v5, v6] (.ref a1 :: st) u P := zl_Al h0_749 rfl
theorem h0_750 : xcd2 I 0 750 = oAl 0 751 := ch_13 (Nat.le_of_ble_eq_true rfl) rfl
theorem q0_750 : zl I 0 750 [.ref a0, v1, v2, v3, v4, v5, v6] st u P = zl I 0 751 [.ref a0, v1, v2, v3, v4, v5, v6] (.ref a0 :: st) u P := zl_Al h0_750 rfl
theorem h0_751 : xcd2 I 0 751 = oIl 4 753 := ch_13 (Nat.le_of_ble_eq_true rfl) rfl
theorem q0_751 : zl I 0 751 [v0, v1, v2, v3, .int x4, v5, v6] st u P = zl I 0 753 [v0, v1, v2, v3, .int x4, v5, v6] (.int x4 :: st) u P := zl_Il h0_751 rfl
theorem h0_753 : xcd2 I 0 753 = oI 1 754 := ch_13 (Nat.le_of_ble_eq_true rfl) rfl
theorem q0_753 : zl I 0 753 [v0, v1, v2, v3, v4, v5, v6] st u P = zl I 0 754 [v0, v1, v2, v3, v4, v5, v6] (.int 1 :: st) u P := zl_I h0_753
theorem h0_754 : xcd2 I 0 754 = oB (fun x y => x + y) 755 := ch_13 (Nat.le_of_ble_eq_true rfl) rfl
theorem q0_754 : zl I 0 754 [v0, v1, v2, v3, v4, v5, v6] (.int y1 :: .int y2 :: st) u P = zl I 0 755 [v0, v1, v2, v3, v4, v5, v6] (.int (y2 + y1) :: st) u P := zl_B h0_754
theorem h0_755 : xcd2 I 0 755 = oScr 756 := ch_13 (Nat.le_of_ble_eq_true rfl) rfl
theorem q0_755 : zl I 0 755 [v0, v1, v2, v3, v4, v5, v6] (.int y1 :: .ref b1 :: st) u P = ((b1 = 2000000 ∧ xinb y1 (xN u 2000000)) ∧ zl I 0 756 [v0, v1, v2, v3, v4, v5, v6] (.int (xI u 2000000 (xix y1)) :: st) u P) := zl_Scr h0_755
theorem h0_756 : xcd2 I 0 756 = oAl 0 757 := ch_13 (Nat.le_of_ble_eq_true rfl) rfl
theorem q0_756 : zl I 0 756 [.ref a0, v1, v2, v3, v4, v5, v6] st u P = zl I 0 757 [.ref a0, v1, v2, v3, v4, v5, v6] (.ref a0 :: st) u P := zl_Al h0_756 rfl
theorem h0_757 : xcd2 I 0 757 = oIl 4 759 := ch_13 (Nat.le_of_ble_eq_true rfl) rfl
theorem q0_757 : zl I 0 757 [v0, v1, v2, v3, .int x4, v5, v6] st u P = zl I 0 759 [v0, v1, v2, v3, .int x4, v5, v6] (.int x4 :: st) u P := zl_Il h0_757 rfl
theorem h0_759 : xcd2 I 0 759 = oI 2 760 := ch_13 (Nat.le_of_ble_eq_true rfl) rfl
theorem q0_759 : zl I 0 759 [v0, v1, v2, v3, v4, v5, v6] st u P = zl I 0 760 [v0, v1, v2, v3, v4, v5, v6] (.int 2 :: st) u P := zl_I h0_759
theorem h0_760 : xcd2 I 0 760 = oB (fun x y => x + y) 761 := ch_13 (Nat.le_of_ble_eq_true rfl) rfl
theorem q0_760 : zl I 0 760 [v0, v1, v2, v3, v4, v5, v6] (.int y1 :: .int y2 :: st) u P = zl I 0 761 [v0, v1, v2, v3, v4, v5, v6] (.int (y2 + y1) :: st) u P := zl_B h0_760
theorem h0_761 : xcd2 I 0 761 = oScr 762 := ch_13 (Nat.le_of_ble_eq_true rfl) rfl
theorem q0_761 : zl I 0 761 [v0, v1, v2, v3, v4, v5, v6] (.int y1 :: .ref b1 :: st) u P = ((b1 = 2000000 ∧ xinb y1 (xN u 2000000)) ∧ zl I 0 762 [v0, v1, v2, v3, v4, v5, v6] (.int (xI u 2000000 (xix y1)) :: st) u P) := zl_Scr h0_761
theorem h0_762 : xcd2 I 0 762 = oAl 0 763 := ch_13 (Nat.le_of_ble_eq_true rfl) rfl
theorem q0_762 : zl I 0 762 [.ref a0, v1, v2, v3, v4, v5, v6] st u P = zl I 0 763 [.ref a0, v1, v2, v3, v4, v5, v6] (.ref a0 :: st) u P := zl_Al h0_762 rfl
theorem h0_763 : xcd2 I 0 763 = oIl 4 765 := ch_13 (Nat.le_of_ble_eq_true rfl) rfl
theorem q0_763 : zl I 0 763 [v0, v1, v2, v3, .int x4, v5, v6] st u P = zl I 0 765 [v0, v1, v2, v3, .int x4, v5, v6] (.int x4 :: st) u P := zl_Il h0_763 rfl
theorem h0_765 : xcd2 I 0 765 = oI 3 766 := ch_13 (Nat.le_of_ble_eq_true rfl) rfl
theorem q0_765 : zl I 0 765 [v0, v1, v2, v3, v4, v5, v6] st u P = zl I 0 766 [v0, v1, v2, v3, v4, v5, v6] (.int 3 :: st) u P := zl_I h0_765
theorem h0_766 : xcd2 I 0 766 = oB (fun x y => x + y) 767 := ch_13 (Nat.le_of_ble_eq_true rfl) rfl
theorem q0_766 : zl I 0 766 [v0, v1, v2, v3, v4, v5, v6] (.int y1 :: .int y2 :: st) u P = zl I 0 767 [v0, v1, v2, v3, v4, v5, v6] (.int (y2 + y1) :: st) u P := zl_B h0_766
theorem h0_767 : xcd2 I 0 767 = oScr 768 := ch_13 (Nat.le_of_ble_eq_true rfl) rfl
theorem q0_767 : zl I 0 767 [v0, v1, v2, v3, v4, v5, v6] (.int y1 :: .ref b1 :: st) u P = ((b1 = 2000000 ∧ xinb y1 (xN u 2000000)) ∧ zl I 0 768 [v0, v1, v2, v3, v4, v5, v6] (.int (xI u 2000000 (xix y1)) :: st) u P) := zl_Scr h0_767
theorem h0_768 : xcd2 I 0 768 = oAl 0 769 := ch_13 (Nat.le_of_ble_eq_true rfl) rfl
theorem q0_768 : zl I 0 768 [.ref a0, v1, v2, v3, v4, v5, v6] st u P = zl I 0 769 [.ref a0, v1, v2, v3, v4, v5, v6] (.ref a0 :: st) u P := zl_Al h0_768 rfl
theorem h0_769 : xcd2 I 0 769 = oIl 4 771 := ch_13 (Nat.le_of_ble_eq_true rfl) rfl
theorem q0_769 : zl I 0 769 [v0, v1, v2, v3, .int x4, v5, v6] st u P = zl I 0 771 [v0, v1, v2, v3, .int x4, v5, v6] (.int x4 :: st) u P := zl_Il h0_769 rfl
theorem h0_771 : xcd2 I 0 771 = oI 4 772 := ch_13 (Nat.le_of_ble_eq_true rfl) rfl
theorem q0_771 : zl I 0 771 [v0, v1, v2, v3, v4, v5, v6] st u P = zl I 0 772 [v0, v1, v2, v3, v4, v5, v6] (.int 4 :: st) u P := zl_I h0_771
theorem h0_772 : xcd2 I 0 772 = oB (fun x y => x + y) 773 := ch_13 (Nat.le_of_ble_eq_true rfl) rfl
theorem q0_772 : zl I 0 772 [v0, v1, v2, v3, v4, v5, v6] (.int y1 :: .int y2 :: st) u P = zl I 0 773 [v0, v1, v2, v3, v4, v5, v6] (.int (y2 + y1) :: st) u P := zl_B h0_772
theorem h0_773 : xcd2 I 0 773 = oScr 774 := ch_13 (Nat.le_of_ble_eq_true rfl) rfl
theorem q0_773 : zl I 0 773 [v0, v1, v2, v3, v4, v5, v6] (.int y1 :: .ref b1 :: st) u P = ((b1 = 2000000 ∧ xinb y1 (xN u 2000000)) ∧ zl I 0 774 [v0, v1, v2, v3, v4, v5, v6] (.int (xI u 2000000 (xix y1)) :: st) u P) := zl_Scr h0_773
theorem h0_774 : xcd2 I 0 774 = oCalV 10 120 4 777 := ch_13 (Nat.le_of_ble_eq_true rfl) rfl
theorem q0_774 : zl I 0 774 [v0, v1, v2, v3, v4, v5, v6] (.int y4 :: .int y3 :: .int y2 :: .int y1 :: .ref b8 :: st) u P = ((xIs u b8 10 ∧ xcat st ≤ 8) ∧ zl I 120 0 [.ref b8, .int y1, .int y2, .int y3, .int y4] [] u (fun r u2 => zl I 0 777 [v0, v1, v2, v3, v4, v5, v6] (r.toList ++ st) u2 P)) := zl_CV h0_774 rfl rfl rfl ⟨Nat.le_of_ble_eq_true rfl, Nat.succ_ne_zero _, by decide⟩ rfl
theorem h0_777 : xcd2 I 0 777 = oAl 2 778 := ch_13 (Nat.le_of_ble_eq_true rfl) rfl
theorem q0_777 : zl I 0 777 [v0, v1, .ref a2, v3, v4, v5, v6] st u P = zl I 0 778 [v0, v1, .ref a2, v3, v4, v5, v6] (.ref a2 :: st) u P := zl_Al h0_777 rfl
theorem h0_778 : xcd2 I 0 778 = oAl 0 779 := ch_13 (Nat.le_of_ble_eq_true rfl) rfl
theorem q0_778 : zl I 0 778 [.ref a0, v1, v2, v3, v4, v5, v6] st u P = zl I 0 779 [.ref a0, v1, v2, v3, v4, v5, v6] (.ref a0 :: st) u P := zl_Al h0_778 rfl
theorem h0_779 : xcd2 I 0 779 = oIl 4 781 := ch_14 (Nat.le_of_ble_eq_true rfl) rfl
theorem q0_779 : zl I 0 779 [v0, v1, v2, v3, .int x4, v5, v6] st u P = zl I 0 781 [v0, v1, v2, v3, .int x4, v5, v6] (.int x4 :: st) u P := zl_Il h0_779 rfl
theorem h0_781 : xcd2 I 0 781 = oI 1 782 := ch_14 (Nat.le_of_ble_eq_true rfl) rfl
theorem q0_781 : zl I 0 781 [v0, v1, v2, v3, v4, v5, v6] st u P = zl I 0 782 [v0, v1, v2, v3, v4, v5, v6] (.int 1 :: st) u P := zl_I h0_781
theorem h0_782 : xcd2 I 0 782 = oB (fun x y => x + y) 783 := ch_14 (Nat.le_of_ble_eq_true rfl) rfl
theorem q0_782 : zl I 0 782 [v0, v1, v2, v3, v4, v5, v6] (.int y1 :: .int y2 :: st) u P = zl I 0 783 [v0, v1, v2, v3, v4, v5, v6] (.int (y2 + y1) :: st) u P := zl_B h0_782
theorem h0_783 : xcd2 I 0 783 = oScr 784 := ch_14 (Nat.le_of_ble_eq_true rfl) rfl
theorem q0_783 : zl I 0 783 [v0, v1, v2, v3, v4, v5, v6] (.int y1 :: .ref b1 :: st) u P = ((b1 = 2000000 ∧ xinb y1 (xN u 2000000)) ∧ zl I 0 784 [v0, v1, v2, v3, v4, v5, v6] (.int (xI u 2000000 (xix y1)) :: st) u P) := zl_Scr h0_783
theorem h0_784 : xcd2 I 0 784 = oAl 0 785 := ch_14 (Nat.le_of_ble_eq_true rfl) rfl
theorem q0_784 : zl I 0 784 [.ref a0, v1, v2, v3, v4, v5, v6] st u P = zl I 0 785 [.ref a0, v1, v2, v3, v4, v5, v6] (.ref a0 :: st) u P := zl_Al h0_784 rfl
theorem h0_785 : xcd2 I 0 785 = oIl 4 787 := ch_14 (Nat.le_of_ble_eq_true rfl) rfl
theorem q0_785 : zl I 0 785 [v0, v1, v2, v3, .int x4, v5, v6] st u P = zl I 0 787 [v0, v1, v2, v3, .int x4, v5, v6] (.int x4 :: st) u P := zl_Il h0_785 rfl
theorem h0_787 : xcd2 I 0 787 = oI 2 788 := ch_14 (Nat.le_of_ble_eq_true rfl) rfl
theorem q0_787 : zl I 0 787 [v0, v1, v2, v3, v4, v5, v6] st u P = zl I 0 788 [v0, v1, v2, v3, v4, v5, v6] (.int 2 :: st) u P := zl_I h0_787
theorem h0_788 : xcd2 I 0 788 = oB (fun x y => x + y) 789 := ch_14 (Nat.le_of_ble_eq_true rfl) rfl
theorem q0_788 : zl I 0 788 [v0, v1, v2, v3, v4, v5, v6] (.int y1 :: .int y2 :: st) u P = zl I 0 789 [v0, v1, v2, v3, v4, v5, v6] (.int (y2 + y1) :: st) u P := zl_B h0_788
theorem h0_789 : xcd2 I 0 789 = oScr 790 := ch_14 (Nat.le_of_ble_eq_true rfl) rfl
theorem q0_789 : zl I 0 789 [v0, v1, v2, v3, v4, v5, v6] (.int y1 :: .ref b1 :: st) u P = ((b1 = 2000000 ∧ xinb y1 (xN u 2000000)) ∧ zl I 0 790 [v0, v1, v2, v3, v4, v5, v6] (.int (xI u 2000000 (xix y1)) :: st) u P) := zl_Scr h0_789
theorem h0_790 : xcd2 I 0 790 = oAl 0 791 := ch_14 (Nat.le_of_ble_eq_true rfl) rfl
theorem q0_790 : zl I 0 790 [.ref a0, v1, v2, v3, v4, v5, v6] st u P = zl I 0 791 [.ref a0, v1, v2, v3, v4, v5, v6] (.ref a0 :: st) u P := zl_Al h0_790 rfl
theorem h0_791 : xcd2 I 0 791 = oIl 4 793 := ch_14 (Nat.le_of_ble_eq_true rfl) rfl
theorem q0_791 : zl I 0 791 [v0, v1, v2, v3, .int x4, v5, v6] st u P = zl I 0 793 [v0, v1, v2, v3, .int x4, v5, v6] (.int x4 :: st) u P := zl_Il h0_791 rfl
theorem h0_793 : xcd2 I 0 793 = oI 3 794 := ch_14 (Nat.le_of_ble_eq_true rfl) rfl
theorem q0_793 : zl I 0 793 [v0, v1, v2, v3, v4, v5, v6] st u P = zl I 0 794 [v0, v1, v2, v3, v4, v5, v6] (.int 3 :: st) u P := zl_I h0_793
theorem h0_794 : xcd2 I 0 794 = oB (fun x y => x + y) 795 := ch_14 (Nat.le_of_ble_eq_true rfl) rfl
theorem q0_794 : zl I 0 794 [v0, v1, v2, v3, v4, v5, v6] (.int y1 :: .int y2 :: st) u P = zl I 0 795 [v0, v1, v2, v3, v4, v5, v6] (.int (y2 + y1) :: st) u P := zl_B h0_794
theorem h0_795 : xcd2 I 0 795 = oScr 796 := ch_14 (Nat.le_of_ble_eq_true rfl) rfl
theorem q0_795 : zl I 0 795 [v0, v1, v2, v3, v4, v5, v6] (.int y1 :: .ref b1 :: st) u P = ((b1 = 2000000 ∧ xinb y1 (xN u 2000000)) ∧ zl I 0 796 [v0, v1, v2, v3, v4, v5, v6] (.int (xI u 2000000 (xix y1)) :: st) u P) := zl_Scr h0_795
theorem h0_796 : xcd2 I 0 796 = oAl 0 797 := ch_14 (Nat.le_of_ble_eq_true rfl) rfl
theorem q0_796 : zl I 0 796 [.ref a0, v1, v2, v3, v4, v5, v6] st u P = zl I 0 797 [.ref a0, v1, v2, v3, v4, v5, v6] (.ref a0 :: st) u P := zl_Al h0_796 rfl
theorem h0_797 : xcd2 I 0 797 = oIl 4 799 := ch_14 (Nat.le_of_ble_eq_true rfl) rfl
theorem q0_797 : zl I 0 797 [v0, v1, v2, v3, .int x4, v5, v6] st u P = zl I 0 799 [v0, v1, v2, v3, .int x4, v5, v6] (.int x4 :: st) u P := zl_Il h0_797 rfl
theorem h0_799 : xcd2 I 0 799 = oI 4 800 := ch_14 (Nat.le_of_ble_eq_true rfl) rfl
theorem q0_799 : zl I 0 799 [v0, v1, v2, v3, v4, v5, v6] st u P = zl I 0 800 [v0, v1, v2, v3, v4, v5, v6] (.int 4 :: st) u P := zl_I h0_799
theorem h0_800 : xcd2 I 0 800 = oB (fun x y => x + y) 801 := ch_14 (Nat.le_of_ble_eq_true rfl) rfl
theorem q0_800 : zl I 0 800 [v0, v1, v2, v3, v4, v5, v6] (.int y1 :: .int y2 :: st) u P = zl I 0 801 [v0, v1, v2, v3, v4, v5, v6] (.int (y2 + y1) :: st) u P := zl_B h0_800
theorem h0_801 : xcd2 I 0 801 = oScr 802 := ch_14 (Nat.le_of_ble_eq_true rfl) rfl
theorem q0_801 : zl I 0 801 [v0, v1, v2, v3, v4, v5, v6] (.int y1 :: .ref b1 :: st) u P = ((b1 = 2000000 ∧ xinb y1 (xN u 2000000)) ∧ zl I 0 802 [v0, v1, v2, v3, v4, v5, v6] (.int (xI u 2000000 (xix y1)) :: st) u P) := zl_Scr h0_801
theorem h0_802 : xcd2 I 0 802 = oCalV 11 237 4 805 := ch_14 (Nat.le_of_ble_eq_true rfl) rfl
theorem q0_802 : zl I 0 802 [v0, v1, v2, v3, v4, v5, v6] (.int y4 :: .int y3 :: .int y2 :: .int y1 :: .ref b8 :: st) u P = ((xIs u b8 11 ∧ xcat st ≤ 8) ∧ zl I 237 0 [.ref b8, .int y1, .int y2, .int y3, .int y4, .null] [] u (fun r u2 => zl I 0 805 [v0, v1, v2, v3, v4, v5, v6] (r.toList ++ st) u2 P)) := zl_CV h0_802 rfl rfl rfl ⟨Nat.le_of_ble_eq_true rfl, Nat.succ_ne_zero _, by decide⟩ rfl
theorem h0_805 : xcd2 I 0 805 = oCmp (fun x y => decide (x = y)) 2238 808 := ch_14 (Nat.le_of_ble_eq_true rfl) rfl
theorem q0_805 : zl I 0 805 [v0, v1, v2, v3, v4, v5, v6] (.int y1 :: .int y2 :: st) u P = (if y2 = y1 then zl I 0 2238 [v0, v1, v2, v3, v4, v5, v6] st u P else zl I 0 808 [v0, v1, v2, v3, v4, v5, v6] st u P) := zl_Cmp h0_805
theorem h0_808 : xcd2 I 0 808 = oI 0 809 := ch_14 (Nat.le_of_ble_eq_true rfl) rfl
theorem q0_808 : zl I 0 808 [v0, v1, v2, v3, v4, v5, v6] st u P = zl I 0 809 [v0, v1, v2, v3, v4, v5, v6] (.int 0 :: st) u P := zl_I h0_808
theorem h0_809 : xcd2 I 0 809 = oRz 0 := ch_14 (Nat.le_of_ble_eq_true rfl) rfl
theorem q0_809 : zl I 0 809 [v0, v1, v2, v3, v4, v5, v6] [.int y1] u P = ((y1 = 0 ∨ y1 = 1) ∧ P (some (.int y1)) u) := zl_Rz h0_809
theorem h0_810 : xcd2 I 0 810 = oAl 1 811 := ch_14 (Nat.le_of_ble_eq_true rfl) rfl
theorem q0_810 : zl I 0 810 [v0, .ref a1, v2, v3, v4, v5, v6] st u P = zl I 0 811 [v0, .ref a1, v2, v3, v4, v5, v6] (.ref a1 :: st) u P := zl_Al h0_810 rfl
theorem h0_811 : xcd2 I 0 811 = oAl 0 812 := ch_14 (Nat.le_of_ble_eq_true rfl) rfl
theorem q0_811 : zl I 0 811 [.ref a0, v1, v2, v3, v4, v5, v6] st u P = zl I 0 812 [.ref a0, v1, v2, v3, v4, v5, v6] (.ref a0 :: st) u P := zl_Al h0_811 rfl
theorem h0_812 : xcd2 I 0 812 = oIl 4 814 := ch_14 (Nat.le_of_ble_eq_true rfl) rfl
theorem q0_812 : zl I 0 812 [v0, v1, v2, v3, .int x4, v5, v6] st u P = zl I 0 814 [v0, v1, v2, v3, .int x4, v5, v6] (.int x4 :: st) u P := zl_Il h0_812 rfl
theorem h0_814 : xcd2 I 0 814 = oI 1 815 := ch_14 (Nat.le_of_ble_eq_true rfl) rfl
theorem q0_814 : zl I 0 814 [v0, v1, v2, v3, v4, v5, v6] st u P = zl I 0 815 [v0, v1, v2, v3, v4, v5, v6] (.int 1 :: st) u P := zl_I h0_814
theorem h0_815 : xcd2 I 0 815 = oB (fun x y => x + y) 816 := ch_14 (Nat.le_of_ble_eq_true rfl) rfl
theorem q0_815 : zl I 0 815 [v0, v1, v2, v3, v4, v5, v6] (.int y1 :: .int y2 :: st) u P = zl I 0 816 [v0, v1, v2, v3, v4, v5, v6] (.int (y2 + y1) :: st) u P := zl_B h0_815
theorem h0_816 : xcd2 I 0 816 = oScr 817 := ch_14 (Nat.le_of_ble_eq_true rfl) rfl
theorem q0_816 : zl I 0 816 [v0, v1, v2, v3, v4, v5, v6] (.int y1 :: .ref b1 :: st) u P = ((b1 = 2000000 ∧ xinb y1 (xN u 2000000)) ∧ zl I 0 817 [v0, v1, v2, v3, v4, v5, v6] (.int (xI u 2000000 (xix y1)) :: st) u P) := zl_Scr h0_816
theorem h0_817 : xcd2 I 0 817 = oAl 0 818 := ch_14 (Nat.le_of_ble_eq_true rfl) rfl
theorem q0_817 : zl I 0 817 [.ref a0, v1, v2, v3, v4, v5, v6] st u P = zl I 0 818 [.ref a0, v1, v2, v3, v4, v5, v6] (.ref a0 :: st) u P := zl_Al h0_817 rfl
theorem h0_818 : xcd2 I 0 818 = oIl 4 820 := ch_15 (Nat.le_of_ble_eq_true rfl) rfl
theorem q0_818 : zl I 0 818 [v0, v1, v2, v3, .int x4, v5, v6] st u P = zl I 0 820 [v0, v1, v2, v3, .int x4, v5, v6] (.int x4 :: st) u P := zl_Il h0_818 rfl
theorem h0_820 : xcd2 I 0 820 = oI 2 821 := ch_15 (Nat.le_of_ble_eq_true rfl) rfl
theorem q0_820 : zl I 0 820 [v0, v1, v2, v3, v4, v5, v6] st u P = zl I 0 821 [v0, v1, v2, v3, v4, v5, v6] (.int 2 :: st) u P := zl_I h0_820
theorem h0_821 : xcd2 I 0 821 = oB (fun x y => x + y) 822 := ch_15 (Nat.le_of_ble_eq_true rfl) rfl
theorem q0_821 : zl I 0 821 [v0, v1, v2, v3, v4, v5, v6] (.int y1 :: .int y2 :: st) u P = zl I 0 822 [v0, v1, v2, v3, v4, v5, v6] (.int (y2 + y1) :: st) u P := zl_B h0_821
theorem h0_822 : xcd2 I 0 822 = oScr 823 := ch_15 (Nat.le_of_ble_eq_true rfl) rfl
theorem q0_822 : zl I 0 822 [v0, v1, v2, v3, v4, v5, v6] (.int y1 :: .ref b1 :: st) u P = ((b1 = 2000000 ∧ xinb y1 (xN u 2000000)) ∧ zl I 0 823 [v0, v1, v2, v3, v4, v5, v6] (.int (xI u 2000000 (xix y1)) :: st) u P) := zl_Scr h0_822
theorem h0_823 : xcd2 I 0 823 = oAl 0 824 := ch_15 (Nat.le_of_ble_eq_true rfl) rfl
theorem q0_823 : zl I 0 823 [.ref a0, v1, v2, v3, v4, v5, v6] st u P = zl I 0 824 [.ref a0, v1, v2, v3, v4, v5, v6] (.ref a0 :: st) u P := zl_Al h0_823 rfl
theorem h0_824 : xcd2 I 0 824 = oIl 4 826 := ch_15 (Nat.le_of_ble_eq_true rfl) rfl
theorem q0_824 : zl I 0 824 [v0, v1, v2, v3, .int x4, v5, v6] st u P = zl I 0 826 [v0, v1, v2, v3, .int x4, v5, v6] (.int x4 :: st) u P := zl_Il h0_824 rfl
theorem h0_826 : xcd2 I 0 826 = oI 3 827 := ch_15 (Nat.le_of_ble_eq_true rfl) rfl
theorem q0_826 : zl I 0 826 [v0, v1, v2, v3, v4, v5, v6] st u P = zl I 0 827 [v0, v1, v2, v3, v4, v5, v6] (.int 3 :: st) u P := zl_I h0_826
theorem h0_827 : xcd2 I 0 827 = oB (fun x y => x + y) 828 := ch_15 (Nat.le_of_ble_eq_true rfl) rfl
theorem q0_827 : zl I 0 827 [v0, v1, v2, v3, v4, v5, v6] (.int y1 :: .int y2 :: st) u P = zl I 0 828 [v0, v1, v2, v3, v4, v5, v6] (.int (y2 + y1) :: st) u P := zl_B h0_827
theorem h0_828 : xcd2 I 0 828 = oScr 829 := ch_15 (Nat.le_of_ble_eq_true rfl) rfl
theorem q0_828 : zl I 0 828 [v0, v1, v2, v3, v4, v5, v6] (.int y1 :: .ref b1 :: st) u P = ((b1 = 2000000 ∧ xinb y1 (xN u 2000000)) ∧ zl I 0 829 [v0, v1, v2, v3, v4, v5, v6] (.int (xI u 2000000 (xix y1)) :: st) u P) := zl_Scr h0_828
theorem h0_829 : xcd2 I 0 829 = oCalV 10 121 3 832 := ch_15 (Nat.le_of_ble_eq_true rfl) rfl
theorem q0_829 : zl I 0 829 [v0, v1, v2, v3, v4, v5, v6] (.int y3 :: .int y2 :: .int y1 :: .ref b8 :: st) u P = ((xIs u b8 10 ∧ xcat st ≤ 8) ∧ zl I 121 0 [.ref b8, .int y1, .int y2, .int y3] [] u (fun r u2 => zl I 0 832 [v0, v1, v2, v3, v4, v5, v6] (r.toList ++ st) u2 P)) := zl_CV h0_829 rfl rfl rfl ⟨Nat.le_of_ble_eq_true rfl, Nat.succ_ne_zero _, by decide⟩ rfl
theorem h0_832 : xcd2 I 0 832 = oAl 2 833 := ch_15 (Nat.le_of_ble_eq_true rfl) rfl
theorem q0_832 : zl I 0 832 [v0, v1, .ref a2, v3, v4, v5, v6] st u P = zl I 0 833 [v0, v1, .ref a2, v3, v4, v5, v6] (.ref a2 :: st) u P := zl_Al h0_832 rfl
theorem h0_833 : xcd2 I 0 833 = oAl 0 834 := ch_15 (Nat.le_of_ble_eq_true rfl) rfl
theorem q0_833 : zl I 0 833 [.ref a0, v1, v2, v3, v4, v5, v6] st u P = zl I 0 834 [.ref a0, v1, v2, v3, v4, v5, v6] (.ref a0 :: st) u P := zl_Al h0_833 rfl
theorem h0_834 : xcd2 I 0 834 = oIl 4 836 := ch_15 (Nat.le_of_ble_eq_true rfl) rfl
theorem q0_834 : zl I 0 834 [v0, v1, v2, v3, .int x4, v5, v6] st u P = zl I 0 836 [v0, v1, v2, v3, .int x4, v5, v6] (.int x4 :: st) u P := zl_Il h0_834 rfl
theorem h0_836 : xcd2 I 0 836 = oI 1 837 := ch_15 (Nat.le_of_ble_eq_true rfl) rfl
theorem q0_836 : zl I 0 836 [v0, v1, v2, v3, v4, v5, v6] st u P = zl I 0 837 [v0, v1, v2, v3, v4, v5, v6] (.int 1 :: st) u P := zl_I h0_836
theorem h0_837 : xcd2 I 0 837 = oB (fun x y => x + y) 838 := ch_15 (Nat.le_of_ble_eq_true rfl) rfl
theorem q0_837 : zl I 0 837 [v0, v1, v2, v3, v4, v5, v6] (.int y1 :: .int y2 :: st) u P = zl I 0 838 [v0, v1, v2, v3, v4, v5, v6] (.int (y2 + y1) :: st) u P := zl_B h0_837
theorem h0_838 : xcd2 I 0 838 = oScr 839 := ch_15 (Nat.le_of_ble_eq_true rfl) rfl
theorem q0_838 : zl I 0 838 [v0, v1, v2, v3, v4, v5, v6] (.int y1 :: .ref b1 :: st) u P = ((b1 = 2000000 ∧ xinb y1 (xN u 2000000)) ∧ zl I 0 839 [v0, v1, v2, v3, v4, v5, v6] (.int (xI u 2000000 (xix y1)) :: st) u P) := zl_Scr h0_838
theorem h0_839 : xcd2 I 0 839 = oAl 0 840 := ch_15 (Nat.le_of_ble_eq_true rfl) rfl
theorem q0_839 : zl I 0 839 [.ref a0, v1, v2, v3, v4, v5, v6] st u P = zl I 0 840 [.ref a0, v1, v2, v3, v4, v5, v6] (.ref a0 :: st) u P := zl_Al h0_839 rfl
theorem h0_840 : xcd2 I 0 840 = oIl 4 842 := ch_15 (Nat.le_of_ble_eq_true rfl) rfl
theorem q0_840 : zl I 0 840 [v0, v1, v2, v3, .int x4, v5, v6] st u P = zl I 0 842 [v0, v1, v2, v3, .int x4, v5, v6] (.int x4 :: st) u P := zl_Il h0_840 rfl
theorem h0_842 : xcd2 I 0 842 = oI 2 843 := ch_15 (Nat.le_of_ble_eq_true rfl) rfl
theorem q0_842 : zl I 0 842 [v0, v1, v2, v3, v4, v5, v6] st u P = zl I 0 843 [v0, v1, v2, v3, v4, v5, v6] (.int 2 :: st) u P := zl_I h0_842
theorem h0_843 : xcd2 I 0 843 = oB (fun x y => x + y) 844 := ch_15 (Nat.le_of_ble_eq_true rfl) rfl
theorem q0_843 : zl I 0 843 [v0, v1, v2, v3, v4, v5, v6] (.int y1 :: .int y2 :: st) u P = zl I 0 844 [v0, v1, v2, v3, v4, v5, v6] (.int (y2 + y1) :: st) u P := zl_B h0_843
theorem h0_844 : xcd2 I 0 844 = oScr 845 := ch_15 (Nat.le_of_ble_eq_true rfl) rfl
theorem q0_844 : zl I 0 844 [v0, v1, v2, v3, v4, v5, v6] (.int y1 :: .ref b1 :: st) u P = ((b1 = 2000000 ∧ xinb y1 (xN u 2000000)) ∧ zl I 0 845 [v0, v1, v2, v3, v4, v5, v6] (.int (xI u 2000000 (xix y1)) :: st) u P) := zl_Scr h0_844
theorem h0_845 : xcd2 I 0 845 = oAl 0 846 := ch_15 (Nat.le_of_ble_eq_true rfl) rfl
theorem q0_845 : zl I 0 845 [.ref a0, v1, v2, v3, v4, v5, v6] st u P = zl I 0 846 [.ref a0, v1, v2, v3, v4, v5, v6] (.ref a0 :: st) u P := zl_Al h0_845 rfl
theorem h0_846 : xcd2 I 0 846 = oIl 4 848 := ch_15 (Nat.le_of_ble_eq_true rfl) rfl
theorem q0_846 : zl I 0 846 [v0, v1, v2, v3, .int x4, v5, v6] st u P = zl I 0 848 [v0, v1, v2, v3, .int x4, v5, v6] (.int x4 :: st) u P := zl_Il h0_846 rfl
theorem h0_848 : xcd2 I 0 848 = oI 3 849 := ch_15 (Nat.le_of_ble_eq_true rfl) rfl
theorem q0_848 : zl I 0 848 [v0, v1, v2, v3, v4, v5, v6] st u P = zl I 0 849 [v0, v1, v2, v3, v4, v5, v6] (.int 3 :: st) u P := zl_I h0_848
theorem h0_849 : xcd2 I 0 849 = oB (fun x y => x + y) 850 := ch_15 (Nat.le_of_ble_eq_true rfl) rfl
theorem q0_849 : zl I 0 849 [v0, v1, v2, v3, v4, v5, v6] (.int y1 :: .int y2 :: st) u P = zl I 0 850 [v0, v1, v2, v3, v4, v5, v6] (.int (y2 + y1) :: st) u P := zl_B h0_849
theorem h0_850 : xcd2 I 0 850 = oScr 851 := ch_15 (Nat.le_of_ble_eq_true rfl) rfl
theorem q0_850 : zl I 0 850 [v0, v1, v2, v3, v4, v5, v6] (.int y1 :: .ref b1 :: st) u P = ((b1 = 2000000 ∧ xinb y1 (xN u 2000000)) ∧ zl I 0 851 [v0, v1, v2, v3, v4, v5, v6] (.int (xI u 2000000 (xix y1)) :: st) u P) := zl_Scr h0_850
theorem h0_851 : xcd2 I 0 851 = oCalV 11 238 3 854 := ch_15 (Nat.le_of_ble_eq_true rfl) rfl
theorem q0_851 : zl I 0 851 [v0, v1, v2, v3, v4, v5, v6] (.int y3 :: .int y2 :: .int y1 :: .ref b8 :: st) u P = ((xIs u b8 11 ∧ xcat st ≤ 8) ∧ zl I 238 0 [.ref b8, .int y1, .int y2, .int y3, .null] [] u (fun r u2 => zl I 0 854 [v0, v1, v2, v3, v4, v5, v6] (r.toList ++ st) u2 P)) := zl_CV h0_851 rfl rfl rfl ⟨Nat.le_of_ble_eq_true rfl, Nat.succ_ne_zero _, by decide⟩ rfl
theorem h0_854 : xcd2 I 0 854 = oCmp (fun x y => decide (x = y)) 2238 857 := ch_15 (Nat.le_of_ble_eq_true rfl) rfl
theorem q0_854 : zl I 0 854 [v0, v1, v2, v3, v4, v5, v6] (.int y1 :: .int y2 :: st) u P = (if y2 = y1 then zl I 0 2238 [v0, v1, v2, v3, v4, v5, v6] st u P else zl I 0 857 [v0, v1, v2, v3, v4, v5, v6] st u P) := zl_Cmp h0_854
theorem h0_857 : xcd2 I 0 857 = oI 0 858 := ch_15 (Nat.le_of_ble_eq_true rfl) rfl
theorem q0_857 : zl I 0 857 [v0, v1, v2, v3, v4, v5, v6] st u P = zl I 0 858 [v0, v1, v2, v3, v4, v5, v6] (.int 0 :: st) u P := zl_I h0_857
theorem h0_858 : xcd2 I 0 858 = oRz 0 := ch_15 (Nat.le_of_ble_eq_true rfl) rfl
theorem q0_858 : zl I 0 858 [v0, v1, v2, v3, v4, v5, v6] [.int y1] u P = ((y1 = 0 ∨ y1 = 1) ∧ P (some (.int y1)) u) := zl_Rz h0_858
theorem h0_859 : xcd2 I 0 859 = oAl 1 860 := ch_16 (Nat.le_of_ble_eq_true rfl) rfl
theorem q0_859 : zl I 0 859 [v0, .ref a1, v2, v3, v4, v5, v6] st u P = zl I 0 860 [v0, .ref a1, v2, v3, v4, v5, v6] (.ref a1 :: st) u P := zl_Al h0_859 rfl
theorem h0_860 : xcd2 I 0 860 = oAl 0 861 := ch_16 (Nat.le_of_ble_eq_true rfl) rfl
theorem q0_860 : zl I 0 860 [.ref a0, v1, v2, v3, v4, v5, v6] st u P = zl I 0 861 [.ref a0, v1, v2, v3, v4, v5, v6] (.ref a0 :: st) u P := zl_Al h0_860 rfl
theorem h0_861 : xcd2 I 0 861 = oIl 4 863 := ch_16 (Nat.le_of_ble_eq_true rfl) rfl
theorem q0_861 : zl I 0 861 [v0, v1, v2, v3, .int x4, v5, v6] st u P = zl I 0 863 [v0, v1, v2, v3, .int x4, v5, v6] (.int x4 :: st) u P := zl_Il h0_861 rfl
theorem h0_863 : xcd2 I 0 863 = oI 1 864 := ch_16 (Nat.le_of_ble_eq_true rfl) rfl
theorem q0_863 : zl I 0 863 [v0, v1, v2, v3, v4, v5, v6] st u P = zl I 0 864 [v0, v1, v2, v3, v4, v5, v6] (.int 1 :: st) u P := zl_I h0_863
theorem h0_864 : xcd2 I 0 864 = oB (fun x y => x + y) 865 := ch_16 (Nat.le_of_ble_eq_true rfl) rfl
theorem q0_864 : zl I 0 864 [v0, v1, v2, v3, v4, v5, v6] (.int y1 :: .int y2 :: st) u P = zl I 0 865 [v0, v1, v2, v3, v4, v5, v6] (.int (y2 + y1) :: st) u P := zl_B h0_864
theorem h0_865 : xcd2 I 0 865 = oScr 866 := ch_16 (Nat.le_of_ble_eq_true rfl) rfl
theorem q0_865 : zl I 0 865 [v0, v1, v2, v3, v4, v5, v6] (.int y1 :: .ref b1 :: st) u P = ((b1 = 2000000 ∧ xinb y1 (xN u 2000000)) ∧ zl I 0 866 [v0, v1, v2, v3, v4, v5, v6] (.int (xI u 2000000 (xix y1)) :: st) u P) := zl_Scr h0_865
theorem h0_866 : xcd2 I 0 866 = oAl 0 867 := ch_16 (Nat.le_of_ble_eq_true rfl) rfl
theorem q0_866 : zl I 0 866 [.ref a0, v1, v2, v3, v4, v5, v6] st u P = zl I 0 867 [.ref a0, v1, v2, v3, v4, v5, v6] (.ref a0 :: st) u P := zl_Al h0_866 rfl
theorem h0_867 : xcd2 I 0 867 = oIl 4 869 := ch_16 (Nat.le_of_ble_eq_true rfl) rfl
theorem q0_867 : zl I 0 867 [v0, v1, v2, v3, .int x4, v5, v6] st u P = zl I 0 869 [v0, v1, v2, v3, .int x4, v5, v6] (.int x4 :: st) u P := zl_Il h0_867 rfl
theorem h0_869 : xcd2 I 0 869 = oI 2 870 := ch_16 (Nat.le_of_ble_eq_true rfl) rfl
theorem q0_869 : zl I 0 869 [v0, v1, v2, v3, v4, v5, v6] st u P = zl I 0 870 [v0, v1, v2, v3, v4, v5, v6] (.int 2 :: st) u P := zl_I h0_869
theorem h0_870 : xcd2 I 0 870 = oB (fun x y => x + y) 871 := ch_16 (Nat.le_of_ble_eq_true rfl) rfl
theorem q0_870 : zl I 0 870 [v0, v1, v2, v3, v4, v5, v6] (.int y1 :: .int y2 :: st) u P = zl I 0 871 [v0, v1, v2, v3, v4, v5, v6] (.int (y2 + y1) :: st) u P := zl_B h0_870
theorem h0_871 : xcd2 I 0 871 = oScr 872 := ch_16 (Nat.le_of_ble_eq_true rfl) rfl
theorem q0_871 : zl I 0 871 [v0, v1, v2, v3, v4, v5, v6] (.int y1 :: .ref b1 :: st) u P = ((b1 = 2000000 ∧ xinb y1 (xN u 2000000)) ∧ zl I 0 872 [v0, v1, v2, v3, v4, v5, v6] (.int (xI u 2000000 (xix y1)) :: st) u P) := zl_Scr h0_871
theorem h0_872 : xcd2 I 0 872 = oAl 0 873 := ch_16 (Nat.le_of_ble_eq_true rfl) rfl
theorem q0_872 : zl I 0 872 [.ref a0, v1, v2, v3, v4, v5, v6] st u P = zl I 0 873 [.ref a0, v1, v2, v3, v4, v5, v6] (.ref a0 :: st) u P := zl_Al h0_872 rfl
theorem h0_873 : xcd2 I 0 873 = oIl 4 875 := ch_16 (Nat.le_of_ble_eq_true rfl) rfl
theorem q0_873 : zl I 0 873 [v0, v1, v2, v3, .int x4, v5, v6] st u P = zl I 0 875 [v0, v1, v2, v3, .int x4, v5, v6] (.int x4 :: st) u P := zl_Il h0_873 rfl
theorem h0_875 : xcd2 I 0 875 = oI 3 876 := ch_16 (Nat.le_of_ble_eq_true rfl) rfl
theorem q0_875 : zl I 0 875 [v0, v1, v2, v3, v4, v5, v6] st u P = zl I 0 876 [v0, v1, v2, v3, v4, v5, v6] (.int 3 :: st) u P := zl_I h0_875
theorem h0_876 : xcd2 I 0 876 = oB (fun x y => x + y) 877 := ch_16 (Nat.le_of_ble_eq_true rfl) rfl
theorem q0_876 : zl I 0 876 [v0, v1, v2, v3, v4, v5, v6] (.int y1 :: .int y2 :: st) u P = zl I 0 877 [v0, v1, v2, v3, v4, v5, v6] (.int (y2 + y1) :: st) u P := zl_B h0_876
theorem h0_877 : xcd2 I 0 877 = oScr 878 := ch_16 (Nat.le_of_ble_eq_true rfl) rfl
theorem q0_877 : zl I 0 877 [v0, v1, v2, v3, v4, v5, v6] (.int y1 :: .ref b1 :: st) u P = ((b1 = 2000000 ∧ xinb y1 (xN u 2000000)) ∧ zl I 0 878 [v0, v1, v2, v3, v4, v5, v6] (.int (xI u 2000000 (xix y1)) :: st) u P) := zl_Scr h0_877
theorem h0_878 : xcd2 I 0 878 = oAl 0 879 := ch_16 (Nat.le_of_ble_eq_true rfl) rfl
theorem q0_878 : zl I 0 878 [.ref a0, v1, v2, v3, v4, v5, v6] st u P = zl I 0 879 [.ref a0, v1, v2, v3, v4, v5, v6] (.ref a0 :: st) u P := zl_Al h0_878 rfl
theorem h0_879 : xcd2 I 0 879 = oIl 4 881 := ch_16 (Nat.le_of_ble_eq_true rfl) rfl
theorem q0_879 : zl I 0 879 [v0, v1, v2, v3, .int x4, v5, v6] st u P = zl I 0 881 [v0, v1, v2, v3, .int x4, v5, v6] (.int x4 :: st) u P := zl_Il h0_879 rfl
theorem h0_881 : xcd2 I 0 881 = oI 4 882 := ch_16 (Nat.le_of_ble_eq_true rfl) rfl
theorem q0_881 : zl I 0 881 [v0, v1, v2, v3, v4, v5, v6] st u P = zl I 0 882 [v0, v1, v2, v3, v4, v5, v6] (.int 4 :: st) u P := zl_I h0_881
theorem h0_882 : xcd2 I 0 882 = oB (fun x y => x + y) 883 := ch_16 (Nat.le_of_ble_eq_true rfl) rfl
theorem q0_882 : zl I 0 882 [v0, v1, v2, v3, v4, v5, v6] (.int y1 :: .int y2 :: st) u P = zl I 0 883 [v0, v1, v2, v3, v4, v5, v6] (.int (y2 + y1) :: st) u P := zl_B h0_882
theorem h0_883 : xcd2 I 0 883 = oScr 884 := ch_16 (Nat.le_of_ble_eq_true rfl) rfl
theorem q0_883 : zl I 0 883 [v0, v1, v2, v3, v4, v5, v6] (.int y1 :: .ref b1 :: st) u P = ((b1 = 2000000 ∧ xinb y1 (xN u 2000000)) ∧ zl I 0 884 [v0, v1, v2, v3, v4, v5, v6] (.int (xI u 2000000 (xix y1)) :: st) u P) := zl_Scr h0_883
theorem h0_884 : xcd2 I 0 884 = oCalV 10 122 4 887 := ch_16 (Nat.le_of_ble_eq_true rfl) rfl
theorem q0_884 : zl I 0 884 [v0, v1, v2, v3, v4, v5, v6] (.int y4 :: .int y3 :: .int y2 :: .int y1 :: .ref b8 :: st) u P = ((xIs u b8 10 ∧ xcat st ≤ 8) ∧ zl I 122 0 [.ref b8, .int y1, .int y2, .int y3, .int y4, .null] [] u (fun r u2 => zl I 0 887 [v0, v1, v2, v3, v4, v5, v6] (r.toList ++ st) u2 P)) := zl_CV h0_884 rfl rfl rfl ⟨Nat.le_of_ble_eq_true rfl, Nat.succ_ne_zero _, by decide⟩ rfl
theorem h0_887 : xcd2 I 0 887 = oAl 2 888 := ch_16 (Nat.le_of_ble_eq_true rfl) rfl
theorem q0_887 : zl I 0 887 [v0, v1, .ref a2, v3, v4, v5, v6] st u P = zl I 0 888 [v0, v1, .ref a2, v3, v4, v5, v6] (.ref a2 :: st) u P := zl_Al h0_887 rfl
theorem h0_888 : xcd2 I 0 888 = oAl 0 889 := ch_16 (Nat.le_of_ble_eq_true rfl) rfl
theorem q0_888 : zl I 0 888 [.ref a0, v1, v2, v3, v4, v5, v6] st u P = zl I 0 889 [.ref a0, v1, v2, v3, v4, v5, v6] (.ref a0 :: st) u P := zl_Al h0_888 rfl
theorem h0_889 : xcd2 I 0 889 = oIl 4 891 := ch_16 (Nat.le_of_ble_eq_true rfl) rfl
theorem q0_889 : zl I 0 889 [v0, v1, v2, v3, .int x4, v5, v6] st u P = zl I 0 891 [v0, v1, v2, v3, .int x4, v5, v6] (.int x4 :: st) u P := zl_Il h0_889 rfl
theorem h0_891 : xcd2 I 0 891 = oI 1 892 := ch_16 (Nat.le_of_ble_eq_true rfl) rfl
theorem q0_891 : zl I 0 891 [v0, v1, v2, v3, v4, v5, v6] st u P = zl I 0 892 [v0, v1, v2, v3, v4, v5, v6] (.int 1 :: st) u P := zl_I h0_891
theorem h0_892 : xcd2 I 0 892 = oB (fun x y => x + y) 893 := ch_16 (Nat.le_of_ble_eq_true rfl) rfl
theorem q0_892 : zl I 0 892 [v0, v1, v2, v3, v4, v5, v6] (.int y1 :: .int y2 :: st) u P = zl I 0 893 [v0, v1, v2, v3, v4, v5, v6] (.int (y2 + y1) :: st) u P := zl_B h0_892
theorem h0_893 : xcd2 I 0 893 = oScr 894 := ch_16 (Nat.le_of_ble_eq_true rfl) rfl
theorem q0_893 : zl I 0 893 [v0, v1, v2, v3, v4, v5, v6] (.int y1 :: .ref b1 :: st) u P = ((b1 = 2000000 ∧ xinb y1 (xN u 2000000)) ∧ zl I 0 894 [v0, v1, v2, v3, v4, v5, v6] (.int (xI u 2000000 (xix y1)) :: st) u P) := zl_Scr h0_893
theorem h0_894 : xcd2 I 0 894 = oAl 0 895 := ch_16 (Nat.le_of_ble_eq_true rfl) rfl
theorem q0_894 : zl I 0 894 [.ref a0, v1, v2, v3, v4, v5, v6] st u P = zl I 0 895 [.ref a0, v1, v2, v3, v4, v5, v6] (.ref a0 :: st) u P := zl_Al h0_894 rfl
theorem h0_895 : xcd2 I 0 895 = oIl 4 897 := ch_16 (Nat.le_of_ble_eq_true rfl) rfl
theorem q0_895 : zl I 0 895 [v0, v1, v2, v3, .int x4, v5, v6] st u P = zl I 0 897 [v0, v1, v2, v3, .int x4, v5, v6] (.int x4 :: st) u P := zl_Il h0_895 rfl
theorem h0_897 : xcd2 I 0 897 = oI 2 898 := ch_17 (Nat.le_of_ble_eq_true rfl) rfl
theorem q0_897 : zl I 0 897 [v0, v1, v2, v3, v4, v5, v6] st u P = zl I 0 898 [v0, v1, v2, v3, v4, v5, v6] (.int 2 :: st) u P := zl_I h0_897
theorem h0_898 : xcd2 I 0 898 = oB (fun x y => x + y) 899 := ch_17 (Nat.le_of_ble_eq_true rfl) rfl
theorem q0_898 : zl I 0 898 [v0, v1, v2, v3, v4, v5, v6] (.int y1 :: .int y2 :: st) u P = zl I 0 899 [v0, v1, v2, v3, v4, v5, v6] (.int (y2 + y1) :: st) u P := zl_B h0_898
theorem h0_899 : xcd2 I 0 899 = oScr 900 := ch_17 (Nat.le_of_ble_eq_true rfl) rfl
theorem q0_899 : zl I 0 899 [v0, v1, v2, v3, v4, v5, v6] (.int y1 :: .ref b1 :: st) u P = ((b1 = 2000000 ∧ xinb y1 (xN u 2000000)) ∧ zl I 0 900 [v0, v1, v2, v3, v4, v5, v6] (.int (xI u 2000000 (xix y1)) :: st) u P) := zl_Scr h0_899
theorem h0_900 : xcd2 I 0 900 = oAl 0 901 := ch_17 (Nat.le_of_ble_eq_true rfl) rfl
theorem q0_900 : zl I 0 900 [.ref a0, v1, v2, v3, v4, v5, v6] st u P = zl I 0 901 [.ref a0, v1, v2, v3, v4, v5, v6] (.ref a0 :: st) u P := zl_Al h0_900 rfl
theorem h0_901 : xcd2 I 0 901 = oIl 4 903 := ch_17 (Nat.le_of_ble_eq_true rfl) rfl
theorem q0_901 : zl I 0 901 [v0, v1, v2, v3, .int x4, v5, v6] st u P = zl I 0 903 [v0, v1, v2, v3, .int x4, v5, v6] (.int x4 :: st) u P := zl_Il h0_901 rfl
theorem h0_903 : xcd2 I 0 903 = oI 3 904 := ch_17 (Nat.le_of_ble_eq_true rfl) rfl
theorem q0_903 : zl I 0 903 [v0, v1, v2, v3, v4, v5, v6] st u P = zl I 0 904 [v0, v1, v2, v3, v4, v5, v6] (.int 3 :: st) u P := zl_I h0_903
theorem h0_904 : xcd2 I 0 904 = oB (fun x y => x + y) 905 := ch_17 (Nat.le_of_ble_eq_true rfl) rfl
theorem q0_904 : zl I 0 904 [v0, v1, v2, v3, v4, v5, v6] (.int y1 :: .int y2 :: st) u P = zl I 0 905 [v0, v1, v2, v3, v4, v5, v6] (.int (y2 + y1) :: st) u P := zl_B h0_904
theorem h0_905 : xcd2 I 0 905 = oScr 906 := ch_17 (Nat.le_of_ble_eq_true rfl) rfl
theorem q0_905 : zl I 0 905 [v0, v1, v2, v3, v4, v5, v6] (.int y1 :: .ref b1 :: st) u P = ((b1 = 2000000 ∧ xinb y1 (xN u 2000000)) ∧ zl I 0 906 [v0, v1, v2, v3, v4, v5, v6] (.int (xI u 2000000 (xix y1)) :: st) u P) := zl_Scr h0_905
theorem h0_906 : xcd2 I 0 906 = oAl 0 907 := ch_17 (Nat.le_of_ble_eq_true rfl) rfl
theorem q0_906 : zl I 0 906 [.ref a0, v1, v2, v3, v4, v5, v6] st u P = zl I 0 907 [.ref a0, v1, v2, v3, v4, v5, v6] (.ref a0 :: st) u P := zl_Al h0_906 rfl
theorem h0_907 : xcd2 I 0 907 = oIl 4 909 := ch_17 (Nat.le_of_ble_eq_true rfl) rfl
theorem q0_907 : zl I 0 907 [v0, v1, v2, v3, .int x4, v5, v6] st u P = zl I 0 909 [v0, v1, v2, v3, .int x4, v5, v6] (.int x4 :: st) u P := zl_Il h0_907 rfl
theorem h0_909 : xcd2 I 0 909 = oI 4 910 := ch_17 (Nat.le_of_ble_eq_true rfl) rfl
theorem q0_909 : zl I 0 909 [v0, v1, v2, v3, v4, v5, v6] st u P = zl I 0 910 [v0, v1, v2, v3, v4, v5, v6] (.int 4 :: st) u P := zl_I h0_909
theorem h0_910 : xcd2 I 0 910 = oB (fun x y => x + y) 911 := ch_17 (Nat.le_of_ble_eq_true rfl) rfl
theorem q0_910 : zl I 0 910 [v0, v1, v2, v3, v4, v5, v6] (.int y1 :: .int y2 :: st) u P = zl I 0 911 [v0, v1, v2, v3, v4, v5, v6] (.int (y2 + y1) :: st) u P := zl_B h0_910
theorem h0_911 : xcd2 I 0 911 = oScr 912 := ch_17 (Nat.le_of_ble_eq_true rfl) rfl
theorem q0_911 : zl I 0 911 [v0, v1, v2, v3, v4, v5, v6] (.int y1 :: .ref b1 :: st) u P = ((b1 = 2000000 ∧ xinb y1 (xN u 2000000)) ∧ zl I 0 912 [v0, v1, v2, v3, v4, v5, v6] (.int (xI u 2000000 (xix y1)) :: st) u P) := zl_Scr h0_911
theorem h0_912 : xcd2 I 0 912 = oCalV 11 239 4 915 := ch_17 (Nat.le_of_ble_eq_true rfl) rfl
theorem q0_912 : zl I 0 912 [v0, v1, v2, v3, v4, v5, v6] (.int y4 :: .int y3 :: .int y2 :: .int y1 :: .ref b8 :: st) u P = ((xIs u b8 11 ∧ xcat st ≤ 8) ∧ zl I 239 0 [.ref b8, .int y1, .int y2, .int y3, .int y4, .null] [] u (fun r u2 => zl I 0 915 [v0, v1, v2, v3, v4, v5, v6] (r.toList ++ st) u2 P)) := zl_CV h0_912 rfl rfl rfl ⟨Nat.le_of_ble_eq_true rfl, Nat.succ_ne_zero _, by decide⟩ rfl
theorem h0_915 : xcd2 I 0 915 = oCmp (fun x y => decide (x = y)) 2238 918 := ch_17 (Nat.le_of_ble_eq_true rfl) rfl
theorem q0_915 : zl I 0 915 [v0, v1, v2, v3, v4, v5, v6] (.int y1 :: .int y2 :: st) u P = (if y2 = y1 then zl I 0 2238 [v0, v1, v2, v3, v4, v5, v6] st u P else zl I 0 918 [v0, v1, v2, v3, v4, v5, v6] st u P) := zl_Cmp h0_915
theorem h0_918 : xcd2 I 0 918 = oI 0 919 := ch_17 (Nat.le_of_ble_eq_true rfl) rfl
theorem q0_918 : zl I 0 918 [v0, v1, v2, v3, v4, v5, v6] st u P = zl I 0 919 [v0, v1, v2, v3, v4, v5, v6] (.int 0 :: st) u P := zl_I h0_918
theorem h0_919 : xcd2 I 0 919 = oRz 0 := ch_17 (Nat.le_of_ble_eq_true rfl) rfl
theorem q0_919 : zl I 0 919 [v0, v1, v2, v3, v4, v5, v6] [.int y1] u P = ((y1 = 0 ∨ y1 = 1) ∧ P (some (.int y1)) u) := zl_Rz h0_919
theorem h0_920 : xcd2 I 0 920 = oAl 1 921 := ch_17 (Nat.le_of_ble_eq_true rfl) rfl
theorem q0_920 : zl I 0 920 [v0, .ref a1, v2, v3, v4, v5, v6] st u P = zl I 0 921 [v0, .ref a1, v2, v3, v4, v5, v6] (.ref a1 :: st) u P := zl_Al h0_920 rfl
theorem h0_921 : xcd2 I 0 921 = oAl 0 922 := ch_17 (Nat.le_of_ble_eq_true rfl) rfl
theorem q0_921 : zl I 0 921 [.ref a0, v1, v2, v3, v4, v5, v6] st u P = zl I 0 922 [.ref a0, v1, v2, v3, v4, v5, v6] (.ref a0 :: st) u P := zl_Al h0_921 rfl
theorem h0_922 : xcd2 I 0 922 = oIl 4 924 := ch_17 (Nat.le_of_ble_eq_true rfl) rfl
theorem q0_922 : zl I 0 922 [v0, v1, v2, v3, .int x4, v5, v6] st u P = zl I 0 924 [v0, v1, v2, v3, .int x4, v5, v6] (.int x4 :: st) u P := zl_Il h0_922 rfl
theorem h0_924 : xcd2 I 0 924 = oI 1 925 := ch_17 (Nat.le_of_ble_eq_true rfl) rfl
theorem q0_924 : zl I 0 924 [v0, v1, v2, v3, v4, v5, v6] st u P = zl I 0 925 [v0, v1, v2, v3, v4, v5, v6] (.int 1 :: st) u P := zl_I h0_924
theorem h0_925 : xcd2 I 0 925 = oB (fun x y => x + y) 926 := ch_17 (Nat.le_of_ble_eq_true rfl) rfl
theorem q0_925 : zl I 0 925 [v0, v1, v2, v3, v4, v5, v6] (.int y1 :: .int y2 :: st) u P = zl I 0 926 [v0, v1, v2, v3, v4, v5, v6] (.int (y2 + y1) :: st) u P := zl_B h0_925
theorem h0_926 : xcd2 I 0 926 = oScr 927 := ch_17 (Nat.le_of_ble_eq_true rfl) rfl
theorem q0_926 : zl I 0 926 [v0, v1, v2, v3, v4, v5, v6] (.int y1 :: .ref b1 :: st) u P = ((b1 = 2000000 ∧ xinb y1 (xN u 2000000)) ∧ zl I 0 927 [v0, v1, v2, v3, v4, v5, v6] (.int (xI u 2000000 (xix y1)) :: st) u P) := zl_Scr h0_926
theorem h0_927 : xcd2 I 0 927 = oAl 0 928 := ch_17 (Nat.le_of_ble_eq_true rfl) rfl
theorem q0_927 : zl I 0 927 [.ref a0, v1, v2, v3, v4, v5, v6] st u P = zl I 0 928 [.ref a0, v1, v2, v3, v4, v5, v6] (.ref a0 :: st) u P := zl_Al h0_927 rfl
theorem h0_928 : xcd2 I 0 928 = oIl 4 930 := ch_17 (Nat.le_of_ble_eq_true rfl) rfl
theorem q0_928 : zl I 0 928 [v0, v1, v2, v3, .int x4, v5, v6] st u P = zl I 0 930 [v0, v1, v2, v3, .int x4, v5, v6] (.int x4 :: st) u P := zl_Il h0_928 rfl
theorem h0_930 : xcd2 I 0 930 = oI 2 931 := ch_17 (Nat.le_of_ble_eq_true rfl) rfl
theorem q0_930 : zl I 0 930 [v0, v1, v2, v3, v4, v5, v6] st u P = zl I 0 931 [v0, v1, v2, v3, v4, v5, v6] (.int 2 :: st) u P := zl_I h0_930
theorem h0_931 : xcd2 I 0 931 = oB (fun x y => x + y) 932 := ch_17 (Nat.le_of_ble_eq_true rfl) rfl
theorem q0_931 : zl I 0 931 [v0, v1, v2, v3, v4, v5, v6] (.int y1 :: .int y2 :: st) u P = zl I 0 932 [v0, v1, v2, v3, v4, v5, v6] (.int (y2 + y1) :: st) u P := zl_B h0_931
theorem h0_932 : xcd2 I 0 932 = oScr 933 := ch_17 (Nat.le_of_ble_eq_true rfl) rfl
theorem q0_932 : zl I 0 932 [v0, v1, v2, v3, v4, v5, v6] (.int y1 :: .ref b1 :: st) u P = ((b1 = 2000000 ∧ xinb y1 (xN u 2000000)) ∧ zl I 0 933 [v0, v1, v2, v3, v4, v5, v6] (.int (xI u 2000000 (xix y1)) :: st) u P) := zl_Scr h0_932
theorem h0_933 : xcd2 I 0 933 = oAl 0 934 := ch_17 (Nat.le_of_ble_eq_true rfl) rfl
theorem q0_933 : zl I 0 933 [.ref a0, v1, v2, v3, v4, v5, v6] st u P = zl I 0 934 [.ref a0, v1, v2, v3, v4, v5, v6] (.ref a0 :: st) u P := zl_Al h0_933 rfl
theorem h0_934 : xcd2 I 0 934 = oIl 4 936 := ch_17 (Nat.le_of_ble_eq_true rfl) rfl
theorem q0_934 : zl I 0 934 [v0, v1, v2, v3, .int x4, v5, v6] st u P = zl I 0 936 [v0, v1, v2, v3, .int x4, v5, v6] (.int x4 :: st) u P := zl_Il h0_934 rfl
theorem h0_936 : xcd2 I 0 936 = oI 3 937 := ch_18 (Nat.le_of_ble_eq_true rfl) rfl
theorem q0_936 : zl I 0 936 [v0, v1, v2, v3, v4, v5, v6] st u P = zl I 0 937 [v0, v1, v2, v3, v4, v5, v6] (.int 3 :: st) u P := zl_I h0_936
theorem h0_937 : xcd2 I 0 937 = oB (fun x y => x + y) 938 := ch_18 (Nat.le_of_ble_eq_true rfl) rfl
theorem q0_937 : zl I 0 937 [v0, v1, v2, v3, v4, v5, v6] (.int y1 :: .int y2 :: st) u P = zl I 0 938 [v0, v1, v2, v3, v4, v5, v6] (.int (y2 + y1) :: st) u P := zl_B h0_937
theorem h0_938 : xcd2 I 0 938 = oScr 939 := ch_18 (Nat.le_of_ble_eq_true rfl) rfl
theorem q0_938 : zl I 0 938 [v0, v1, v2, v3, v4, v5, v6] (.int y1 :: .ref b1 :: st) u P = ((b1 = 2000000 ∧ xinb y1 (xN u 2000000)) ∧ zl I 0 939 [v0, v1, v2, v3, v4, v5, v6] (.int (xI u 2000000 (xix y1)) :: st) u P) := zl_Scr h0_938
theorem h0_939 : xcd2 I 0 939 = oCalV 10 123 3 942 := ch_18 (Nat.le_of_ble_eq_true rfl) rfl
theorem q0_939 : zl I 0 939 [v0, v1, v2, v3, v4, v5, v6] (.int y3 :: .int y2 :: .int y1 :: .ref b8 :: st) u P = ((xIs u b8 10 ∧ xcat st ≤ 8) ∧ zl I 123 0 [.ref b8, .int y1, .int y2, .int y3] [] u (fun r u2 => zl I 0 942 [v0, v1, v2, v3, v4, v5, v6] (r.toList ++ st) u2 P)) := zl_CV h0_939 rfl rfl rfl ⟨Nat.le_of_ble_eq_true rfl, Nat.succ_ne_zero _, by decide⟩ rfl
theorem h0_942 : xcd2 I 0 942 = oAl 2 943 := ch_18 (Nat.le_of_ble_eq_true rfl) rfl
theorem q0_942 : zl I 0 942 [v0, v1, .ref a2, v3, v4, v5, v6] st u P = zl I 0 943 [v0, v1, .ref a2, v3, v4, v5, v6] (.ref a2 :: st) u P := zl_Al h0_942 rfl
theorem h0_943 : xcd2 I 0 943 = oAl 0 944 := ch_18 (Nat.le_of_ble_eq_true rfl) rfl
theorem q0_943 : zl I 0 943 [.ref a0, v1, v2, v3, v4, v5, v6] st u P = zl I 0 944 [.ref a0, v1, v2, v3, v4, v5, v6] (.ref a0 :: st) u P := zl_Al h0_943 rfl
theorem h0_944 : xcd2 I 0 944 = oIl 4 946 := ch_18 (Nat.le_of_ble_eq_true rfl) rfl
theorem q0_944 : zl I 0 944 [v0, v1, v2, v3, .int x4, v5, v6] st u P = zl I 0 946 [v0, v1, v2, v3, .int x4, v5, v6] (.int x4 :: st) u P := zl_Il h0_944 rfl
theorem h0_946 : xcd2 I 0 946 = oI 1 947 := ch_18 (Nat.le_of_ble_eq_true rfl) rfl
theorem q0_946 : zl I 0 946 [v0, v1, v2, v3, v4, v5, v6] st u P = zl I 0 947 [v0, v1, v2, v3, v4, v5, v6] (.int 1 :: st) u P := zl_I h0_946
theorem h0_947 : xcd2 I 0 947 = oB (fun x y => x + y) 948 := ch_18 (Nat.le_of_ble_eq_true rfl) rfl
theorem q0_947 : zl I 0 947 [v0, v1, v2, v3, v4, v5, v6] (.int y1 :: .int y2 :: st) u P = zl I 0 948 [v0, v1, v2, v3, v4, v5, v6] (.int (y2 + y1) :: st) u P := zl_B h0_947
theorem h0_948 : xcd2 I 0 948 = oScr 949 := ch_18 (Nat.le_of_ble_eq_true rfl) rfl
theorem q0_948 : zl I 0 948 [v0, v1, v2, v3, v4, v5, v6] (.int y1 :: .ref b1 :: st) u P = ((b1 = 2000000 ∧ xinb y1 (xN u 2000000)) ∧ zl I 0 949 [v0, v1, v2, v3, v4, v5, v6] (.int (xI u 2000000 (xix y1)) :: st) u P) := zl_Scr h0_948
theorem h0_949 : xcd2 I 0 949 = oAl 0 950 := ch_18 (Nat.le_of_ble_eq_true rfl) rfl
theorem q0_949 : zl I 0 949 [.ref a0, v1, v2, v3, v4, v5, v6] st u P = zl I 0 950 [.ref a0, v1, v2, v3, v4, v5, v6] (.ref a0 :: st) u P := zl_Al h0_949 rfl
theorem h0_950 : xcd2 I 0 950 = oIl 4 952 := ch_18 (Nat.le_of_ble_eq_true rfl) rfl
theorem q0_950 : zl I 0 950 [v0, v1, v2, v3, .int x4, v5, v6] st u P = zl I 0 952 [v0, v1, v2, v3, .int x4, v5, v6] (.int x4 :: st) u P := zl_Il h0_950 rfl
theorem h0_952 : xcd2 I 0 952 = oI 2 953 := ch_18 (Nat.le_of_ble_eq_true rfl) rfl
theorem q0_952 : zl I 0 952 [v0, v1, v2, v3, v4, v5, v6] st u P = zl I 0 953 [v0, v1, v2, v3, v4, v5, v6] (.int 2 :: st) u P := zl_I h0_952
theorem h0_953 : xcd2 I 0 953 = oB (fun x y => x + y) 954 := ch_18 (Nat.le_of_ble_eq_true rfl) rfl
theorem q0_953 : zl I 0 953 [v0, v1, v2, v3, v4, v5, v6] (.int y1 :: .int y2 :: st) u P = zl I 0 954 [v0, v1, v2, v3, v4, v5, v6] (.int (y2 + y1) :: st) u P := zl_B h0_953
theorem h0_954 : xcd2 I 0 954 = oScr 955 := ch_18 (Nat.le_of_ble_eq_true rfl) rfl
theorem q0_954 : zl I 0 954 [v0, v1, v2, v3, v4, v5, v6] (.int y1 :: .ref b1 :: st) u P = ((b1 = 2000000 ∧ xinb y1 (xN u 2000000)) ∧ zl I 0 955 [v0, v1, v2, v3, v4, v5, v6] (.int (xI u 2000000 (xix y1)) :: st) u P) := zl_Scr h0_954
theorem h0_955 : xcd2 I 0 955 = oAl 0 956 := ch_18 (Nat.le_of_ble_eq_true rfl) rfl
theorem q0_955 : zl I 0 955 [.ref a0, v1, v2, v3, v4, v5, v6] st u P = zl I 0 956 [.ref a0, v1, v2, v3, v4, v5, v6] (.ref a0 :: st) u P := zl_Al h0_955 rfl
theorem h0_956 : xcd2 I 0 956 = oIl 4 958 := ch_18 (Nat.le_of_ble_eq_true rfl) rfl
theorem q0_956 : zl I 0 956 [v0, v1, v2, v3, .int x4, v5, v6] st u P = zl I 0 958 [v0, v1, v2, v3, .int x4, v5, v6] (.int x4 :: st) u P := zl_Il h0_956 rfl
theorem h0_958 : xcd2 I 0 958 = oI 3 959 := ch_18 (Nat.le_of_ble_eq_true rfl) rfl
theorem q0_958 : zl I 0 958 [v0, v1, v2, v3, v4, v5, v6] st u P = zl I 0 959 [v0, v1, v2, v3, v4, v5, v6] (.int 3 :: st) u P := zl_I h0_958
theorem h0_959 : xcd2 I 0 959 = oB (fun x y => x + y) 960 := ch_18 (Nat.le_of_ble_eq_true rfl) rfl
theorem q0_959 : zl I 0 959 [v0, v1, v2, v3, v4, v5, v6] (.int y1 :: .int y2 :: st) u P = zl I 0 960 [v0, v1, v2, v3, v4, v5, v6] (.int (y2 + y1) :: st) u P := zl_B h0_959
theorem h0_960 : xcd2 I 0 960 = oScr 961 := ch_18 (Nat.le_of_ble_eq_true rfl) rfl
theorem q0_960 : zl I 0 960 [v0, v1, v2, v3, v4, v5, v6] (.int y1 :: .ref b1 :: st) u P = ((b1 = 2000000 ∧ xinb y1 (xN u 2000000)) ∧ zl I 0 961 [v0, v1, v2, v3, v4, v5, v6] (.int (xI u 2000000 (xix y1)) :: st) u P) := zl_Scr h0_960
theorem h0_961 : xcd2 I 0 961 = oCalV 11 240 3 964 := ch_18 (Nat.le_of_ble_eq_true rfl) rfl
theorem q0_961 : zl I 0 961 [v0, v1, v2, v3, v4, v5, v6] (.int y3 :: .int y2 :: .int y1 :: .ref b8 :: st) u P = ((xIs u b8 11 ∧ xcat st ≤ 8) ∧ zl I 240 0 [.ref b8, .int y1, .int y2, .int y3, .null, .null, .null, .null, .null] [] u (fun r u2 => zl I 0 964 [v0, v1, v2, v3, v4, v5, v6] (r.toList ++ st) u2 P)) := zl_CV h0_961 rfl rfl rfl ⟨Nat.le_of_ble_eq_true rfl, Nat.succ_ne_zero _, by decide⟩ rfl
theorem h0_964 : xcd2 I 0 964 = oCmp (fun x y => decide (x = y)) 2238 967 := ch_18 (Nat.le_of_ble_eq_true rfl) rfl
theorem q0_964 : zl I 0 964 [v0, v1, v2, v3, v4, v5, v6] (.int y1 :: .int y2 :: st) u P = (if y2 = y1 then zl I 0 2238 [v0, v1, v2, v3, v4, v5, v6] st u P else zl I 0 967 [v0, v1, v2, v3, v4, v5, v6] st u P) := zl_Cmp h0_964
theorem h0_967 : xcd2 I 0 967 = oI 0 968 := ch_18 (Nat.le_of_ble_eq_true rfl) rfl
theorem q0_967 : zl I 0 967 [v0, v1, v2, v3, v4, v5, v6] st u P = zl I 0 968 [v0, v1, v2, v3, v4, v5, v6] (.int 0 :: st) u P := zl_I h0_967
theorem h0_968 : xcd2 I 0 968 = oRz 0 := ch_18 (Nat.le_of_ble_eq_true rfl) rfl
theorem q0_968 : zl I 0 968 [v0, v1, v2, v3, v4, v5, v6] [.int y1] u P = ((y1 = 0 ∨ y1 = 1) ∧ P (some (.int y1)) u) := zl_Rz h0_968
theorem h0_969 : xcd2 I 0 969 = oAl 1 970 := ch_18 (Nat.le_of_ble_eq_true rfl) rfl
theorem q0_969 : zl I 0 969 [v0, .ref a1, v2, v3, v4, v5, v6] st u P = zl I 0 970 [v0, .ref a1, v2, v3, v4, v5, v6] (.ref a1 :: st) u P := zl_Al h0_969 rfl
theorem h0_970 : xcd2 I 0 970 = oAl 0 971 := ch_18 (Nat.le_of_ble_eq_true rfl) rfl
theorem q0_970 : zl I 0 970 [.ref a0, v1, v2, v3, v4, v5, v6] st u P = zl I 0 971 [.ref a0, v1, v2, v3, v4, v5, v6] (.ref a0 :: st) u P := zl_Al h0_970 rfl
theorem h0_971 : xcd2 I 0 971 = oIl 4 973 := ch_18 (Nat.le_of_ble_eq_true rfl) rfl
theorem q0_971 : zl I 0 971 [v0, v1, v2, v3, .int x4, v5, v6] st u P = zl I 0 973 [v0, v1, v2, v3, .int x4, v5, v6] (.int x4 :: st) u P := zl_Il h0_971 rfl
theorem h0_973 : xcd2 I 0 973 = oI 1 974 := ch_18 (Nat.le_of_ble_eq_true rfl) rfl
theorem q0_973 : zl I 0 973 [v0, v1, v2, v3, v4, v5, v6] st u P = zl I 0 974 [v0, v1, v2, v3, v4, v5, v6] (.int 1 :: st) u P := zl_I h0_973
theorem h0_974 : xcd2 I 0 974 = oB (fun x y => x + y) 975 := ch_18 (Nat.le_of_ble_eq_true rfl) rfl
theorem q0_974 : zl I 0 974 [v0, v1, v2, v3, v4, v5, v6] (.int y1 :: .int y2 :: st) u P = zl I 0 975 [v0, v1, v2, v3, v4, v5, v6] (.int (y2 + y1) :: st) u P := zl_B h0_974
theorem h0_975 : xcd2 I 0 975 = oScr 976 := ch_18 (Nat.le_of_ble_eq_true rfl) rfl
theorem q0_975 : zl I 0 975 [v0, v1, v2, v3, v4, v5, v6] (.int y1 :: .ref b1 :: st) u P = ((b1 = 2000000 ∧ xinb y1 (xN u 2000000)) ∧ zl I 0 976 [v0, v1, v2, v3, v4, v5, v6] (.int (xI u 2000000 (xix y1)) :: st) u P) := zl_Scr h0_975
theorem h0_976 : xcd2 I 0 976 = oAl 0 977 := ch_19 (Nat.le_of_ble_eq_true rfl) rfl
theorem q0_976 : zl I 0 976 [.ref a0, v1, v2, v3, v4, v5, v6] st u P = zl I 0 977 [.ref a0, v1, v2, v3, v4, v5, v6] (.ref a0 :: st) u P := zl_Al h0_976 rfl
theorem h0_977 : xcd2 I 0 977 = oIl 4 979 := ch_19 (Nat.le_of_ble_eq_true rfl) rfl
theorem q0_977 : zl I 0 977 [v0, v1, v2, v3, .int x4, v5, v6] st u P = zl I 0 979 [v0, v1, v2, v3, .int x4, v5, v6] (.int x4 :: st) u P := zl_Il h0_977 rfl
theorem h0_979 : xcd2 I 0 979 = oI 2 980 := ch_19 (Nat.le_of_ble_eq_true rfl) rfl
theorem q0_979 : zl I 0 979 [v0, v1, v2, v3, v4, v5, v6] st u P = zl I 0 980 [v0, v1, v2, v3, v4, v5, v6] (.int 2 :: st) u P := zl_I h0_979
theorem h0_980 : xcd2 I 0 980 = oB (fun x y => x + y) 981 := ch_19 (Nat.le_of_ble_eq_true rfl) rfl
theorem q0_980 : zl I 0 980 [v0, v1, v2, v3, v4, v5, v6] (.int y1 :: .int y2 :: st) u P = zl I 0 981 [v0, v1, v2, v3, v4, v5, v6] (.int (y2 + y1) :: st) u P := zl_B h0_980
theorem h0_981 : xcd2 I 0 981 = oScr 982 := ch_19 (Nat.le_of_ble_eq_true rfl) rfl
theorem q0_981 : zl I 0 981 [v0, v1, v2, v3, v4, v5, v6] (.int y1 :: .ref b1 :: st) u P = ((b1 = 2000000 ∧ xinb y1 (xN u 2000000)) ∧ zl I 0 982 [v0, v1, v2, v3, v4, v5, v6] (.int (xI u 2000000 (xix y1)) :: st) u P) := zl_Scr h0_981
theorem h0_982 : xcd2 I 0 982 = oAl 0 983 := ch_19 (Nat.le_of_ble_eq_true rfl) rfl
theorem q0_982 : zl I 0 982 [.ref a0, v1, v2, v3, v4, v5, v6] st u P = zl I 0 983 [.ref a0, v1, v2, v3, v4, v5, v6] (.ref a0 :: st) u P := zl_Al h0_982 rfl
theorem h0_983 : xcd2 I 0 983 = oIl 4 985 := ch_19 (Nat.le_of_ble_eq_true rfl) rfl
theorem q0_983 : zl I 0 983 [v0, v1, v2, v3, .int x4, v5, v6] st u P = zl I 0 985 [v0, v1, v2, v3, .int x4, v5, v6] (.int x4 :: st) u P := zl_Il h0_983 rfl
theorem h0_985 : xcd2 I 0 985 = oI 3 986 := ch_19 (Nat.le_of_ble_eq_true rfl) rfl
theorem q0_985 : zl I 0 985 [v0, v1, v2, v3, v4, v5, v6] st u P = zl I 0 986 [v0, v1, v2, v3, v4, v5, v6] (.int 3 :: st) u P := zl_I h0_985
theorem h0_986 : xcd2 I 0 986 = oB (fun x y => x + y) 987 := ch_19 (Nat.le_of_ble_eq_true rfl) rfl
theorem q0_986 : zl I 0 986 [v0, v1, v2, v3, v4, v5, v6] (.int y1 :: .int y2 :: st) u P = zl I 0 987 [v0, v1, v2, v3, v4, v5, v6] (.int (y2 + y1) :: st) u P := zl_B h0_986
theorem h0_987 : xcd2 I 0 987 = oScr 988 := ch_19 (Nat.le_of_ble_eq_true rfl) rfl
theorem q0_987 : zl I 0 987 [v0, v1, v2, v3, v4, v5, v6] (.int y1 :: .ref b1 :: st) u P = ((b1 = 2000000 ∧ xinb y1 (xN u 2000000)) ∧ zl I 0 988 [v0, v1, v2, v3, v4, v5, v6] (.int (xI u 2000000 (xix y1)) :: st) u P) := zl_Scr h0_987
theorem h0_988 : xcd2 I 0 988 = oCalV 10 124 3 991 := ch_19 (Nat.le_of_ble_eq_true rfl) rfl
theorem q0_988 : zl I 0 988 [v0, v1, v2, v3, v4, v5, v6] (.int y3 :: .int y2 :: .int y1 :: .ref b8 :: st) u P = ((xIs u b8 10 ∧ xcat st ≤ 8) ∧ zl I 124 0 [.ref b8, .int y1, .int y2, .int y3] [] u (fun r u2 => zl I 0 991 [v0, v1, v2, v3, v4, v5, v6] (r.toList ++ st) u2 P)) := zl_CV h0_988 rfl rfl rfl ⟨Nat.le_of_ble_eq_true rfl, Nat.succ_ne_zero _, by decide⟩ rfl
theorem h0_991 : xcd2 I 0 991 = oAl 2 992 := ch_19 (Nat.le_of_ble_eq_true rfl) rfl
theorem q0_991 : zl I 0 991 [v0, v1, .ref a2, v3, v4, v5, v6] st u P = zl I 0 992 [v0, v1, .ref a2, v3, v4, v5, v6] (.ref a2 :: st) u P := zl_Al h0_991 rfl
theorem h0_992 : xcd2 I 0 992 = oAl 0 993 := ch_19 (Nat.le_of_ble_eq_true rfl) rfl
theorem q0_992 : zl I 0 992 [.ref a0, v1, v2, v3, v4, v5, v6] st u P = zl I 0 993 [.ref a0, v1, v2, v3, v4, v5, v6] (.ref a0 :: st) u P := zl_Al h0_992 rfl
theorem h0_993 : xcd2 I 0 993 = oIl 4 995 := ch_19 (Nat.le_of_ble_eq_true rfl) rfl
theorem q0_993 : zl I 0 993 [v0, v1, v2, v3, .int x4, v5, v6] st u P = zl I 0 995 [v0, v1, v2, v3, .int x4, v5, v6] (.int x4 :: st) u P := zl_Il h0_993 rfl
theorem h0_995 : xcd2 I 0 995 = oI 1 996 := ch_19 (Nat.le_of_ble_eq_true rfl) rfl
theorem q0_995 : zl I 0 995 [v0, v1, v2, v3, v4, v5, v6] st u P = zl I 0 996 [v0, v1, v2, v3, v4, v5, v6] (.int 1 :: st) u P := zl_I h0_995
theorem h0_996 : xcd2 I 0 996 = oB (fun x y => x + y) 997 := ch_19 (Nat.le_of_ble_eq_true rfl) rfl
theorem q0_996 : zl I 0 996 [v0, v1, v2, v3, v4, v5, v6] (.int y1 :: .int y2 :: st) u P = zl I 0 997 [v0, v1, v2, v3, v4, v5, v6] (.int (y2 + y1) :: st) u P := zl_B h0_996
theorem h0_997 : xcd2 I 0 997 = oScr 998 := ch_19 (Nat.le_of_ble_eq_true rfl) rfl
theorem q0_997 : zl I 0 997 [v0, v1, v2, v3, v4, v5, v6] (.int y1 :: .ref b1 :: st) u P = ((b1 = 2000000 ∧ xinb y1 (xN u 2000000)) ∧ zl I 0 998 [v0, v1, v2, v3, v4, v5, v6] (.int (xI u 2000000 (xix y1)) :: st) u P) := zl_Scr h0_997
theorem h0_998 : xcd2 I 0 998 = oAl 0 999 := ch_19 (Nat.le_of_ble_eq_true rfl) rfl
theorem q0_998 : zl I 0 998 [.ref a0, v1, v2, v3, v4, v5, v6] st u P = zl I 0 999 [.ref a0, v1, v2, v3, v4, v5, v6] (.ref a0 :: st) u P := zl_Al h0_998 rfl
theorem h0_999 : xcd2 I 0 999 = oIl 4 1001 := ch_19 (Nat.le_of_ble_eq_true rfl) rfl
theorem q0_999 : zl I 0 999 [v0, v1, v2, v3, .int x4, v5, v6] st u P = zl I 0 1001 [v0, v1, v2, v3, .int x4, v5, v6] (.int x4 :: st) u P := zl_Il h0_999 rfl
theorem h0_1001 : xcd2 I 0 1001 = oI 2 1002 := ch_19 (Nat.le_of_ble_eq_true rfl) rfl
theorem q0_1001 : zl I 0 1001 [v0, v1, v2, v3, v4, v5, v6] st u P = zl I 0 1002 [v0, v1, v2, v3, v4, v5, v6] (.int 2 :: st) u P := zl_I h0_1001
theorem h0_1002 : xcd2 I 0 1002 = oB (fun x y => x + y) 1003 := ch_19 (Nat.le_of_ble_eq_true rfl) rfl
theorem q0_1002 : zl I 0 1002 [v0, v1, v2, v3, v4, v5, v6] (.int y1 :: .int y2 :: st) u P = zl I 0 1003 [v0, v1, v2, v3, v4, v5, v6] (.int (y2 + y1) :: st) u P := zl_B h0_1002
theorem h0_1003 : xcd2 I 0 1003 = oScr 1004 := ch_19 (Nat.le_of_ble_eq_true rfl) rfl
theorem q0_1003 : zl I 0 1003 [v0, v1, v2, v3, v4, v5, v6] (.int y1 :: .ref b1 :: st) u P = ((b1 = 2000000 ∧ xinb y1 (xN u 2000000)) ∧ zl I 0 1004 [v0, v1, v2, v3, v4, v5, v6] (.int (xI u 2000000 (xix y1)) :: st) u P) := zl_Scr h0_1003
theorem h0_1004 : xcd2 I 0 1004 = oAl 0 1005 := ch_19 (Nat.le_of_ble_eq_true rfl) rfl
theorem q0_1004 : zl I 0 1004 [.ref a0, v1, v2, v3, v4, v5, v6] st u P = zl I 0 1005 [.ref a0, v1, v2, v3, v4, v5, v6] (.ref a0 :: st) u P := zl_Al h0_1004 rfl
theorem h0_1005 : xcd2 I 0 1005 = oIl 4 1007 := ch_19 (Nat.le_of_ble_eq_true rfl) rfl
theorem q0_1005 : zl I 0 1005 [v0, v1, v2, v3, .int x4, v5, v6] st u P = zl I 0 1007 [v0, v1, v2, v3, .int x4, v5, v6] (.int x4 :: st) u P := zl_Il h0_1005 rfl
theorem h0_1007 : xcd2 I 0 1007 = oI 3 1008 := ch_19 (Nat.le_of_ble_eq_true rfl) rfl
theorem q0_1007 : zl I 0 1007 [v0, v1, v2, v3, v4, v5, v6] st u P = zl I 0 1008 [v0, v1, v2, v3, v4, v5, v6] (.int 3 :: st) u P := zl_I h0_1007
theorem h0_1008 : xcd2 I 0 1008 = oB (fun x y => x + y) 1009 := ch_19 (Nat.le_of_ble_eq_true rfl) rfl
theorem q0_1008 : zl I 0 1008 [v0, v1, v2, v3, v4, v5, v6] (.int y1 :: .int y2 :: st) u P = zl I 0 1009 [v0, v1, v2, v3, v4, v5, v6] (.int (y2 + y1) :: st) u P := zl_B h0_1008
theorem h0_1009 : xcd2 I 0 1009 = oScr 1010 := ch_19 (Nat.le_of_ble_eq_true rfl) rfl
theorem q0_1009 : zl I 0 1009 [v0, v1, v2, v3, v4, v5, v6] (.int y1 :: .ref b1 :: st) u P = ((b1 = 2000000 ∧ xinb y1 (xN u 2000000)) ∧ zl I 0 1010 [v0, v1, v2, v3, v4, v5, v6] (.int (xI u 2000000 (xix y1)) :: st) u P) := zl_Scr h0_1009
theorem h0_1010 : xcd2 I 0 1010 = oCalV 11 241 3 1013 := ch_19 (Nat.le_of_ble_eq_true rfl) rfl
theorem q0_1010 : zl I 0 1010 [v0, v1, v2, v3, v4, v5, v6] (.int y3 :: .int y2 :: .int y1 :: .ref b8 :: st) u P = ((xIs u b8 11 ∧ xcat st ≤ 8) ∧ zl I 241 0 [.ref b8, .int y1, .int y2, .int y3, .null, .null, .null] [] u (fun r u2 => zl I 0 1013 [v0, v1, v2, v3, v4, v5, v6] (r.toList ++ st) u2 P)) := zl_CV h0_1010 rfl rfl rfl ⟨Nat.le_of_ble_eq_true rfl, Nat.succ_ne_zero _, by decide⟩ rfl
theorem h0_1013 : xcd2 I 0 1013 = oCmp (fun x y => decide (x = y)) 2238 1016 := ch_19 (Nat.le_of_ble_eq_true rfl) rfl
theorem q0_1013 : zl I 0 1013 [v0, v1, v2, v3, v4, v5, v6] (.int y1 :: .int y2 :: st) u P = (if y2 = y1 then zl I 0 2238 [v0, v1, v2, v3, v4, v5, v6] st u P else zl I 0 1016 [v0, v1, v2, v3, v4, v5, v6] st u P) := zl_Cmp h0_1013
theorem h0_1016 : xcd2 I 0 1016 = oI 0 1017 := ch_19 (Nat.le_of_ble_eq_true rfl) rfl
theorem q0_1016 : zl I 0 1016 [v0, v1, v2, v3, v4, v5, v6] st u P = zl I 0 1017 [v0, v1, v2, v3, v4, v5, v6] (.int 0 :: st) u P := zl_I h0_1016
theorem h0_1017 : xcd2 I 0 1017 = oRz 0 := ch_20 (Nat.le_of_ble_eq_true rfl) rfl
theorem q0_1017 : zl I 0 1017 [v0, v1, v2, v3, v4, v5, v6] [.int y1] u P = ((y1 = 0 ∨ y1 = 1) ∧ P (some (.int y1)) u) := zl_Rz h0_1017
theorem h0_1018 : xcd2 I 0 1018 = oAl 1 1019 := ch_20 (Nat.le_of_ble_eq_true rfl) rfl
theorem q0_1018 : zl I 0 1018 [v0, .ref a1, v2, v3, v4, v5, v6] st u P = zl I 0 1019 [v0, .ref a1, v2, v3, v4, v5, v6] (.ref a1 :: st) u P := zl_Al h0_1018 rfl
theorem h0_1019 : xcd2 I 0 1019 = oAl 0 1020 := ch_20 (Nat.le_of_ble_eq_true rfl) rfl
theorem q0_1019 : zl I 0 1019 [.ref a0, v1, v2, v3, v4, v5, v6] st u P = zl I 0 1020 [.ref a0, v1, v2, v3, v4, v5, v6] (.ref a0 :: st) u P := zl_Al h0_1019 rfl
theorem h0_1020 : xcd2 I 0 1020 = oIl 4 1022 := ch_20 (Nat.le_of_ble_eq_true rfl) rfl
theorem q0_1020 : zl I 0 1020 [v0, v1, v2, v3, .int x4, v5, v6] st u P = zl I 0 1022 [v0, v1, v2, v3, .int x4, v5, v6] (.int x4 :: st) u P := zl_Il h0_1020 rfl
theorem h0_1022 : xcd2 I 0 1022 = oI 1 1023 := ch_20 (Nat.le_of_ble_eq_true rfl) rfl
theorem q0_1022 : zl I 0 1022 [v0, v1, v2, v3, v4, v5, v6] st u P = zl I 0 1023 [v0, v1, v2, v3, v4, v5, v6] (.int 1 :: st) u P := zl_I h0_1022
theorem h0_1023 : xcd2 I 0 1023 = oB (fun x y => x + y) 1024 := ch_20 (Nat.le_of_ble_eq_true rfl) rfl
theorem q0_1023 : zl I 0 1023 [v0, v1, v2, v3, v4, v5, v6] (.int y1 :: .int y2 :: st) u P = zl I 0 1024 [v0, v1, v2, v3, v4, v5, v6] (.int (y2 + y1) :: st) u P := zl_B h0_1023
theorem h0_1024 : xcd2 I 0 1024 = oScr 1025 := ch_20 (Nat.le_of_ble_eq_true rfl) rfl
theorem q0_1024 : zl I 0 1024 [v0, v1, v2, v3, v4, v5, v6] (.int y1 :: .ref b1 :: st) u P = ((b1 = 2000000 ∧ xinb y1 (xN u 2000000)) ∧ zl I 0 1025 [v0, v1, v2, v3, v4, v5, v6] (.int (xI u 2000000 (xix y1)) :: st) u P) := zl_Scr h0_1024
theorem h0_1025 : xcd2 I 0 1025 = oAl 0 1026 := ch_20 (Nat.le_of_ble_eq_true rfl) rfl
theorem q0_1025 : zl I 0 1025 [.ref a0, v1, v2, v3, v4, v5, v6] st u P = zl I 0 1026 [.ref a0, v1, v2, v3, v4, v5, v6] (.ref a0 :: st) u P := zl_Al h0_1025 rfl
theorem h0_1026 : xcd2 I 0 1026 = oIl 4 1028 := ch_20 (Nat.le_of_ble_eq_true rfl) rfl
theorem q0_1026 : zl I 0 1026 [v0, v1, v2, v3, .int x4, v5, v6] st u P = zl I 0 1028 [v0, v1, v2, v3, .int x4, v5, v6] (.int x4 :: st) u P := zl_Il h0_1026 rfl
theorem h0_1028 : xcd2 I 0 1028 = oI 2 1029 := ch_20 (Nat.le_of_ble_eq_true rfl) rfl
theorem q0_1028 : zl I 0 1028 [v0, v1, v2, v3, v4, v5, v6] st u P = zl I 0 1029 [v0, v1, v2, v3, v4, v5, v6] (.int 2 :: st) u P := zl_I h0_1028
theorem h0_1029 : xcd2 I 0 1029 = oB (fun x y => x + y) 1030 := ch_20 (Nat.le_of_ble_eq_true rfl) rfl
theorem q0_1029 : zl I 0 1029 [v0, v1, v2, v3, v4, v5, v6] (.int y1 :: .int y2 :: st) u P = zl I 0 1030 [v0, v1, v2, v3, v4, v5, v6] (.int (y2 + y1) :: st) u P := zl_B h0_1029
theorem h0_1030 : xcd2 I 0 1030 = oScr 1031 := ch_20 (Nat.le_of_ble_eq_true rfl) rfl
theorem q0_1030 : zl I 0 1030 [v0, v1, v2, v3, v4, v5, v6] (.int y1 :: .ref b1 :: st) u P = ((b1 = 2000000 ∧ xinb y1 (xN u 2000000)) ∧ zl I 0 1031 [v0, v1, v2, v3, v4, v5, v6] (.int (xI u 2000000 (xix y1)) :: st) u P) := zl_Scr h0_1030
theorem h0_1031 : xcd2 I 0 1031 = oCalV 10 125 2 1034 := ch_20 (Nat.le_of_ble_eq_true rfl) rfl
theorem q0_1031 : zl I 0 1031 [v0, v1, v2, v3, v4, v5, v6] (.int y2 :: .int y1 :: .ref b8 :: st) u P = ((xIs u b8 10 ∧ xcat st ≤ 8) ∧ zl I 125 0 [.ref b8, .int y1, .int y2] [] u (fun r u2 => zl I 0 1034 [v0, v1, v2, v3, v4, v5, v6] (r.toList ++ st) u2 P)) := zl_CV h0_1031 rfl rfl rfl ⟨Nat.le_of_ble_eq_true rfl, Nat.succ_ne_zero _, by decide⟩ rfl
theorem h0_1034 : xcd2 I 0 1034 = oAl 2 1035 := ch_20 (Nat.le_of_ble_eq_true rfl) rfl
theorem q0_1034 : zl I 0 1034 [v0, v1, .ref a2, v3, v4, v5, v6] st u P = zl I 0 1035 [v0, v1, .ref a2, v3, v4, v5, v6] (.ref a2 :: st) u P := zl_Al h0_1034 rfl
theorem h0_1035 : xcd2 I 0 1035 = oAl 0 1036 := ch_20 (Nat.le_of_ble_eq_true rfl) rfl
theorem q0_1035 : zl I 0 1035 [.ref a0, v1, v2, v3, v4, v5, v6] st u P = zl I 0 1036 [.ref a0, v1, v2, v3, v4, v5, v6] (.ref a0 :: st) u P := zl_Al h0_1035 rfl
theorem h0_1036 : xcd2 I 0 1036 = oIl 4 1038 := ch_20 (Nat.le_of_ble_eq_true rfl) rfl
theorem q0_1036 : zl I 0 1036 [v0, v1, v2, v3, .int x4, v5, v6] st u P = zl I 0 1038 [v0, v1, v2, v3, .int x4, v5, v6] (.int x4 :: st) u P := zl_Il h0_1036 rfl
theorem h0_1038 : xcd2 I 0 1038 = oI 1 1039 := ch_20 (Nat.le_of_ble_eq_true rfl) rfl
theorem q0_1038 : zl I 0 1038 [v0, v1, v2, v3, v4, v5, v6] st u P = zl I 0 1039 [v0, v1, v2, v3, v4, v5, v6] (.int 1 :: st) u P := zl_I h0_1038
theorem h0_1039 : xcd2 I 0 1039 = oB (fun x y => x + y) 1040 := ch_20 (Nat.le_of_ble_eq_true rfl) rfl
theorem q0_1039 : zl I 0 1039 [v0, v1, v2, v3, v4, v5, v6] (.int y1 :: .int y2 :: st) u P = zl I 0 1040 [v0, v1, v2, v3, v4, v5, v6] (.int (y2 + y1) :: st) u P := zl_B h0_1039
theorem h0_1040 : xcd2 I 0 1040 = oScr 1041 := ch_20 (Nat.le_of_ble_eq_true rfl) rfl
theorem q0_1040 : zl I 0 1040 [v0, v1, v2, v3, v4, v5, v6] (.int y1 :: .ref b1 :: st) u P = ((b1 = 2000000 ∧ xinb y1 (xN u 2000000)) ∧ zl I 0 1041 [v0, v1, v2, v3, v4, v5, v6] (.int (xI u 2000000 (xix y1)) :: st) u P) := zl_Scr h0_1040
theorem h0_1041 : xcd2 I 0 1041 = oAl 0 1042 := ch_20 (Nat.le_of_ble_eq_true rfl) rfl
theorem q0_1041 : zl I 0 1041 [.ref a0, v1, v2, v3, v4, v5, v6] st u P = zl I 0 1042 [.ref a0, v1, v2, v3, v4, v5, v6] (.ref a0 :: st) u P := zl_Al h0_1041 rfl
theorem h0_1042 : xcd2 I 0 1042 = oIl 4 1044 := ch_20 (Nat.le_of_ble_eq_true rfl) rfl
theorem q0_1042 : zl I 0 1042 [v0, v1, v2, v3, .int x4, v5, v6] st u P = zl I 0 1044 [v0, v1, v2, v3, .int x4, v5, v6] (.int x4 :: st) u P := zl_Il h0_1042 rfl
theorem h0_1044 : xcd2 I 0 1044 = oI 2 1045 := ch_20 (Nat.le_of_ble_eq_true rfl) rfl
theorem q0_1044 : zl I 0 1044 [v0, v1, v2, v3, v4, v5, v6] st u P = zl I 0 1045 [v0, v1, v2, v3, v4, v5, v6] (.int 2 :: st) u P := zl_I h0_1044
theorem h0_1045 : xcd2 I 0 1045 = oB (fun x y => x + y) 1046 := ch_20 (Nat.le_of_ble_eq_true rfl) rfl
theorem q0_1045 : zl I 0 1045 [v0, v1, v2, v3, v4, v5, v6] (.int y1 :: .int y2 :: st) u P = zl I 0 1046 [v0, v1, v2, v3, v4, v5, v6] (.int (y2 + y1) :: st) u P := zl_B h0_1045
theorem h0_1046 : xcd2 I 0 1046 = oScr 1047 := ch_20 (Nat.le_of_ble_eq_true rfl) rfl
theorem q0_1046 : zl I 0 1046 [v0, v1, v2, v3, v4, v5, v6] (.int y1 :: .ref b1 :: st) u P = ((b1 = 2000000 ∧ xinb y1 (xN u 2000000)) ∧ zl I 0 1047 [v0, v1, v2, v3, v4, v5, v6] (.int (xI u 2000000 (xix y1)) :: st) u P) := zl_Scr h0_1046
theorem h0_1047 : xcd2 I 0 1047 = oCalV 11 242 2 1050 := ch_20 (Nat.le_of_ble_eq_true rfl) rfl
theorem q0_1047 : zl I 0 1047 [v0, v1, v2, v3, v4, v5, v6] (.int y2 :: .int y1 :: .ref b8 :: st) u P = ((xIs u b8 11 ∧ xcat st ≤ 8) ∧ zl I 242 0 [.ref b8, .int y1, .int y2, .null, .null, .null, .null] [] u (fun r u2 => zl I 0 1050 [v0, v1, v2, v3, v4, v5, v6] (r.toList ++ st) u2 P)) := zl_CV h0_1047 rfl rfl rfl ⟨Nat.le_of_ble_eq_true rfl, Nat.succ_ne_zero _, by decide⟩ rfl
theorem h0_1050 : xcd2 I 0 1050 = oCmp (fun x y => decide (x = y)) 2238 1053 := ch_20 (Nat.le_of_ble_eq_true rfl) rfl
theorem q0_1050 : zl I 0 1050 [v0, v1, v2, v3, v4, v5, v6] (.int y1 :: .int y2 :: st) u P = (if y2 = y1 then zl I 0 2238 [v0, v1, v2, v3, v4, v5, v6] st u P else zl I 0 1053 [v0, v1, v2, v3, v4, v5, v6] st u P) := zl_Cmp h0_1050
theorem h0_1053 : xcd2 I 0 1053 = oI 0 1054 := ch_20 (Nat.le_of_ble_eq_true rfl) rfl
theorem q0_1053 : zl I 0 1053 [v0, v1, v2, v3, v4, v5, v6] st u P = zl I 0 1054 [v0, v1, v2, v3, v4, v5, v6] (.int 0 :: st) u P := zl_I h0_1053
theorem h0_1054 : xcd2 I 0 1054 = oRz 0 := ch_20 (Nat.le_of_ble_eq_true rfl) rfl
theorem q0_1054 : zl I 0 1054 [v0, v1, v2, v3, v4, v5, v6] [.int y1] u P = ((y1 = 0 ∨ y1 = 1) ∧ P (some (.int y1)) u) := zl_Rz h0_1054
theorem h0_1055 : xcd2 I 0 1055 = oAl 1 1056 := ch_20 (Nat.le_of_ble_eq_true rfl) rfl
theorem q0_1055 : zl I 0 1055 [v0, .ref a1, v2, v3, v4, v5, v6] st u P = zl I 0 1056 [v0, .ref a1, v2, v3, v4, v5, v6] (.ref a1 :: st) u P := zl_Al h0_1055 rfl
theorem h0_1056 : xcd2 I 0 1056 = oAl 0 1057 := ch_20 (Nat.le_of_ble_eq_true rfl) rfl
theorem q0_1056 : zl I 0 1056 [.ref a0, v1, v2, v3, v4, v5, v6] st u P = zl I 0 1057 [.ref a0, v1, v2, v3, v4, v5, v6] (.ref a0 :: st) u P := zl_Al h0_1056 rfl
theorem h0_1057 : xcd2 I 0 1057 = oIl 4 1059 := ch_21 (Nat.le_of_ble_eq_true rfl) rfl
theorem q0_1057 : zl I 0 1057 [v0, v1, v2, v3, .int x4, v5, v6] st u P = zl I 0 1059 [v0, v1, v2, v3, .int x4, v5, v6] (.int x4 :: st) u P := zl_Il h0_1057 rfl
theorem h0_1059 : xcd2 I 0 1059 = oI 1 1060 := ch_21 (Nat.le_of_ble_eq_true rfl) rfl
theorem q0_1059 : zl I 0 1059 [v0, v1, v2, v3, v4, v5, v6] st u P = zl I 0 1060 [v0, v1, v2, v3, v4, v5, v6] (.int 1 :: st) u P := zl_I h0_1059
theorem h0_1060 : xcd2 I 0 1060 = oB (fun x y => x + y) 1061 := ch_21 (Nat.le_of_ble_eq_true rfl) rfl
theorem q0_1060 : zl I 0 1060 [v0, v1, v2, v3, v4, v5, v6] (.int y1 :: .int y2 :: st) u P = zl I 0 1061 [v0, v1, v2, v3, v4, v5, v6] (.int (y2 + y1) :: st) u P := zl_B h0_1060
theorem h0_1061 : xcd2 I 0 1061 = oScr 1062 := ch_21 (Nat.le_of_ble_eq_true rfl) rfl
theorem q0_1061 : zl I 0 1061 [v0, v1, v2, v3, v4, v5, v6] (.int y1 :: .ref b1 :: st) u P = ((b1 = 2000000 ∧ xinb y1 (xN u 2000000)) ∧ zl I 0 1062 [v0, v1, v2, v3, v4, v5, v6] (.int (xI u 2000000 (xix y1)) :: st) u P) := zl_Scr h0_1061
theorem h0_1062 : xcd2 I 0 1062 = oAl 0 1063 := ch_21 (Nat.le_of_ble_eq_true rfl) rfl
theorem q0_1062 : zl I 0 1062 [.ref a0, v1, v2, v3, v4, v5, v6] st u P = zl I 0 1063 [.ref a0, v1, v2, v3, v4, v5, v6] (.ref a0 :: st) u P := zl_Al h0_1062 rfl
theorem h0_1063 : xcd2 I 0 1063 = oIl 4 1065 := ch_21 (Nat.le_of_ble_eq_true rfl) rfl
theorem q0_1063 : zl I 0 1063 [v0, v1, v2, v3, .int x4, v5, v6] st u P = zl I 0 1065 [v0, v1, v2, v3, .int x4, v5, v6] (.int x4 :: st) u P := zl_Il h0_1063 rfl
theorem h0_1065 : xcd2 I 0 1065 = oI 2 1066 := ch_21 (Nat.le_of_ble_eq_true rfl) rfl
theorem q0_1065 : zl I 0 1065 [v0, v1, v2, v3, v4, v5, v6] st u P = zl I 0 1066 [v0, v1, v2, v3, v4, v5, v6] (.int 2 :: st) u P := zl_I h0_1065
theorem h0_1066 : xcd2 I 0 1066 = oB (fun x y => x + y) 1067 := ch_21 (Nat.le_of_ble_eq_true rfl) rfl
theorem q0_1066 : zl I 0 1066 [v0, v1, v2, v3, v4, v5, v6] (.int y1 :: .int y2 :: st) u P = zl I 0 1067 [v0, v1, v2, v3, v4, v5, v6] (.int (y2 + y1) :: st) u P := zl_B h0_1066
theorem h0_1067 : xcd2 I 0 1067 = oScr 1068 := ch_21 (Nat.le_of_ble_eq_true rfl) rfl
theorem q0_1067 : zl I 0 1067 [v0, v1, v2, v3, v4, v5, v6] (.int y1 :: .ref b1 :: st) u P = ((b1 = 2000000 ∧ xinb y1 (xN u 2000000)) ∧ zl I 0 1068 [v0, v1, v2, v3, v4, v5, v6] (.int (xI u 2000000 (xix y1)) :: st) u P) := zl_Scr h0_1067
theorem h0_1068 : xcd2 I 0 1068 = oCalV 10 126 2 1071 := ch_21 (Nat.le_of_ble_eq_true rfl) rfl
theorem q0_1068 : zl I 0 1068 [v0, v1, v2, v3, v4, v5, v6] (.int y2 :: .int y1 :: .ref b8 :: st) u P = ((xIs u b8 10 ∧ xcat st ≤ 8) ∧ zl I 126 0 [.ref b8, .int y1, .int y2] [] u (fun r u2 => zl I 0 1071 [v0, v1, v2, v3, v4, v5, v6] (r.toList ++ st) u2 P)) := zl_CV h0_1068 rfl rfl rfl ⟨Nat.le_of_ble_eq_true rfl, Nat.succ_ne_zero _, by decide⟩ rfl
theorem h0_1071 : xcd2 I 0 1071 = oAl 2 1072 := ch_21 (Nat.le_of_ble_eq_true rfl) rfl
theorem q0_1071 : zl I 0 1071 [v0, v1, .ref a2, v3, v4, v5, v6] st u P = zl I 0 1072 [v0, v1, .ref a2, v3, v4, v5, v6] (.ref a2 :: st) u P := zl_Al h0_1071 rfl
theorem h0_1072 : xcd2 I 0 1072 = oAl 0 1073 := ch_21 (Nat.le_of_ble_eq_true rfl) rfl
theorem q0_1072 : zl I 0 1072 [.ref a0, v1, v2, v3, v4, v5, v6] st u P = zl I 0 1073 [.ref a0, v1, v2, v3, v4, v5, v6] (.ref a0 :: st) u P := zl_Al h0_1072 rfl
theorem h0_1073 : xcd2 I 0 1073 = oIl 4 1075 := ch_21 (Nat.le_of_ble_eq_true rfl) rfl
theorem q0_1073 : zl I 0 1073 [v0, v1, v2, v3, .int x4, v5, v6] st u P = zl I 0 1075 [v0, v1, v2, v3, .int x4, v5, v6] (.int x4 :: st) u P := zl_Il h0_1073 rfl
theorem h0_1075 : xcd2 I 0 1075 = oI 1 1076 := ch_21 (Nat.le_of_ble_eq_true rfl) rfl
theorem q0_1075 : zl I 0 1075 [v0, v1, v2, v3, v4, v5, v6] st u P = zl I 0 1076 [v0, v1, v2, v3, v4, v5, v6] (.int 1 :: st) u P := zl_I h0_1075
theorem h0_1076 : xcd2 I 0 1076 = oB (fun x y => x + y) 1077 := ch_21 (Nat.le_of_ble_eq_true rfl) rfl
theorem q0_1076 : zl I 0 1076 [v0, v1, v2, v3, v4, v5, v6] (.int y1 :: .int y2 :: st) u P = zl I 0 1077 [v0, v1, v2, v3, v4, v5, v6] (.int (y2 + y1) :: st) u P := zl_B h0_1076
theorem h0_1077 : xcd2 I 0 1077 = oScr 1078 := ch_21 (Nat.le_of_ble_eq_true rfl) rfl
theorem q0_1077 : zl I 0 1077 [v0, v1, v2, v3, v4, v5, v6] (.int y1 :: .ref b1 :: st) u P = ((b1 = 2000000 ∧ xinb y1 (xN u 2000000)) ∧ zl I 0 1078 [v0, v1, v2, v3, v4, v5, v6] (.int (xI u 2000000 (xix y1)) :: st) u P) := zl_Scr h0_1077
theorem h0_1078 : xcd2 I 0 1078 = oAl 0 1079 := ch_21 (Nat.le_of_ble_eq_true rfl) rfl
theorem q0_1078 : zl I 0 1078 [.ref a0, v1, v2, v3, v4, v5, v6] st u P = zl I 0 1079 [.ref a0, v1, v2, v3, v4, v5, v6] (.ref a0 :: st) u P := zl_Al h0_1078 rfl
theorem h0_1079 : xcd2 I 0 1079 = oIl 4 1081 := ch_21 (Nat.le_of_ble_eq_true rfl) rfl
theorem q0_1079 : zl I 0 1079 [v0, v1, v2, v3, .int x4, v5, v6] st u P = zl I 0 1081 [v0, v1, v2, v3, .int x4, v5, v6] (.int x4 :: st) u P := zl_Il h0_1079 rfl
theorem h0_1081 : xcd2 I 0 1081 = oI 2 1082 := ch_21 (Nat.le_of_ble_eq_true rfl) rfl
theorem q0_1081 : zl I 0 1081 [v0, v1, v2, v3, v4, v5, v6] st u P = zl I 0 1082 [v0, v1, v2, v3, v4, v5, v6] (.int 2 :: st) u P := zl_I h0_1081
theorem h0_1082 : xcd2 I 0 1082 = oB (fun x y => x + y) 1083 := ch_21 (Nat.le_of_ble_eq_true rfl) rfl
theorem q0_1082 : zl I 0 1082 [v0, v1, v2, v3, v4, v5, v6] (.int y1 :: .int y2 :: st) u P = zl I 0 1083 [v0, v1, v2, v3, v4, v5, v6] (.int (y2 + y1) :: st) u P := zl_B h0_1082
theorem h0_1083 : xcd2 I 0 1083 = oScr 1084 := ch_21 (Nat.le_of_ble_eq_true rfl) rfl
theorem q0_1083 : zl I 0 1083 [v0, v1, v2, v3, v4, v5, v6] (.int y1 :: .ref b1 :: st) u P = ((b1 = 2000000 ∧ xinb y1 (xN u 2000000)) ∧ zl I 0 1084 [v0, v1, v2, v3, v4, v5, v6] (.int (xI u 2000000 (xix y1)) :: st) u P) := zl_Scr h0_1083
theorem h0_1084 : xcd2 I 0 1084 = oCalV 11 243 2 1087 := ch_21 (Nat.le_of_ble_eq_true rfl) rfl
theorem q0_1084 : zl I 0 1084 [v0, v1, v2, v3, v4, v5, v6] (.int y2 :: .int y1 :: .ref b8 :: st) u P = ((xIs u b8 11 ∧ xcat st ≤ 8) ∧ zl I 243 0 [.ref b8, .int y1, .int y2, .null, .null, .null] [] u (fun r u2 => zl I 0 1087 [v0, v1, v2, v3, v4, v5, v6] (r.toList ++ st) u2 P)) := zl_CV h0_1084 rfl rfl rfl ⟨Nat.le_of_ble_eq_true rfl, Nat.succ_ne_zero _, by decide⟩ rfl
theorem h0_1087 : xcd2 I 0 1087 = oCmp (fun x y => decide (x = y)) 2238 1090 := ch_21 (Nat.le_of_ble_eq_true rfl) rfl
theorem q0_1087 : zl I 0 1087 [v0, v1, v2, v3, v4, v5, v6] (.int y1 :: .int y2 :: st) u P = (if y2 = y1 then zl I 0 2238 [v0, v1, v2, v3, v4, v5, v6] st u P else zl I 0 1090 [v0, v1, v2, v3, v4, v5, v6] st u P) := zl_Cmp h0_1087
theorem h0_1090 : xcd2 I 0 1090 = oI 0 1091 := ch_21 (Nat.le_of_ble_eq_true rfl) rfl
theorem q0_1090 : zl I 0 1090 [v0, v1, v2, v3, v4, v5, v6] st u P = zl I 0 1091 [v0, v1, v2, v3, v4, v5, v6] (.int 0 :: st) u P := zl_I h0_1090
theorem h0_1091 : xcd2 I 0 1091 = oRz 0 := ch_21 (Nat.le_of_ble_eq_true rfl) rfl
theorem q0_1091 : zl I 0 1091 [v0, v1, v2, v3, v4, v5, v6] [.int y1] u P = ((y1 = 0 ∨ y1 = 1) ∧ P (some (.int y1)) u) := zl_Rz h0_1091
theorem h0_1092 : xcd2 I 0 1092 = oAl 1 1093 := ch_21 (Nat.le_of_ble_eq_true rfl) rfl
theorem q0_1092 : zl I 0 1092 [v0, .ref a1, v2, v3, v4, v5, v6] st u P = zl I 0 1093 [v0, .ref a1, v2, v3, v4, v5, v6] (.ref a1 :: st) u P := zl_Al h0_1092 rfl
theorem h0_1093 : xcd2 I 0 1093 = oAl 0 1094 := ch_21 (Nat.le_of_ble_eq_true rfl) rfl
theorem q0_1093 : zl I 0 1093 [.ref a0, v1, v2, v3, v4, v5, v6] st u P = zl I 0 1094 [.ref a0, v1, v2, v3, v4, v5, v6] (.ref a0 :: st) u P := zl_Al h0_1093 rfl
theorem h0_1094 : xcd2 I 0 1094 = oIl 4 1096 := ch_21 (Nat.le_of_ble_eq_true rfl) rfl
theorem q0_1094 : zl I 0 1094 [v0, v1, v2, v3, .int x4, v5, v6] st u P = zl I 0 1096 [v0, v1, v2, v3, .int x4, v5, v6] (.int x4 :: st) u P := zl_Il h0_1094 rfl
theorem h0_1096 : xcd2 I 0 1096 = oI 1 1097 := ch_21 (Nat.le_of_ble_eq_true rfl) rfl
theorem q0_1096 : zl I 0 1096 [v0, v1, v2, v3, v4, v5, v6] st u P = zl I 0 1097 [v0, v1, v2, v3, v4, v5, v6] (.int 1 :: st) u P := zl_I h0_1096
theorem h0_1097 : xcd2 I 0 1097 = oB (fun x y => x + y) 1098 := ch_21 (Nat.le_of_ble_eq_true rfl) rfl
theorem q0_1097 : zl I 0 1097 [v0, v1, v2, v3, v4, v5, v6] (.int y1 :: .int y2 :: st) u P = zl I 0 1098 [v0, v1, v2, v3, v4, v5, v6] (.int (y2 + y1) :: st) u P := zl_B h0_1097
theorem h0_1098 : xcd2 I 0 1098 = oScr 1099 := ch_22 (Nat.le_of_ble_eq_true rfl) rfl
theorem q0_1098 : zl I 0 1098 [v0, v1, v2, v3, v4, v5, v6] (.int y1 :: .ref b1 :: st) u P = ((b1 = 2000000 ∧ xinb y1 (xN u 2000000)) ∧ zl I 0 1099 [v0, v1, v2, v3, v4, v5, v6] (.int (xI u 2000000 (xix y1)) :: st) u P) := zl_Scr h0_1098
theorem h0_1099 : xcd2 I 0 1099 = oAl 0 1100 := ch_22 (Nat.le_of_ble_eq_true rfl) rfl
theorem q0_1099 : zl I 0 1099 [.ref a0, v1, v2, v3, v4, v5, v6] st u P = zl I 0 1100 [.ref a0, v1, v2, v3, v4, v5, v6] (.ref a0 :: st) u P := zl_Al h0_1099 rfl
theorem h0_1100 : xcd2 I 0 1100 = oIl 4 1102 := ch_22 (Nat.le_of_ble_eq_true rfl) rfl
theorem q0_1100 : zl I 0 1100 [v0, v1, v2, v3, .int x4, v5, v6] st u P = zl I 0 1102 [v0, v1, v2, v3, .int x4, v5, v6] (.int x4 :: st) u P := zl_Il h0_1100 rfl
theorem h0_1102 : xcd2 I 0 1102 = oI 2 1103 := ch_22 (Nat.le_of_ble_eq_true rfl) rfl
theorem q0_1102 : zl I 0 1102 [v0, v1, v2, v3, v4, v5, v6] st u P = zl I 0 1103 [v0, v1, v2, v3, v4, v5, v6] (.int 2 :: st) u P := zl_I h0_1102
theorem h0_1103 : xcd2 I 0 1103 = oB (fun x y => x + y) 1104 := ch_22 (Nat.le_of_ble_eq_true rfl) rfl
theorem q0_1103 : zl I 0 1103 [v0, v1, v2, v3, v4, v5, v6] (.int y1 :: .int y2 :: st) u P = zl I 0 1104 [v0, v1, v2, v3, v4, v5, v6] (.int (y2 + y1) :: st) u P := zl_B h0_1103
theorem h0_1104 : xcd2 I 0 1104 = oScr 1105 := ch_22 (Nat.le_of_ble_eq_true rfl) rfl
theorem q0_1104 : zl I 0 1104 [v0, v1, v2, v3, v4, v5, v6] (.int y1 :: .ref b1 :: st) u P = ((b1 = 2000000 ∧ xinb y1 (xN u 2000000)) ∧ zl I 0 1105 [v0, v1, v2, v3, v4, v5, v6] (.int (xI u 2000000 (xix y1)) :: st) u P) := zl_Scr h0_1104
theorem h0_1105 : xcd2 I 0 1105 = oAl 0 1106 := ch_22 (Nat.le_of_ble_eq_true rfl) rfl
theorem q0_1105 : zl I 0 1105 [.ref a0, v1, v2, v3, v4, v5, v6] st u P = zl I 0 1106 [.ref a0, v1, v2, v3, v4, v5, v6] (.ref a0 :: st) u P := zl_Al h0_1105 rfl
theorem h0_1106 : xcd2 I 0 1106 = oIl 4 1108 := ch_22 (Nat.le_of_ble_eq_true rfl) rfl
theorem q0_1106 : zl I 0 1106 [v0, v1, v2, v3, .int x4, v5, v6] st u P = zl I 0 1108 [v0, v1, v2, v3, .int x4, v5, v6] (.int x4 :: st) u P := zl_Il h0_1106 rfl
theorem h0_1108 : xcd2 I 0 1108 = oI 3 1109 := ch_22 (Nat.le_of_ble_eq_true rfl) rfl
theorem q0_1108 : zl I 0 1108 [v0, v1, v2, v3, v4, v5, v6] st u P = zl I 0 1109 [v0, v1, v2, v3, v4, v5, v6] (.int 3 :: st) u P := zl_I h0_1108
theorem h0_1109 : xcd2 I 0 1109 = oB (fun x y => x + y) 1110 := ch_22 (Nat.le_of_ble_eq_true rfl) rfl
theorem q0_1109 : zl I 0 1109 [v0, v1, v2, v3, v4, v5, v6] (.int y1 :: .int y2 :: st) u P = zl I 0 1110 [v0, v1, v2, v3, v4, v5, v6] (.int (y2 + y1) :: st) u P := zl_B h0_1109
theorem h0_1110 : xcd2 I 0 1110 = oScr 1111 := ch_22 (Nat.le_of_ble_eq_true rfl) rfl
theorem q0_1110 : zl I 0 1110 [v0, v1, v2, v3, v4, v5, v6] (.int y1 :: .ref b1 :: st) u P = ((b1 = 2000000 ∧ xinb y1 (xN u 2000000)) ∧ zl I 0 1111 [v0, v1, v2, v3, v4, v5, v6] (.int (xI u 2000000 (xix y1)) :: st) u P) := zl_Scr h0_1110
theorem h0_1111 : xcd2 I 0 1111 = oCalV 10 127 3 1114 := ch_22 (Nat.le_of_ble_eq_true rfl) rfl
theorem q0_1111 : zl I 0 1111 [v0, v1, v2, v3, v4, v5, v6] (.int y3 :: .int y2 :: .int y1 :: .ref b8 :: st) u P = ((xIs u b8 10 ∧ xcat st ≤ 8) ∧ zl I 127 0 [.ref b8, .int y1, .int y2, .int y3] [] u (fun r u2 => zl I 0 1114 [v0, v1, v2, v3, v4, v5, v6] (r.toList ++ st) u2 P)) := zl_CV h0_1111 rfl rfl rfl ⟨Nat.le_of_ble_eq_true rfl, Nat.succ_ne_zero _, by decide⟩ rfl
theorem h0_1114 : xcd2 I 0 1114 = oAl 2 1115 := ch_22 (Nat.le_of_ble_eq_true rfl) rfl
theorem q0_1114 : zl I 0 1114 [v0, v1, .ref a2, v3, v4, v5, v6] st u P = zl I 0 1115 [v0, v1, .ref a2, v3, v4, v5, v6] (.ref a2 :: st) u P := zl_Al h0_1114 rfl
theorem h0_1115 : xcd2 I 0 1115 = oAl 0 1116 := ch_22 (Nat.le_of_ble_eq_true rfl) rfl
theorem q0_1115 : zl I 0 1115 [.ref a0, v1, v2, v3, v4, v5, v6] st u P = zl I 0 1116 [.ref a0, v1, v2, v3, v4, v5, v6] (.ref a0 :: st) u P := zl_Al h0_1115 rfl
theorem h0_1116 : xcd2 I 0 1116 = oIl 4 1118 := ch_22 (Nat.le_of_ble_eq_true rfl) rfl
theorem q0_1116 : zl I 0 1116 [v0, v1, v2, v3, .int x4, v5, v6] st u P = zl I 0 1118 [v0, v1, v2, v3, .int x4, v5, v6] (.int x4 :: st) u P := zl_Il h0_1116 rfl
theorem h0_1118 : xcd2 I 0 1118 = oI 1 1119 := ch_22 (Nat.le_of_ble_eq_true rfl) rfl
theorem q0_1118 : zl I 0 1118 [v0, v1, v2, v3, v4, v5, v6] st u P = zl I 0 1119 [v0, v1, v2, v3, v4, v5, v6] (.int 1 :: st) u P := zl_I h0_1118
theorem h0_1119 : xcd2 I 0 1119 = oB (fun x y => x + y) 1120 := ch_22 (Nat.le_of_ble_eq_true rfl) rfl
theorem q0_1119 : zl I 0 1119 [v0, v1, v2, v3, v4, v5, v6] (.int y1 :: .int y2 :: st) u P = zl I 0 1120 [v0, v1, v2, v3, v4, v5, v6] (.int (y2 + y1) :: st) u P := zl_B h0_1119
theorem h0_1120 : xcd2 I 0 1120 = oScr 1121 := ch_22 (Nat.le_of_ble_eq_true rfl) rfl
theorem q0_1120 : zl I 0 1120 [v0, v1, v2, v3, v4, v5, v6] (.int y1 :: .ref b1 :: st) u P = ((b1 = 2000000 ∧ xinb y1 (xN u 2000000)) ∧ zl I 0 1121 [v0, v1, v2, v3, v4, v5, v6] (.int (xI u 2000000 (xix y1)) :: st) u P) := zl_Scr h0_1120
theorem h0_1121 : xcd2 I 0 1121 = oAl 0 1122 := ch_22 (Nat.le_of_ble_eq_true rfl) rfl
theorem q0_1121 : zl I 0 1121 [.ref a0, v1, v2, v3, v4, v5, v6] st u P = zl I 0 1122 [.ref a0, v1, v2, v3, v4, v5, v6] (.ref a0 :: st) u P := zl_Al h0_1121 rfl
theorem h0_1122 : xcd2 I 0 1122 = oIl 4 1124 := ch_22 (Nat.le_of_ble_eq_true rfl) rfl
theorem q0_1122 : zl I 0 1122 [v0, v1, v2, v3, .int x4, v5, v6] st u P = zl I 0 1124 [v0, v1, v2, v3, .int x4, v5, v6] (.int x4 :: st) u P := zl_Il h0_1122 rfl
theorem h0_1124 : xcd2 I 0 1124 = oI 2 1125 := ch_22 (Nat.le_of_ble_eq_true rfl) rfl
theorem q0_1124 : zl I 0 1124 [v0, v1, v2, v3, v4, v5, v6] st u P = zl I 0 1125 [v0, v1, v2, v3, v4, v5, v6] (.int 2 :: st) u P := zl_I h0_1124
theorem h0_1125 : xcd2 I 0 1125 = oB (fun x y => x + y) 1126 := ch_22 (Nat.le_of_ble_eq_true rfl) rfl
theorem q0_1125 : zl I 0 1125 [v0, v1, v2, v3, v4, v5, v6] (.int y1 :: .int y2 :: st) u P = zl I 0 1126 [v0, v1, v2, v3, v4, v5, v6] (.int (y2 + y1) :: st) u P := zl_B h0_1125
theorem h0_1126 : xcd2 I 0 1126 = oScr 1127 := ch_22 (Nat.le_of_ble_eq_true rfl) rfl
theorem q0_1126 : zl I 0 1126 [v0, v1, v2, v3, v4, v5, v6] (.int y1 :: .ref b1 :: st) u P = ((b1 = 2000000 ∧ xinb y1 (xN u 2000000)) ∧ zl I 0 1127 [v0, v1, v2, v3, v4, v5, v6] (.int (xI u 2000000 (xix y1)) :: st) u P) := zl_Scr h0_1126
theorem h0_1127 : xcd2 I 0 1127 = oAl 0 1128 := ch_22 (Nat.le_of_ble_eq_true rfl) rfl
theorem q0_1127 : zl I 0 1127 [.ref a0, v1, v2, v3, v4, v5, v6] st u P = zl I 0 1128 [.ref a0, v1, v2, v3, v4, v5, v6] (.ref a0 :: st) u P := zl_Al h0_1127 rfl
theorem h0_1128 : xcd2 I 0 1128 = oIl 4 1130 := ch_22 (Nat.le_of_ble_eq_true rfl) rfl
theorem q0_1128 : zl I 0 1128 [v0, v1, v2, v3, .int x4, v5, v6] st u P = zl I 0 1130 [v0, v1, v2, v3, .int x4, v5, v6] (.int x4 :: st) u P := zl_Il h0_1128 rfl
theorem h0_1130 : xcd2 I 0 1130 = oI 3 1131 := ch_22 (Nat.le_of_ble_eq_true rfl) rfl
theorem q0_1130 : zl I 0 1130 [v0, v1, v2, v3, v4, v5, v6] st u P = zl I 0 1131 [v0, v1, v2, v3, v4, v5, v6] (.int 3 :: st) u P := zl_I h0_1130
theorem h0_1131 : xcd2 I 0 1131 = oB (fun x y => x + y) 1132 := ch_22 (Nat.le_of_ble_eq_true rfl) rfl
theorem q0_1131 : zl I 0 1131 [v0, v1, v2, v3, v4, v5, v6] (.int y1 :: .int y2 :: st) u P = zl I 0 1132 [v0, v1, v2, v3, v4, v5, v6] (.int (y2 + y1) :: st) u P := zl_B h0_1131
theorem h0_1132 : xcd2 I 0 1132 = oScr 1133 := ch_22 (Nat.le_of_ble_eq_true rfl) rfl
theorem q0_1132 : zl I 0 1132 [v0, v1, v2, v3, v4, v5, v6] (.int y1 :: .ref b1 :: st) u P = ((b1 = 2000000 ∧ xinb y1 (xN u 2000000)) ∧ zl I 0 1133 [v0, v1, v2, v3, v4, v5, v6] (.int (xI u 2000000 (xix y1)) :: st) u P) := zl_Scr h0_1132
theorem h0_1133 : xcd2 I 0 1133 = oCalV 11 249 3 1136 := ch_22 (Nat.le_of_ble_eq_true rfl) rfl
theorem q0_1133 : zl I 0 1133 [v0, v1, v2, v3, v4, v5, v6] (.int y3 :: .int y2 :: .int y1 :: .ref b8 :: st) u P = ((xIs u b8 11 ∧ xcat st ≤ 8) ∧ zl I 249 0 [.ref b8, .int y1, .int y2, .int y3, .null] [] u (fun r u2 => zl I 0 1136 [v0, v1, v2, v3, v4, v5, v6] (r.toList ++ st) u2 P)) := zl_CV h0_1133 rfl rfl rfl ⟨Nat.le_of_ble_eq_true rfl, Nat.succ_ne_zero _, by decide⟩ rfl
theorem h0_1136 : xcd2 I 0 1136 = oCmp (fun x y => decide (x = y)) 2238 1139 := ch_22 (Nat.le_of_ble_eq_true rfl) rfl
theorem q0_1136 : zl I 0 1136 [v0, v1, v2, v3, v4, v5, v6] (.int y1 :: .int y2 :: st) u P = (if y2 = y1 then zl I 0 2238 [v0, v1, v2, v3, v4, v5, v6] st u P else zl I 0 1139 [v0, v1, v2, v3, v4, v5, v6] st u P) := zl_Cmp h0_1136
theorem h0_1139 : xcd2 I 0 1139 = oI 0 1140 := ch_23 (Nat.le_of_ble_eq_true rfl) rfl
theorem q0_1139 : zl I 0 1139 [v0, v1, v2, v3, v4, v5, v6] st u P = zl I 0 1140 [v0, v1, v2, v3, v4, v5, v6] (.int 0 :: st) u P := zl_I h0_1139
theorem h0_1140 : xcd2 I 0 1140 = oRz 0 := ch_23 (Nat.le_of_ble_eq_true rfl) rfl
theorem q0_1140 : zl I 0 1140 [v0, v1, v2, v3, v4, v5, v6] [.int y1] u P = ((y1 = 0 ∨ y1 = 1) ∧ P (some (.int y1)) u) := zl_Rz h0_1140
theorem h0_1141 : xcd2 I 0 1141 = oAl 1 1142 := ch_23 (Nat.le_of_ble_eq_true rfl) rfl
theorem q0_1141 : zl I 0 1141 [v0, .ref a1, v2, v3, v4, v5, v6] st u P = zl I 0 1142 [v0, .ref a1, v2, v3, v4, v5, v6] (.ref a1 :: st) u P := zl_Al h0_1141 rfl
theorem h0_1142 : xcd2 I 0 1142 = oAl 0 1143 := ch_23 (Nat.le_of_ble_eq_true rfl) rfl
theorem q0_1142 : zl I 0 1142 [.ref a0, v1, v2, v3, v4, v5, v6] st u P = zl I 0 1143 [.ref a0, v1, v2, v3, v4, v5, v6] (.ref a0 :: st) u P := zl_Al h0_1142 rfl
theorem h0_1143 : xcd2 I 0 1143 = oIl 4 1145 := ch_23 (Nat.le_of_ble_eq_true rfl) rfl
theorem q0_1143 : zl I 0 1143 [v0, v1, v2, v3, .int x4, v5, v6] st u P = zl I 0 1145 [v0, v1, v2, v3, .int x4, v5, v6] (.int x4 :: st) u P := zl_Il h0_1143 rfl
theorem h0_1145 : xcd2 I 0 1145 = oI 1 1146 := ch_23 (Nat.le_of_ble_eq_true rfl) rfl
theorem q0_1145 : zl I 0 1145 [v0, v1, v2, v3, v4, v5, v6] st u P = zl I 0 1146 [v0, v1, v2, v3, v4, v5, v6] (.int 1 :: st) u P := zl_I h0_1145
theorem h0_1146 : xcd2 I 0 1146 = oB (fun x y => x + y) 1147 := ch_23 (Nat.le_of_ble_eq_true rfl) rfl
theorem q0_1146 : zl I 0 1146 [v0, v1, v2, v3, v4, v5, v6] (.int y1 :: .int y2 :: st) u P = zl I 0 1147 [v0, v1, v2, v3, v4, v5, v6] (.int (y2 + y1) :: st) u P := zl_B h0_1146
theorem h0_1147 : xcd2 I 0 1147 = oScr 1148 := ch_23 (Nat.le_of_ble_eq_true rfl) rfl
theorem q0_1147 : zl I 0 1147 [v0, v1, v2, v3, v4, v5, v6] (.int y1 :: .ref b1 :: st) u P = ((b1 = 2000000 ∧ xinb y1 (xN u 2000000)) ∧ zl I 0 1148 [v0, v1, v2, v3, v4, v5, v6] (.int (xI u 2000000 (xix y1)) :: st) u P) := zl_Scr h0_1147
theorem h0_1148 : xcd2 I 0 1148 = oAl 0 1149 := ch_23 (Nat.le_of_ble_eq_true rfl) rfl
theorem q0_1148 : zl I 0 1148 [.ref a0, v1, v2, v3, v4, v5, v6] st u P = zl I 0 1149 [.ref a0, v1, v2, v3, v4, v5, v6] (.ref a0 :: st) u P := zl_Al h0_1148 rfl
theorem h0_1149 : xcd2 I 0 1149 = oIl 4 1151 := ch_23 (Nat.le_of_ble_eq_true rfl) rfl
theorem q0_1149 : zl I 0 1149 [v0, v1, v2, v3, .int x4, v5, v6] st u P = zl I 0 1151 [v0, v1, v2, v3, .int x4, v5, v6] (.int x4 :: st) u P := zl_Il h0_1149 rfl
theorem h0_1151 : xcd2 I 0 1151 = oI 2 1152 := ch_23 (Nat.le_of_ble_eq_true rfl) rfl
theorem q0_1151 : zl I 0 1151 [v0, v1, v2, v3, v4, v5, v6] st u P = zl I 0 1152 [v0, v1, v2, v3, v4, v5, v6] (.int 2 :: st) u P := zl_I h0_1151
theorem h0_1152 : xcd2 I 0 1152 = oB (fun x y => x + y) 1153 := ch_23 (Nat.le_of_ble_eq_true rfl) rfl
theorem q0_1152 : zl I 0 1152 [v0, v1, v2, v3, v4, v5, v6] (.int y1 :: .int y2 :: st) u P = zl I 0 1153 [v0, v1, v2, v3, v4, v5, v6] (.int (y2 + y1) :: st) u P := zl_B h0_1152
theorem h0_1153 : xcd2 I 0 1153 = oScr 1154 := ch_23 (Nat.le_of_ble_eq_true rfl) rfl
theorem q0_1153 : zl I 0 1153 [v0, v1, v2, v3, v4, v5, v6] (.int y1 :: .ref b1 :: st) u P = ((b1 = 2000000 ∧ xinb y1 (xN u 2000000)) ∧ zl I 0 1154 [v0, v1, v2, v3, v4, v5, v6] (.int (xI u 2000000 (xix y1)) :: st) u P) := zl_Scr h0_1153
theorem h0_1154 : xcd2 I 0 1154 = oAl 0 1155 := ch_23 (Nat.le_of_ble_eq_true rfl) rfl
theorem q0_1154 : zl I 0 1154 [.ref a0, v1, v2, v3, v4, v5, v6] st u P = zl I 0 1155 [.ref a0, v1, v2, v3, v4, v5, v6] (.ref a0 :: st) u P := zl_Al h0_1154 rfl
theorem h0_1155 : xcd2 I 0 1155 = oIl 4 1157 := ch_23 (Nat.le_of_ble_eq_true rfl) rfl
theorem q0_1155 : zl I 0 1155 [v0, v1, v2, v3, .int x4, v5, v6] st u P = zl I 0 1157 [v0, v1, v2, v3, .int x4, v5, v6] (.int x4 :: st) u P := zl_Il h0_1155 rfl
theorem h0_1157 : xcd2 I 0 1157 = oI 3 1158 := ch_23 (Nat.le_of_ble_eq_true rfl) rfl
theorem q0_1157 : zl I 0 1157 [v0, v1, v2, v3, v4, v5, v6] st u P = zl I 0 1158 [v0, v1, v2, v3, v4, v5, v6] (.int 3 :: st) u P := zl_I h0_1157
theorem h0_1158 : xcd2 I 0 1158 = oB (fun x y => x + y) 1159 := ch_23 (Nat.le_of_ble_eq_true rfl) rfl
theorem q0_1158 : zl I 0 1158 [v0, v1, v2, v3, v4, v5, v6] (.int y1 :: .int y2 :: st) u P = zl I 0 1159 [v0, v1, v2, v3, v4, v5, v6] (.int (y2 + y1) :: st) u P := zl_B h0_1158
theorem h0_1159 : xcd2 I 0 1159 = oScr 1160 := ch_23 (Nat.le_of_ble_eq_true rfl) rfl
theorem q0_1159 : zl I 0 1159 [v0, v1, v2, v3, v4, v5, v6] (.int y1 :: .ref b1 :: st) u P = ((b1 = 2000000 ∧ xinb y1 (xN u 2000000)) ∧ zl I 0 1160 [v0, v1, v2, v3, v4, v5, v6] (.int (xI u 2000000 (xix y1)) :: st) u P) := zl_Scr h0_1159
theorem h0_1160 : xcd2 I 0 1160 = oAl 0 1161 := ch_23 (Nat.le_of_ble_eq_true rfl) rfl
theorem q0_1160 : zl I 0 1160 [.ref a0, v1, v2, v3, v4, v5, v6] st u P = zl I 0 1161 [.ref a0, v1, v2, v3, v4, v5, v6] (.ref a0 :: st) u P := zl_Al h0_1160 rfl
theorem h0_1161 : xcd2 I 0 1161 = oIl 4 1163 := ch_23 (Nat.le_of_ble_eq_true rfl) rfl
theorem q0_1161 : zl I 0 1161 [v0, v1, v2, v3, .int x4, v5, v6] st u P = zl I 0 1163 [v0, v1, v2, v3, .int x4, v5, v6] (.int x4 :: st) u P := zl_Il h0_1161 rfl
theorem h0_1163 : xcd2 I 0 1163 = oI 4 1164 := ch_23 (Nat.le_of_ble_eq_true rfl) rfl
theorem q0_1163 : zl I 0 1163 [v0, v1, v2, v3, v4, v5, v6] st u P = zl I 0 1164 [v0, v1, v2, v3, v4, v5, v6] (.int 4 :: st) u P := zl_I h0_1163
theorem h0_1164 : xcd2 I 0 1164 = oB (fun x y => x + y) 1165 := ch_23 (Nat.le_of_ble_eq_true rfl) rfl
theorem q0_1164 : zl I 0 1164 [v0, v1, v2, v3, v4, v5, v6] (.int y1 :: .int y2 :: st) u P = zl I 0 1165 [v0, v1, v2, v3, v4, v5, v6] (.int (y2 + y1) :: st) u P := zl_B h0_1164
theorem h0_1165 : xcd2 I 0 1165 = oScr 1166 := ch_23 (Nat.le_of_ble_eq_true rfl) rfl
theorem q0_1165 : zl I 0 1165 [v0, v1, v2, v3, v4, v5, v6] (.int y1 :: .ref b1 :: st) u P = ((b1 = 2000000 ∧ xinb y1 (xN u 2000000)) ∧ zl I 0 1166 [v0, v1, v2, v3, v4, v5, v6] (.int (xI u 2000000 (xix y1)) :: st) u P) := zl_Scr h0_1165
theorem h0_1166 : xcd2 I 0 1166 = oCalV 10 128 4 1169 := ch_23 (Nat.le_of_ble_eq_true rfl) rfl
theorem q0_1166 : zl I 0 1166 [v0, v1, v2, v3, v4, v5, v6] (.int y4 :: .int y3 :: .int y2 :: .int y1 :: .ref b8 :: st) u P = ((xIs u b8 10 ∧ xcat st ≤ 8) ∧ zl I 128 0 [.ref b8, .int y1, .int y2, .int y3, .int y4] [] u (fun r u2 => zl I 0 1169 [v0, v1, v2, v3, v4, v5, v6] (r.toList ++ st) u2 P)) := zl_CV h0_1166 rfl rfl rfl ⟨Nat.le_of_ble_eq_true rfl, Nat.succ_ne_zero _, by decide⟩ rfl
theorem h0_1169 : xcd2 I 0 1169 = oAl 2 1170 := ch_23 (Nat.le_of_ble_eq_true rfl) rfl
theorem q0_1169 : zl I 0 1169 [v0, v1, .ref a2, v3, v4, v5, v6] st u P = zl I 0 1170 [v0, v1, .ref a2, v3, v4, v5, v6] (.ref a2 :: st) u P := zl_Al h0_1169 rfl
theorem h0_1170 : xcd2 I 0 1170 = oAl 0 1171 := ch_23 (Nat.le_of_ble_eq_true rfl) rfl
theorem q0_1170 : zl I 0 1170 [.ref a0, v1, v2, v3, v4, v5, v6] st u P = zl I 0 1171 [.ref a0, v1, v2, v3, v4, v5, v6] (.ref a0 :: st) u P := zl_Al h0_1170 rfl
theorem h0_1171 : xcd2 I 0 1171 = oIl 4 1173 := ch_23 (Nat.le_of_ble_eq_true rfl) rfl
theorem q0_1171 : zl I 0 1171 [v0, v1, v2, v3, .int x4, v5, v6] st u P = zl I 0 1173 [v0, v1, v2, v3, .int x4, v5, v6] (.int x4 :: st) u P := zl_Il h0_1171 rfl
theorem h0_1173 : xcd2 I 0 1173 = oI 1 1174 := ch_23 (Nat.le_of_ble_eq_true rfl) rfl
theorem q0_1173 : zl I 0 1173 [v0, v1, v2, v3, v4, v5, v6] st u P = zl I 0 1174 [v0, v1, v2, v3, v4, v5, v6] (.int 1 :: st) u P := zl_I h0_1173
theorem h0_1174 : xcd2 I 0 1174 = oB (fun x y => x + y) 1175 := ch_23 (Nat.le_of_ble_eq_true rfl) rfl
theorem q0_1174 : zl I 0 1174 [v0, v1, v2, v3, v4, v5, v6] (.int y1 :: .int y2 :: st) u P = zl I 0 1175 [v0, v1, v2, v3, v4, v5, v6] (.int (y2 + y1) :: st) u P := zl_B h0_1174
theorem h0_1175 : xcd2 I 0 1175 = oScr 1176 := ch_23 (Nat.le_of_ble_eq_true rfl) rfl
theorem q0_1175 : zl I 0 1175 [v0, v1, v2, v3, v4, v5, v6] (.int y1 :: .ref b1 :: st) u P = ((b1 = 2000000 ∧ xinb y1 (xN u 2000000)) ∧ zl I 0 1176 [v0, v1, v2, v3, v4, v5, v6] (.int (xI u 2000000 (xix y1)) :: st) u P) := zl_Scr h0_1175
theorem h0_1176 : xcd2 I 0 1176 = oAl 0 1177 := ch_24 (Nat.le_of_ble_eq_true rfl) rfl
theorem q0_1176 : zl I 0 1176 [.ref a0, v1, v2, v3, v4, v5, v6] st u P = zl I 0 1177 [.ref a0, v1, v2, v3, v4, v5, v6] (.ref a0 :: st) u P := zl_Al h0_1176 rfl
theorem h0_1177 : xcd2 I 0 1177 = oIl 4 1179 := ch_24 (Nat.le_of_ble_eq_true rfl) rfl
theorem q0_1177 : zl I 0 1177 [v0, v1, v2, v3, .int x4, v5, v6] st u P = zl I 0 1179 [v0, v1, v2, v3, .int x4, v5, v6] (.int x4 :: st) u P := zl_Il h0_1177 rfl
theorem h0_1179 : xcd2 I 0 1179 = oI 2 1180 := ch_24 (Nat.le_of_ble_eq_true rfl) rfl
theorem q0_1179 : zl I 0 1179 [v0, v1, v2, v3, v4, v5, v6] st u P = zl I 0 1180 [v0, v1, v2, v3, v4, v5, v6] (.int 2 :: st) u P := zl_I h0_1179
theorem h0_1180 : xcd2 I 0 1180 = oB (fun x y => x + y) 1181 := ch_24 (Nat.le_of_ble_eq_true rfl) rfl
theorem q0_1180 : zl I 0 1180 [v0, v1, v2, v3, v4, v5, v6] (.int y1 :: .int y2 :: st) u P = zl I 0 1181 [v0, v1, v2, v3, v4, v5, v6] (.int (y2 + y1) :: st) u P := zl_B h0_1180
theorem h0_1181 : xcd2 I 0 1181 = oScr 1182 := ch_24 (Nat.le_of_ble_eq_true rfl) rfl
theorem q0_1181 : zl I 0 1181 [v0, v1, v2, v3, v4, v5, v6] (.int y1 :: .ref b1 :: st) u P = ((b1 = 2000000 ∧ xinb y1 (xN u 2000000)) ∧ zl I 0 1182 [v0, v1, v2, v3, v4, v5, v6] (.int (xI u 2000000 (xix y1)) :: st) u P) := zl_Scr h0_1181
theorem h0_1182 : xcd2 I 0 1182 = oAl 0 1183 := ch_24 (Nat.le_of_ble_eq_true rfl) rfl
theorem q0_1182 : zl I 0 1182 [.ref a0, v1, v2, v3, v4, v5, v6] st u P = zl I 0 1183 [.ref a0, v1, v2, v3, v4, v5, v6] (.ref a0 :: st) u P := zl_Al h0_1182 rfl
theorem h0_1183 : xcd2 I 0 1183 = oIl 4 1185 := ch_24 (Nat.le_of_ble_eq_true rfl) rfl
theorem q0_1183 : zl I 0 1183 [v0, v1, v2, v3, .int x4, v5, v6] st u P = zl I 0 1185 [v0, v1, v2, v3, .int x4, v5, v6] (.int x4 :: st) u P := zl_Il h0_1183 rfl
theorem h0_1185 : xcd2 I 0 1185 = oI 3 1186 := ch_24 (Nat.le_of_ble_eq_true rfl) rfl
theorem q0_1185 : zl I 0 1185 [v0, v1, v2, v3, v4, v5, v6] st u P = zl I 0 1186 [v0, v1, v2, v3, v4, v5, v6] (.int 3 :: st) u P := zl_I h0_1185
theorem h0_1186 : xcd2 I 0 1186 = oB (fun x y => x + y) 1187 := ch_24 (Nat.le_of_ble_eq_true rfl) rfl
theorem q0_1186 : zl I 0 1186 [v0, v1, v2, v3, v4, v5, v6] (.int y1 :: .int y2 :: st) u P = zl I 0 1187 [v0, v1, v2, v3, v4, v5, v6] (.int (y2 + y1) :: st) u P := zl_B h0_1186
theorem h0_1187 : xcd2 I 0 1187 = oScr 1188 := ch_24 (Nat.le_of_ble_eq_true rfl) rfl
theorem q0_1187 : zl I 0 1187 [v0, v1, v2, v3, v4, v5, v6] (.int y1 :: .ref b1 :: st) u P = ((b1 = 2000000 ∧ xinb y1 (xN u 2000000)) ∧ zl I 0 1188 [v0, v1, v2, v3, v4, v5, v6] (.int (xI u 2000000 (xix y1)) :: st) u P) := zl_Scr h0_1187
theorem h0_1188 : xcd2 I 0 1188 = oAl 0 1189 := ch_24 (Nat.le_of_ble_eq_true rfl) rfl
theorem q0_1188 : zl I 0 1188 [.ref a0, v1, v2, v3, v4, v5, v6] st u P = zl I 0 1189 [.ref a0, v1, v2, v3, v4, v5, v6] (.ref a0 :: st) u P := zl_Al h0_1188 rfl
theorem h0_1189 : xcd2 I 0 1189 = oIl 4 1191 := ch_24 (Nat.le_of_ble_eq_true rfl) rfl
theorem q0_1189 : zl I 0 1189 [v0, v1, v2, v3, .int x4, v5, v6] st u P = zl I 0 1191 [v0, v1, v2, v3, .int x4, v5, v6] (.int x4 :: st) u P := zl_Il h0_1189 rfl
theorem h0_1191 : xcd2 I 0 1191 = oI 4 1192 := ch_24 (Nat.le_of_ble_eq_true rfl) rfl
theorem q0_1191 : zl I 0 1191 [v0, v1, v2, v3, v4, v5, v6] st u P = zl I 0 1192 [v0, v1, v2, v3, v4, v5, v6] (.int 4 :: st) u P := zl_I h0_1191
theorem h0_1192 : xcd2 I 0 1192 = oB (fun x y => x + y) 1193 := ch_24 (Nat.le_of_ble_eq_true rfl) rfl
theorem q0_1192 : zl I 0 1192 [v0, v1, v2, v3, v4, v5, v6] (.int y1 :: .int y2 :: st) u P = zl I 0 1193 [v0, v1, v2, v3, v4, v5, v6] (.int (y2 + y1) :: st) u P := zl_B h0_1192
theorem h0_1193 : xcd2 I 0 1193 = oScr 1194 := ch_24 (Nat.le_of_ble_eq_true rfl) rfl
theorem q0_1193 : zl I 0 1193 [v0, v1, v2, v3, v4, v5, v6] (.int y1 :: .ref b1 :: st) u P = ((b1 = 2000000 ∧ xinb y1 (xN u 2000000)) ∧ zl I 0 1194 [v0, v1, v2, v3, v4, v5, v6] (.int (xI u 2000000 (xix y1)) :: st) u P) := zl_Scr h0_1193
theorem h0_1194 : xcd2 I 0 1194 = oCalV 11 250 4 1197 := ch_24 (Nat.le_of_ble_eq_true rfl) rfl
theorem q0_1194 : zl I 0 1194 [v0, v1, v2, v3, v4, v5, v6] (.int y4 :: .int y3 :: .int y2 :: .int y1 :: .ref b8 :: st) u P = ((xIs u b8 11 ∧ xcat st ≤ 8) ∧ zl I 250 0 [.ref b8, .int y1, .int y2, .int y3, .int y4, .null] [] u (fun r u2 => zl I 0 1197 [v0, v1, v2, v3, v4, v5, v6] (r.toList ++ st) u2 P)) := zl_CV h0_1194 rfl rfl rfl ⟨Nat.le_of_ble_eq_true rfl, Nat.succ_ne_zero _, by decide⟩ rfl
theorem h0_1197 : xcd2 I 0 1197 = oCmp (fun x y => decide (x = y)) 2238 1200 := ch_24 (Nat.le_of_ble_eq_true rfl) rfl
theorem q0_1197 : zl I 0 1197 [v0, v1, v2, v3, v4, v5, v6] (.int y1 :: .int y2 :: st) u P = (if y2 = y1 then zl I 0 2238 [v0, v1, v2, v3, v4, v5, v6] st u P else zl I 0 1200 [v0, v1, v2, v3, v4, v5, v6] st u P) := zl_Cmp h0_1197
theorem h0_1200 : xcd2 I 0 1200 = oI 0 1201 := ch_24 (Nat.le_of_ble_eq_true rfl) rfl
theorem q0_1200 : zl I 0 1200 [v0, v1, v2, v3, v4, v5, v6] st u P = zl I 0 1201 [v0, v1, v2, v3, v4, v5, v6] (.int 0 :: st) u P := zl_I h0_1200
theorem h0_1201 : xcd2 I 0 1201 = oRz 0 := ch_24 (Nat.le_of_ble_eq_true rfl) rfl
theorem q0_1201 : zl I 0 1201 [v0, v1, v2, v3, v4, v5, v6] [.int y1] u P = ((y1 = 0 ∨ y1 = 1) ∧ P (some (.int y1)) u) := zl_Rz h0_1201
theorem h0_1202 : xcd2 I 0 1202 = oAl 1 1203 := ch_24 (Nat.le_of_ble_eq_true rfl) rfl
theorem q0_1202 : zl I 0 1202 [v0, .ref a1, v2, v3, v4, v5, v6] st u P = zl I 0 1203 [v0, .ref a1, v2, v3, v4, v5, v6] (.ref a1 :: st) u P := zl_Al h0_1202 rfl
theorem h0_1203 : xcd2 I 0 1203 = oAl 0 1204 := ch_24 (Nat.le_of_ble_eq_true rfl) rfl
theorem q0_1203 : zl I 0 1203 [.ref a0, v1, v2, v3, v4, v5, v6] st u P = zl I 0 1204 [.ref a0, v1, v2, v3, v4, v5, v6] (.ref a0 :: st) u P := zl_Al h0_1203 rfl
theorem h0_1204 : xcd2 I 0 1204 = oIl 4 1206 := ch_24 (Nat.le_of_ble_eq_true rfl) rfl
theorem q0_1204 : zl I 0 1204 [v0, v1, v2, v3, .int x4, v5, v6] st u P = zl I 0 1206 [v0, v1, v2, v3, .int x4, v5, v6] (.int x4 :: st) u P := zl_Il h0_1204 rfl
theorem h0_1206 : xcd2 I 0 1206 = oI 1 1207 := ch_24 (Nat.le_of_ble_eq_true rfl) rfl
theorem q0_1206 : zl I 0 1206 [v0, v1, v2, v3, v4, v5, v6] st u P = zl I 0 1207 [v0, v1, v2, v3, v4, v5, v6] (.int 1 :: st) u P := zl_I h0_1206
theorem h0_1207 : xcd2 I 0 1207 = oB (fun x y => x + y) 1208 := ch_24 (Nat.le_of_ble_eq_true rfl) rfl
theorem q0_1207 : zl I 0 1207 [v0, v1, v2, v3, v4, v5, v6] (.int y1 :: .int y2 :: st) u P = zl I 0 1208 [v0, v1, v2, v3, v4, v5, v6] (.int (y2 + y1) :: st) u P := zl_B h0_1207
theorem h0_1208 : xcd2 I 0 1208 = oScr 1209 := ch_24 (Nat.le_of_ble_eq_true rfl) rfl
theorem q0_1208 : zl I 0 1208 [v0, v1, v2, v3, v4, v5, v6] (.int y1 :: .ref b1 :: st) u P = ((b1 = 2000000 ∧ xinb y1 (xN u 2000000)) ∧ zl I 0 1209 [v0, v1, v2, v3, v4, v5, v6] (.int (xI u 2000000 (xix y1)) :: st) u P) := zl_Scr h0_1208
theorem h0_1209 : xcd2 I 0 1209 = oAl 0 1210 := ch_24 (Nat.le_of_ble_eq_true rfl) rfl
theorem q0_1209 : zl I 0 1209 [.ref a0, v1, v2, v3, v4, v5, v6] st u P = zl I 0 1210 [.ref a0, v1, v2, v3, v4, v5, v6] (.ref a0 :: st) u P := zl_Al h0_1209 rfl
theorem h0_1210 : xcd2 I 0 1210 = oIl 4 1212 := ch_24 (Nat.le_of_ble_eq_true rfl) rfl
theorem q0_1210 : zl I 0 1210 [v0, v1, v2, v3, .int x4, v5, v6] st u P = zl I 0 1212 [v0, v1, v2, v3, .int x4, v5, v6] (.int x4 :: st) u P := zl_Il h0_1210 rfl
theorem h0_1212 : xcd2 I 0 1212 = oI 2 1213 := ch_24 (Nat.le_of_ble_eq_true rfl) rfl
theorem q0_1212 : zl I 0 1212 [v0, v1, v2, v3, v4, v5, v6] st u P = zl I 0 1213 [v0, v1, v2, v3, v4, v5, v6] (.int 2 :: st) u P := zl_I h0_1212
theorem h0_1213 : xcd2 I 0 1213 = oB (fun x y => x + y) 1214 := ch_24 (Nat.le_of_ble_eq_true rfl) rfl
theorem q0_1213 : zl I 0 1213 [v0, v1, v2, v3, v4, v5, v6] (.int y1 :: .int y2 :: st) u P = zl I 0 1214 [v0, v1, v2, v3, v4, v5, v6] (.int (y2 + y1) :: st) u P := zl_B h0_1213
theorem h0_1214 : xcd2 I 0 1214 = oScr 1215 := ch_24 (Nat.le_of_ble_eq_true rfl) rfl
theorem q0_1214 : zl I 0 1214 [v0, v1, v2, v3, v4, v5, v6] (.int y1 :: .ref b1 :: st) u P = ((b1 = 2000000 ∧ xinb y1 (xN u 2000000)) ∧ zl I 0 1215 [v0, v1, v2, v3, v4, v5, v6] (.int (xI u 2000000 (xix y1)) :: st) u P) := zl_Scr h0_1214
theorem h0_1215 : xcd2 I 0 1215 = oCalV 10 129 2 1218 := ch_25 (Nat.le_of_ble_eq_true rfl) rfl
theorem q0_1215 : zl I 0 1215 [v0, v1, v2, v3, v4, v5, v6] (.int y2 :: .int y1 :: .ref b8 :: st) u P = ((xIs u b8 10 ∧ xcat st ≤ 8) ∧ zl I 129 0 [.ref b8, .int y1, .int y2] [] u (fun r u2 => zl I 0 1218 [v0, v1, v2, v3, v4, v5, v6] (r.toList ++ st) u2 P)) := zl_CV h0_1215 rfl rfl rfl ⟨Nat.le_of_ble_eq_true rfl, Nat.succ_ne_zero _, by decide⟩ rfl
theorem h0_1218 : xcd2 I 0 1218 = oAl 2 1219 := ch_25 (Nat.le_of_ble_eq_true rfl) rfl
theorem q0_1218 : zl I 0 1218 [v0, v1, .ref a2, v3, v4, v5, v6] st u P = zl I 0 1219 [v0, v1, .ref a2, v3, v4, v5, v6] (.ref a2 :: st) u P := zl_Al h0_1218 rfl
end
