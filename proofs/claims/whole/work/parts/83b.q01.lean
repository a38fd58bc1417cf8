/-! rows of the law -/
section
variable {I : xOp} {u : xMem} {P : Option Value → xMem → Prop} {st : List Value} {v0 v1 v2 v3 v4 v5 v6 v7 v8 v9 v10 v11 v12 v13 v14 v15 : Value} {x0 x1 x2 x3 x4 x5 x6 x7 x8 x9 x10 x11 x12 x13 x14 x15 : Int32} {a0 a1 a2 a3 a4 a5 a6 a7 a8 a9 a10 a11 a12 a13 a14 a15 : Nat} {j0 j1 j2 j3 j4 j5 j6 j7 j8 j9 j10 j11 j12 j13 j14 j15 : Int64} {y1 y2 y3 y4 y5 y6 y7 y8 : Int32} {b1 b2 b3 b4 b5 b6 b7 b8 : Nat} {w1 w2 w3 w4 : Int64}
theorem h0_1219 : xcd2 I 0 1219 = oAl 0 1220 := ch_25 (Nat.le_of_ble_eq_true rfl) rfl
theorem q0_1219 : zl I 0 1219 [.ref a0, v1, v2, v3, v4, v5, v6] st u P = zl I 0 1220 [.ref a0, v1, v2, v3, v4, v5, v6] (.ref a0 :: st) u P := zl_Al h0_1219 rfl
theorem h0_1220 : xcd2 I 0 1220 = oIl 4 1222 := ch_25 (Nat.le_of_ble_eq_true rfl) rfl
theorem q0_1220 : zl I 0 1220 [v0, v1, v2, v3, .int x4, v5, v6] st u P = zl I 0 1222 [v0, v1, v2, v3, .int x4, v5, v6] (.int x4 :: st) u P := zl_Il h0_1220 rfl
theorem h0_1222 : xcd2 I 0 1222 = oI 1 1223 := ch_25 (Nat.le_of_ble_eq_true rfl) rfl
theorem q0_1222 : zl I 0 1222 [v0, v1, v2, v3, v4, v5, v6] st u P = zl I 0 1223 [v0, v1, v2, v3, v4, v5, v6] (.int 1 :: st) u P := zl_I h0_1222
theorem h0_1223 : xcd2 I 0 1223 = oB (fun x y => x + y) 1224 := ch_25 (Nat.le_of_ble_eq_true rfl) rfl
theorem q0_1223 : zl I 0 1223 [v0, v1, v2, v3, v4, v5, v6] (.int y1 :: .int y2 :: st) u P = zl I 0 1224 [v0, v1, v2, v3, v4, v5, v6] (.int (y2 + y1) :: st) u P := zl_B h0_1223
theorem h0_1224 : xcd2 I 0 1224 = oScr 1225 := ch_25 (Nat.le_of_ble_eq_true rfl) rfl
theorem q0_1224 : zl I 0 1224 [v0, v1, v2, v3, v4, v5, v6] (.int y1 :: .ref b1 :: st) u P = ((b1 = 2000000 ∧ xinb y1 (xN u 2000000)) ∧ zl I 0 1225 [v0, v1, v2, v3, v4, v5, v6] (.int (xI u 2000000 (xix y1)) :: st) u P) := zl_Scr h0_1224
theorem h0_1225 : xcd2 I 0 1225 = oAl 0 1226 := ch_25 (Nat.le_of_ble_eq_true rfl) rfl
theorem q0_1225 : zl I 0 1225 [.ref a0, v1, v2, v3, v4, v5, v6] st u P = zl I 0 1226 [.ref a0, v1, v2, v3, v4, v5, v6] (.ref a0 :: st) u P := zl_Al h0_1225 rfl
theorem h0_1226 : xcd2 I 0 1226 = oIl 4 1228 := ch_25 (Nat.le_of_ble_eq_true rfl) rfl
theorem q0_1226 : zl I 0 1226 [v0, v1, v2, v3, .int x4, v5, v6] st u P = zl I 0 1228 [v0, v1, v2, v3, .int x4, v5, v6] (.int x4 :: st) u P := zl_Il h0_1226 rfl
theorem h0_1228 : xcd2 I 0 1228 = oI 2 1229 := ch_25 (Nat.le_of_ble_eq_true rfl) rfl
theorem q0_1228 : zl I 0 1228 [v0, v1, v2, v3, v4, v5, v6] st u P = zl I 0 1229 [v0, v1, v2, v3, v4, v5, v6] (.int 2 :: st) u P := zl_I h0_1228
theorem h0_1229 : xcd2 I 0 1229 = oB (fun x y => x + y) 1230 := ch_25 (Nat.le_of_ble_eq_true rfl) rfl
theorem q0_1229 : zl I 0 1229 [v0, v1, v2, v3, v4, v5, v6] (.int y1 :: .int y2 :: st) u P = zl I 0 1230 [v0, v1, v2, v3, v4, v5, v6] (.int (y2 + y1) :: st) u P := zl_B h0_1229
theorem h0_1230 : xcd2 I 0 1230 = oScr 1231 := ch_25 (Nat.le_of_ble_eq_true rfl) rfl
theorem q0_1230 : zl I 0 1230 [v0, v1, v2, v3, v4, v5, v6] (.int y1 :: .ref b1 :: st) u P = ((b1 = 2000000 ∧ xinb y1 (xN u 2000000)) ∧ zl I 0 1231 [v0, v1, v2, v3, v4, v5, v6] (.int (xI u 2000000 (xix y1)) :: st) u P) := zl_Scr h0_1230
theorem h0_1231 : xcd2 I 0 1231 = oCalV 11 251 2 1234 := ch_25 (Nat.le_of_ble_eq_true rfl) rfl
theorem q0_1231 : zl I 0 1231 [v0, v1, v2, v3, v4, v5, v6] (.int y2 :: .int y1 :: .ref b8 :: st) u P = ((xIs u b8 11 ∧ xcat st ≤ 8) ∧ zl I 251 0 [.ref b8, .int y1, .int y2] [] u (fun r u2 => zl I 0 1234 [v0, v1, v2, v3, v4, v5, v6] (r.toList ++ st) u2 P)) := zl_CV h0_1231 rfl rfl rfl ⟨Nat.le_of_ble_eq_true rfl, Nat.succ_ne_zero _, by decide⟩ rfl
theorem h0_1234 : xcd2 I 0 1234 = oCmp (fun x y => decide (x = y)) 2238 1237 := ch_25 (Nat.le_of_ble_eq_true rfl) rfl
theorem q0_1234 : zl I 0 1234 [v0, v1, v2, v3, v4, v5, v6] (.int y1 :: .int y2 :: st) u P = (if y2 = y1 then zl I 0 2238 [v0, v1, v2, v3, v4, v5, v6] st u P else zl I 0 1237 [v0, v1, v2, v3, v4, v5, v6] st u P) := zl_Cmp h0_1234
theorem h0_1237 : xcd2 I 0 1237 = oI 0 1238 := ch_25 (Nat.le_of_ble_eq_true rfl) rfl
theorem q0_1237 : zl I 0 1237 [v0, v1, v2, v3, v4, v5, v6] st u P = zl I 0 1238 [v0, v1, v2, v3, v4, v5, v6] (.int 0 :: st) u P := zl_I h0_1237
theorem h0_1238 : xcd2 I 0 1238 = oRz 0 := ch_25 (Nat.le_of_ble_eq_true rfl) rfl
theorem q0_1238 : zl I 0 1238 [v0, v1, v2, v3, v4, v5, v6] [.int y1] u P = ((y1 = 0 ∨ y1 = 1) ∧ P (some (.int y1)) u) := zl_Rz h0_1238
theorem h0_1239 : xcd2 I 0 1239 = oAl 1 1240 := ch_25 (Nat.le_of_ble_eq_true rfl) rfl
theorem q0_1239 : zl I 0 1239 [v0, .ref a1, v2, v3, v4, v5, v6] st u P = zl I 0 1240 [v0, .ref a1, v2, v3, v4, v5, v6] (.ref a1 :: st) u P := zl_Al h0_1239 rfl
theorem h0_1240 : xcd2 I 0 1240 = oAl 0 1241 := ch_25 (Nat.le_of_ble_eq_true rfl) rfl
theorem q0_1240 : zl I 0 1240 [.ref a0, v1, v2, v3, v4, v5, v6] st u P = zl I 0 1241 [.ref a0, v1, v2, v3, v4, v5, v6] (.ref a0 :: st) u P := zl_Al h0_1240 rfl
theorem h0_1241 : xcd2 I 0 1241 = oIl 4 1243 := ch_25 (Nat.le_of_ble_eq_true rfl) rfl
theorem q0_1241 : zl I 0 1241 [v0, v1, v2, v3, .int x4, v5, v6] st u P = zl I 0 1243 [v0, v1, v2, v3, .int x4, v5, v6] (.int x4 :: st) u P := zl_Il h0_1241 rfl
theorem h0_1243 : xcd2 I 0 1243 = oI 1 1244 := ch_25 (Nat.le_of_ble_eq_true rfl) rfl
theorem q0_1243 : zl I 0 1243 [v0, v1, v2, v3, v4, v5, v6] st u P = zl I 0 1244 [v0, v1, v2, v3, v4, v5, v6] (.int 1 :: st) u P := zl_I h0_1243
theorem h0_1244 : xcd2 I 0 1244 = oB (fun x y => x + y) 1245 := ch_25 (Nat.le_of_ble_eq_true rfl) rfl
theorem q0_1244 : zl I 0 1244 [v0, v1, v2, v3, v4, v5, v6] (.int y1 :: .int y2 :: st) u P = zl I 0 1245 [v0, v1, v2, v3, v4, v5, v6] (.int (y2 + y1) :: st) u P := zl_B h0_1244
theorem h0_1245 : xcd2 I 0 1245 = oScr 1246 := ch_25 (Nat.le_of_ble_eq_true rfl) rfl
theorem q0_1245 : zl I 0 1245 [v0, v1, v2, v3, v4, v5, v6] (.int y1 :: .ref b1 :: st) u P = ((b1 = 2000000 ∧ xinb y1 (xN u 2000000)) ∧ zl I 0 1246 [v0, v1, v2, v3, v4, v5, v6] (.int (xI u 2000000 (xix y1)) :: st) u P) := zl_Scr h0_1245
theorem h0_1246 : xcd2 I 0 1246 = oAl 0 1247 := ch_25 (Nat.le_of_ble_eq_true rfl) rfl
theorem q0_1246 : zl I 0 1246 [.ref a0, v1, v2, v3, v4, v5, v6] st u P = zl I 0 1247 [.ref a0, v1, v2, v3, v4, v5, v6] (.ref a0 :: st) u P := zl_Al h0_1246 rfl
theorem h0_1247 : xcd2 I 0 1247 = oIl 4 1249 := ch_25 (Nat.le_of_ble_eq_true rfl) rfl
theorem q0_1247 : zl I 0 1247 [v0, v1, v2, v3, .int x4, v5, v6] st u P = zl I 0 1249 [v0, v1, v2, v3, .int x4, v5, v6] (.int x4 :: st) u P := zl_Il h0_1247 rfl
theorem h0_1249 : xcd2 I 0 1249 = oI 2 1250 := ch_25 (Nat.le_of_ble_eq_true rfl) rfl
theorem q0_1249 : zl I 0 1249 [v0, v1, v2, v3, v4, v5, v6] st u P = zl I 0 1250 [v0, v1, v2, v3, v4, v5, v6] (.int 2 :: st) u P := zl_I h0_1249
theorem h0_1250 : xcd2 I 0 1250 = oB (fun x y => x + y) 1251 := ch_25 (Nat.le_of_ble_eq_true rfl) rfl
theorem q0_1250 : zl I 0 1250 [v0, v1, v2, v3, v4, v5, v6] (.int y1 :: .int y2 :: st) u P = zl I 0 1251 [v0, v1, v2, v3, v4, v5, v6] (.int (y2 + y1) :: st) u P := zl_B h0_1250
theorem h0_1251 : xcd2 I 0 1251 = oScr 1252 := ch_25 (Nat.le_of_ble_eq_true rfl) rfl
theorem q0_1251 : zl I 0 1251 [v0, v1, v2, v3, v4, v5, v6] (.int y1 :: .ref b1 :: st) u P = ((b1 = 2000000 ∧ xinb y1 (xN u 2000000)) ∧ zl I 0 1252 [v0, v1, v2, v3, v4, v5, v6] (.int (xI u 2000000 (xix y1)) :: st) u P) := zl_Scr h0_1251
theorem h0_1252 : xcd2 I 0 1252 = oAl 0 1253 := ch_25 (Nat.le_of_ble_eq_true rfl) rfl
theorem q0_1252 : zl I 0 1252 [.ref a0, v1, v2, v3, v4, v5, v6] st u P = zl I 0 1253 [.ref a0, v1, v2, v3, v4, v5, v6] (.ref a0 :: st) u P := zl_Al h0_1252 rfl
theorem h0_1253 : xcd2 I 0 1253 = oIl 4 1255 := ch_25 (Nat.le_of_ble_eq_true rfl) rfl
theorem q0_1253 : zl I 0 1253 [v0, v1, v2, v3, .int x4, v5, v6] st u P = zl I 0 1255 [v0, v1, v2, v3, .int x4, v5, v6] (.int x4 :: st) u P := zl_Il h0_1253 rfl
theorem h0_1255 : xcd2 I 0 1255 = oI 3 1256 := ch_25 (Nat.le_of_ble_eq_true rfl) rfl
theorem q0_1255 : zl I 0 1255 [v0, v1, v2, v3, v4, v5, v6] st u P = zl I 0 1256 [v0, v1, v2, v3, v4, v5, v6] (.int 3 :: st) u P := zl_I h0_1255
theorem h0_1256 : xcd2 I 0 1256 = oB (fun x y => x + y) 1257 := ch_26 (Nat.le_of_ble_eq_true rfl) rfl
theorem q0_1256 : zl I 0 1256 [v0, v1, v2, v3, v4, v5, v6] (.int y1 :: .int y2 :: st) u P = zl I 0 1257 [v0, v1, v2, v3, v4, v5, v6] (.int (y2 + y1) :: st) u P := zl_B h0_1256
theorem h0_1257 : xcd2 I 0 1257 = oScr 1258 := ch_26 (Nat.le_of_ble_eq_true rfl) rfl
theorem q0_1257 : zl I 0 1257 [v0, v1, v2, v3, v4, v5, v6] (.int y1 :: .ref b1 :: st) u P = ((b1 = 2000000 ∧ xinb y1 (xN u 2000000)) ∧ zl I 0 1258 [v0, v1, v2, v3, v4, v5, v6] (.int (xI u 2000000 (xix y1)) :: st) u P) := zl_Scr h0_1257
theorem h0_1258 : xcd2 I 0 1258 = oAl 0 1259 := ch_26 (Nat.le_of_ble_eq_true rfl) rfl
theorem q0_1258 : zl I 0 1258 [.ref a0, v1, v2, v3, v4, v5, v6] st u P = zl I 0 1259 [.ref a0, v1, v2, v3, v4, v5, v6] (.ref a0 :: st) u P := zl_Al h0_1258 rfl
theorem h0_1259 : xcd2 I 0 1259 = oIl 4 1261 := ch_26 (Nat.le_of_ble_eq_true rfl) rfl
theorem q0_1259 : zl I 0 1259 [v0, v1, v2, v3, .int x4, v5, v6] st u P = zl I 0 1261 [v0, v1, v2, v3, .int x4, v5, v6] (.int x4 :: st) u P := zl_Il h0_1259 rfl
theorem h0_1261 : xcd2 I 0 1261 = oI 4 1262 := ch_26 (Nat.le_of_ble_eq_true rfl) rfl
theorem q0_1261 : zl I 0 1261 [v0, v1, v2, v3, v4, v5, v6] st u P = zl I 0 1262 [v0, v1, v2, v3, v4, v5, v6] (.int 4 :: st) u P := zl_I h0_1261
theorem h0_1262 : xcd2 I 0 1262 = oB (fun x y => x + y) 1263 := ch_26 (Nat.le_of_ble_eq_true rfl) rfl
theorem q0_1262 : zl I 0 1262 [v0, v1, v2, v3, v4, v5, v6] (.int y1 :: .int y2 :: st) u P = zl I 0 1263 [v0, v1, v2, v3, v4, v5, v6] (.int (y2 + y1) :: st) u P := zl_B h0_1262
theorem h0_1263 : xcd2 I 0 1263 = oScr 1264 := ch_26 (Nat.le_of_ble_eq_true rfl) rfl
theorem q0_1263 : zl I 0 1263 [v0, v1, v2, v3, v4, v5, v6] (.int y1 :: .ref b1 :: st) u P = ((b1 = 2000000 ∧ xinb y1 (xN u 2000000)) ∧ zl I 0 1264 [v0, v1, v2, v3, v4, v5, v6] (.int (xI u 2000000 (xix y1)) :: st) u P) := zl_Scr h0_1263
theorem h0_1264 : xcd2 I 0 1264 = oCalV 10 130 4 1267 := ch_26 (Nat.le_of_ble_eq_true rfl) rfl
theorem q0_1264 : zl I 0 1264 [v0, v1, v2, v3, v4, v5, v6] (.int y4 :: .int y3 :: .int y2 :: .int y1 :: .ref b8 :: st) u P = ((xIs u b8 10 ∧ xcat st ≤ 8) ∧ zl I 130 0 [.ref b8, .int y1, .int y2, .int y3, .int y4] [] u (fun r u2 => zl I 0 1267 [v0, v1, v2, v3, v4, v5, v6] (r.toList ++ st) u2 P)) := zl_CV h0_1264 rfl rfl rfl ⟨Nat.le_of_ble_eq_true rfl, Nat.succ_ne_zero _, by decide⟩ rfl
theorem h0_1267 : xcd2 I 0 1267 = oAl 2 1268 := ch_26 (Nat.le_of_ble_eq_true rfl) rfl
theorem q0_1267 : zl I 0 1267 [v0, v1, .ref a2, v3, v4, v5, v6] st u P = zl I 0 1268 [v0, v1, .ref a2, v3, v4, v5, v6] (.ref a2 :: st) u P := zl_Al h0_1267 rfl
theorem h0_1268 : xcd2 I 0 1268 = oAl 0 1269 := ch_26 (Nat.le_of_ble_eq_true rfl) rfl
theorem q0_1268 : zl I 0 1268 [.ref a0, v1, v2, v3, v4, v5, v6] st u P = zl I 0 1269 [.ref a0, v1, v2, v3, v4, v5, v6] (.ref a0 :: st) u P := zl_Al h0_1268 rfl
theorem h0_1269 : xcd2 I 0 1269 = oIl 4 1271 := ch_26 (Nat.le_of_ble_eq_true rfl) rfl
theorem q0_1269 : zl I 0 1269 [v0, v1, v2, v3, .int x4, v5, v6] st u P = zl I 0 1271 [v0, v1, v2, v3, .int x4, v5, v6] (.int x4 :: st) u P := zl_Il h0_1269 rfl
theorem h0_1271 : xcd2 I 0 1271 = oI 1 1272 := ch_26 (Nat.le_of_ble_eq_true rfl) rfl
theorem q0_1271 : zl I 0 1271 [v0, v1, v2, v3, v4, v5, v6] st u P = zl I 0 1272 [v0, v1, v2, v3, v4, v5, v6] (.int 1 :: st) u P := zl_I h0_1271
theorem h0_1272 : xcd2 I 0 1272 = oB (fun x y => x + y) 1273 := ch_26 (Nat.le_of_ble_eq_true rfl) rfl
theorem q0_1272 : zl I 0 1272 [v0, v1, v2, v3, v4, v5, v6] (.int y1 :: .int y2 :: st) u P = zl I 0 1273 [v0, v1, v2, v3, v4, v5, v6] (.int (y2 + y1) :: st) u P := zl_B h0_1272
theorem h0_1273 : xcd2 I 0 1273 = oScr 1274 := ch_26 (Nat.le_of_ble_eq_true rfl) rfl
theorem q0_1273 : zl I 0 1273 [v0, v1, v2, v3, v4, v5, v6] (.int y1 :: .ref b1 :: st) u P = ((b1 = 2000000 ∧ xinb y1 (xN u 2000000)) ∧ zl I 0 1274 [v0, v1, v2, v3, v4, v5, v6] (.int (xI u 2000000 (xix y1)) :: st) u P) := zl_Scr h0_1273
theorem h0_1274 : xcd2 I 0 1274 = oAl 0 1275 := ch_26 (Nat.le_of_ble_eq_true rfl) rfl
theorem q0_1274 : zl I 0 1274 [.ref a0, v1, v2, v3, v4, v5, v6] st u P = zl I 0 1275 [.ref a0, v1, v2, v3, v4, v5, v6] (.ref a0 :: st) u P := zl_Al h0_1274 rfl
theorem h0_1275 : xcd2 I 0 1275 = oIl 4 1277 := ch_26 (Nat.le_of_ble_eq_true rfl) rfl
theorem q0_1275 : zl I 0 1275 [v0, v1, v2, v3, .int x4, v5, v6] st u P = zl I 0 1277 [v0, v1, v2, v3, .int x4, v5, v6] (.int x4 :: st) u P := zl_Il h0_1275 rfl
theorem h0_1277 : xcd2 I 0 1277 = oI 2 1278 := ch_26 (Nat.le_of_ble_eq_true rfl) rfl
theorem q0_1277 : zl I 0 1277 [v0, v1, v2, v3, v4, v5, v6] st u P = zl I 0 1278 [v0, v1, v2, v3, v4, v5, v6] (.int 2 :: st) u P := zl_I h0_1277
theorem h0_1278 : xcd2 I 0 1278 = oB (fun x y => x + y) 1279 := ch_26 (Nat.le_of_ble_eq_true rfl) rfl
theorem q0_1278 : zl I 0 1278 [v0, v1, v2, v3, v4, v5, v6] (.int y1 :: .int y2 :: st) u P = zl I 0 1279 [v0, v1, v2, v3, v4, v5, v6] (.int (y2 + y1) :: st) u P := zl_B h0_1278
theorem h0_1279 : xcd2 I 0 1279 = oScr 1280 := ch_26 (Nat.le_of_ble_eq_true rfl) rfl
theorem q0_1279 : zl I 0 1279 [v0, v1, v2, v3, v4, v5, v6] (.int y1 :: .ref b1 :: st) u P = ((b1 = 2000000 ∧ xinb y1 (xN u 2000000)) ∧ zl I 0 1280 [v0, v1, v2, v3, v4, v5, v6] (.int (xI u 2000000 (xix y1)) :: st) u P) := zl_Scr h0_1279
theorem h0_1280 : xcd2 I 0 1280 = oAl 0 1281 := ch_26 (Nat.le_of_ble_eq_true rfl) rfl
theorem q0_1280 : zl I 0 1280 [.ref a0, v1, v2, v3, v4, v5, v6] st u P = zl I 0 1281 [.ref a0, v1, v2, v3, v4, v5, v6] (.ref a0 :: st) u P := zl_Al h0_1280 rfl
theorem h0_1281 : xcd2 I 0 1281 = oIl 4 1283 := ch_26 (Nat.le_of_ble_eq_true rfl) rfl
theorem q0_1281 : zl I 0 1281 [v0, v1, v2, v3, .int x4, v5, v6] st u P = zl I 0 1283 [v0, v1, v2, v3, .int x4, v5, v6] (.int x4 :: st) u P := zl_Il h0_1281 rfl
theorem h0_1283 : xcd2 I 0 1283 = oI 3 1284 := ch_26 (Nat.le_of_ble_eq_true rfl) rfl
theorem q0_1283 : zl I 0 1283 [v0, v1, v2, v3, v4, v5, v6] st u P = zl I 0 1284 [v0, v1, v2, v3, v4, v5, v6] (.int 3 :: st) u P := zl_I h0_1283
theorem h0_1284 : xcd2 I 0 1284 = oB (fun x y => x + y) 1285 := ch_26 (Nat.le_of_ble_eq_true rfl) rfl
theorem q0_1284 : zl I 0 1284 [v0, v1, v2, v3, v4, v5, v6] (.int y1 :: .int y2 :: st) u P = zl I 0 1285 [v0, v1, v2, v3, v4, v5, v6] (.int (y2 + y1) :: st) u P := zl_B h0_1284
theorem h0_1285 : xcd2 I 0 1285 = oScr 1286 := ch_26 (Nat.le_of_ble_eq_true rfl) rfl
theorem q0_1285 : zl I 0 1285 [v0, v1, v2, v3, v4, v5, v6] (.int y1 :: .ref b1 :: st) u P = ((b1 = 2000000 ∧ xinb y1 (xN u 2000000)) ∧ zl I 0 1286 [v0, v1, v2, v3, v4, v5, v6] (.int (xI u 2000000 (xix y1)) :: st) u P) := zl_Scr h0_1285
theorem h0_1286 : xcd2 I 0 1286 = oAl 0 1287 := ch_26 (Nat.le_of_ble_eq_true rfl) rfl
theorem q0_1286 : zl I 0 1286 [.ref a0, v1, v2, v3, v4, v5, v6] st u P = zl I 0 1287 [.ref a0, v1, v2, v3, v4, v5, v6] (.ref a0 :: st) u P := zl_Al h0_1286 rfl
theorem h0_1287 : xcd2 I 0 1287 = oIl 4 1289 := ch_26 (Nat.le_of_ble_eq_true rfl) rfl
theorem q0_1287 : zl I 0 1287 [v0, v1, v2, v3, .int x4, v5, v6] st u P = zl I 0 1289 [v0, v1, v2, v3, .int x4, v5, v6] (.int x4 :: st) u P := zl_Il h0_1287 rfl
theorem h0_1289 : xcd2 I 0 1289 = oI 4 1290 := ch_26 (Nat.le_of_ble_eq_true rfl) rfl
theorem q0_1289 : zl I 0 1289 [v0, v1, v2, v3, v4, v5, v6] st u P = zl I 0 1290 [v0, v1, v2, v3, v4, v5, v6] (.int 4 :: st) u P := zl_I h0_1289
theorem h0_1290 : xcd2 I 0 1290 = oB (fun x y => x + y) 1291 := ch_26 (Nat.le_of_ble_eq_true rfl) rfl
theorem q0_1290 : zl I 0 1290 [v0, v1, v2, v3, v4, v5, v6] (.int y1 :: .int y2 :: st) u P = zl I 0 1291 [v0, v1, v2, v3, v4, v5, v6] (.int (y2 + y1) :: st) u P := zl_B h0_1290
theorem h0_1291 : xcd2 I 0 1291 = oScr 1292 := ch_26 (Nat.le_of_ble_eq_true rfl) rfl
theorem q0_1291 : zl I 0 1291 [v0, v1, v2, v3, v4, v5, v6] (.int y1 :: .ref b1 :: st) u P = ((b1 = 2000000 ∧ xinb y1 (xN u 2000000)) ∧ zl I 0 1292 [v0, v1, v2, v3, v4, v5, v6] (.int (xI u 2000000 (xix y1)) :: st) u P) := zl_Scr h0_1291
theorem h0_1292 : xcd2 I 0 1292 = oCalV 11 253 4 1295 := ch_26 (Nat.le_of_ble_eq_true rfl) rfl
theorem q0_1292 : zl I 0 1292 [v0, v1, v2, v3, v4, v5, v6] (.int y4 :: .int y3 :: .int y2 :: .int y1 :: .ref b8 :: st) u P = ((xIs u b8 11 ∧ xcat st ≤ 8) ∧ zl I 253 0 [.ref b8, .int y1, .int y2, .int y3, .int y4, .null] [] u (fun r u2 => zl I 0 1295 [v0, v1, v2, v3, v4, v5, v6] (r.toList ++ st) u2 P)) := zl_CV h0_1292 rfl rfl rfl ⟨Nat.le_of_ble_eq_true rfl, Nat.succ_ne_zero _, by decide⟩ rfl
theorem h0_1295 : xcd2 I 0 1295 = oCmp (fun x y => decide (x = y)) 2238 1298 := ch_27 (Nat.le_of_ble_eq_true rfl) rfl
theorem q0_1295 : zl I 0 1295 [v0, v1, v2, v3, v4, v5, v6] (.int y1 :: .int y2 :: st) u P = (if y2 = y1 then zl I 0 2238 [v0, v1, v2, v3, v4, v5, v6] st u P else zl I 0 1298 [v0, v1, v2, v3, v4, v5, v6] st u P) := zl_Cmp h0_1295
theorem h0_1298 : xcd2 I 0 1298 = oI 0 1299 := ch_27 (Nat.le_of_ble_eq_true rfl) rfl
theorem q0_1298 : zl I 0 1298 [v0, v1, v2, v3, v4, v5, v6] st u P = zl I 0 1299 [v0, v1, v2, v3, v4, v5, v6] (.int 0 :: st) u P := zl_I h0_1298
theorem h0_1299 : xcd2 I 0 1299 = oRz 0 := ch_27 (Nat.le_of_ble_eq_true rfl) rfl
theorem q0_1299 : zl I 0 1299 [v0, v1, v2, v3, v4, v5, v6] [.int y1] u P = ((y1 = 0 ∨ y1 = 1) ∧ P (some (.int y1)) u) := zl_Rz h0_1299
theorem h0_1300 : xcd2 I 0 1300 = oAl 1 1301 := ch_27 (Nat.le_of_ble_eq_true rfl) rfl
theorem q0_1300 : zl I 0 1300 [v0, .ref a1, v2, v3, v4, v5, v6] st u P = zl I 0 1301 [v0, .ref a1, v2, v3, v4, v5, v6] (.ref a1 :: st) u P := zl_Al h0_1300 rfl
theorem h0_1301 : xcd2 I 0 1301 = oAl 0 1302 := ch_27 (Nat.le_of_ble_eq_true rfl) rfl
theorem q0_1301 : zl I 0 1301 [.ref a0, v1, v2, v3, v4, v5, v6] st u P = zl I 0 1302 [.ref a0, v1, v2, v3, v4, v5, v6] (.ref a0 :: st) u P := zl_Al h0_1301 rfl
theorem h0_1302 : xcd2 I 0 1302 = oIl 4 1304 := ch_27 (Nat.le_of_ble_eq_true rfl) rfl
theorem q0_1302 : zl I 0 1302 [v0, v1, v2, v3, .int x4, v5, v6] st u P = zl I 0 1304 [v0, v1, v2, v3, .int x4, v5, v6] (.int x4 :: st) u P := zl_Il h0_1302 rfl
theorem h0_1304 : xcd2 I 0 1304 = oI 1 1305 := ch_27 (Nat.le_of_ble_eq_true rfl) rfl
theorem q0_1304 : zl I 0 1304 [v0, v1, v2, v3, v4, v5, v6] st u P = zl I 0 1305 [v0, v1, v2, v3, v4, v5, v6] (.int 1 :: st) u P := zl_I h0_1304
theorem h0_1305 : xcd2 I 0 1305 = oB (fun x y => x + y) 1306 := ch_27 (Nat.le_of_ble_eq_true rfl) rfl
theorem q0_1305 : zl I 0 1305 [v0, v1, v2, v3, v4, v5, v6] (.int y1 :: .int y2 :: st) u P = zl I 0 1306 [v0, v1, v2, v3, v4, v5, v6] (.int (y2 + y1) :: st) u P := zl_B h0_1305
theorem h0_1306 : xcd2 I 0 1306 = oScr 1307 := ch_27 (Nat.le_of_ble_eq_true rfl) rfl
theorem q0_1306 : zl I 0 1306 [v0, v1, v2, v3, v4, v5, v6] (.int y1 :: .ref b1 :: st) u P = ((b1 = 2000000 ∧ xinb y1 (xN u 2000000)) ∧ zl I 0 1307 [v0, v1, v2, v3, v4, v5, v6] (.int (xI u 2000000 (xix y1)) :: st) u P) := zl_Scr h0_1306
theorem h0_1307 : xcd2 I 0 1307 = oAl 0 1308 := ch_27 (Nat.le_of_ble_eq_true rfl) rfl
theorem q0_1307 : zl I 0 1307 [.ref a0, v1, v2, v3, v4, v5, v6] st u P = zl I 0 1308 [.ref a0, v1, v2, v3, v4, v5, v6] (.ref a0 :: st) u P := zl_Al h0_1307 rfl
theorem h0_1308 : xcd2 I 0 1308 = oIl 4 1310 := ch_27 (Nat.le_of_ble_eq_true rfl) rfl
theorem q0_1308 : zl I 0 1308 [v0, v1, v2, v3, .int x4, v5, v6] st u P = zl I 0 1310 [v0, v1, v2, v3, .int x4, v5, v6] (.int x4 :: st) u P := zl_Il h0_1308 rfl
theorem h0_1310 : xcd2 I 0 1310 = oI 2 1311 := ch_27 (Nat.le_of_ble_eq_true rfl) rfl
theorem q0_1310 : zl I 0 1310 [v0, v1, v2, v3, v4, v5, v6] st u P = zl I 0 1311 [v0, v1, v2, v3, v4, v5, v6] (.int 2 :: st) u P := zl_I h0_1310
theorem h0_1311 : xcd2 I 0 1311 = oB (fun x y => x + y) 1312 := ch_27 (Nat.le_of_ble_eq_true rfl) rfl
theorem q0_1311 : zl I 0 1311 [v0, v1, v2, v3, v4, v5, v6] (.int y1 :: .int y2 :: st) u P = zl I 0 1312 [v0, v1, v2, v3, v4, v5, v6] (.int (y2 + y1) :: st) u P := zl_B h0_1311
theorem h0_1312 : xcd2 I 0 1312 = oScr 1313 := ch_27 (Nat.le_of_ble_eq_true rfl) rfl
theorem q0_1312 : zl I 0 1312 [v0, v1, v2, v3, v4, v5, v6] (.int y1 :: .ref b1 :: st) u P = ((b1 = 2000000 ∧ xinb y1 (xN u 2000000)) ∧ zl I 0 1313 [v0, v1, v2, v3, v4, v5, v6] (.int (xI u 2000000 (xix y1)) :: st) u P) := zl_Scr h0_1312
theorem h0_1313 : xcd2 I 0 1313 = oCalV 10 131 2 1316 := ch_27 (Nat.le_of_ble_eq_true rfl) rfl
theorem q0_1313 : zl I 0 1313 [v0, v1, v2, v3, v4, v5, v6] (.int y2 :: .int y1 :: .ref b8 :: st) u P = ((xIs u b8 10 ∧ xcat st ≤ 8) ∧ zl I 131 0 [.ref b8, .int y1, .int y2] [] u (fun r u2 => zl I 0 1316 [v0, v1, v2, v3, v4, v5, v6] (r.toList ++ st) u2 P)) := zl_CV h0_1313 rfl rfl rfl ⟨Nat.le_of_ble_eq_true rfl, Nat.succ_ne_zero _, by decide⟩ rfl
theorem h0_1316 : xcd2 I 0 1316 = oAl 2 1317 := ch_27 (Nat.le_of_ble_eq_true rfl) rfl
theorem q0_1316 : zl I 0 1316 [v0, v1, .ref a2, v3, v4, v5, v6] st u P = zl I 0 1317 [v0, v1, .ref a2, v3, v4, v5, v6] (.ref a2 :: st) u P := zl_Al h0_1316 rfl
theorem h0_1317 : xcd2 I 0 1317 = oAl 0 1318 := ch_27 (Nat.le_of_ble_eq_true rfl) rfl
theorem q0_1317 : zl I 0 1317 [.ref a0, v1, v2, v3, v4, v5, v6] st u P = zl I 0 1318 [.ref a0, v1, v2, v3, v4, v5, v6] (.ref a0 :: st) u P := zl_Al h0_1317 rfl
theorem h0_1318 : xcd2 I 0 1318 = oIl 4 1320 := ch_27 (Nat.le_of_ble_eq_true rfl) rfl
theorem q0_1318 : zl I 0 1318 [v0, v1, v2, v3, .int x4, v5, v6] st u P = zl I 0 1320 [v0, v1, v2, v3, .int x4, v5, v6] (.int x4 :: st) u P := zl_Il h0_1318 rfl
theorem h0_1320 : xcd2 I 0 1320 = oI 1 1321 := ch_27 (Nat.le_of_ble_eq_true rfl) rfl
theorem q0_1320 : zl I 0 1320 [v0, v1, v2, v3, v4, v5, v6] st u P = zl I 0 1321 [v0, v1, v2, v3, v4, v5, v6] (.int 1 :: st) u P := zl_I h0_1320
theorem h0_1321 : xcd2 I 0 1321 = oB (fun x y => x + y) 1322 := ch_27 (Nat.le_of_ble_eq_true rfl) rfl
theorem q0_1321 : zl I 0 1321 [v0, v1, v2, v3, v4, v5, v6] (.int y1 :: .int y2 :: st) u P = zl I 0 1322 [v0, v1, v2, v3, v4, v5, v6] (.int (y2 + y1) :: st) u P := zl_B h0_1321
theorem h0_1322 : xcd2 I 0 1322 = oScr 1323 := ch_27 (Nat.le_of_ble_eq_true rfl) rfl
theorem q0_1322 : zl I 0 1322 [v0, v1, v2, v3, v4, v5, v6] (.int y1 :: .ref b1 :: st) u P = ((b1 = 2000000 ∧ xinb y1 (xN u 2000000)) ∧ zl I 0 1323 [v0, v1, v2, v3, v4, v5, v6] (.int (xI u 2000000 (xix y1)) :: st) u P) := zl_Scr h0_1322
theorem h0_1323 : xcd2 I 0 1323 = oAl 0 1324 := ch_27 (Nat.le_of_ble_eq_true rfl) rfl
theorem q0_1323 : zl I 0 1323 [.ref a0, v1, v2, v3, v4, v5, v6] st u P = zl I 0 1324 [.ref a0, v1, v2, v3, v4, v5, v6] (.ref a0 :: st) u P := zl_Al h0_1323 rfl
theorem h0_1324 : xcd2 I 0 1324 = oIl 4 1326 := ch_27 (Nat.le_of_ble_eq_true rfl) rfl
theorem q0_1324 : zl I 0 1324 [v0, v1, v2, v3, .int x4, v5, v6] st u P = zl I 0 1326 [v0, v1, v2, v3, .int x4, v5, v6] (.int x4 :: st) u P := zl_Il h0_1324 rfl
theorem h0_1326 : xcd2 I 0 1326 = oI 2 1327 := ch_27 (Nat.le_of_ble_eq_true rfl) rfl
theorem q0_1326 : zl I 0 1326 [v0, v1, v2, v3, v4, v5, v6] st u P = zl I 0 1327 [v0, v1, v2, v3, v4, v5, v6] (.int 2 :: st) u P := zl_I h0_1326
theorem h0_1327 : xcd2 I 0 1327 = oB (fun x y => x + y) 1328 := ch_27 (Nat.le_of_ble_eq_true rfl) rfl
theorem q0_1327 : zl I 0 1327 [v0, v1, v2, v3, v4, v5, v6] (.int y1 :: .int y2 :: st) u P = zl I 0 1328 [v0, v1, v2, v3, v4, v5, v6] (.int (y2 + y1) :: st) u P := zl_B h0_1327
theorem h0_1328 : xcd2 I 0 1328 = oScr 1329 := ch_27 (Nat.le_of_ble_eq_true rfl) rfl
theorem q0_1328 : zl I 0 1328 [v0, v1, v2, v3, v4, v5, v6] (.int y1 :: .ref b1 :: st) u P = ((b1 = 2000000 ∧ xinb y1 (xN u 2000000)) ∧ zl I 0 1329 [v0, v1, v2, v3, v4, v5, v6] (.int (xI u 2000000 (xix y1)) :: st) u P) := zl_Scr h0_1328
theorem h0_1329 : xcd2 I 0 1329 = oCalV 11 254 2 1332 := ch_27 (Nat.le_of_ble_eq_true rfl) rfl
theorem q0_1329 : zl I 0 1329 [v0, v1, v2, v3, v4, v5, v6] (.int y2 :: .int y1 :: .ref b8 :: st) u P = ((xIs u b8 11 ∧ xcat st ≤ 8) ∧ zl I 254 0 [.ref b8, .int y1, .int y2, .null, .null, .null, .null, .null, .null] [] u (fun r u2 => zl I 0 1332 [v0, v1, v2, v3, v4, v5, v6] (r.toList ++ st) u2 P)) := zl_CV h0_1329 rfl rfl rfl ⟨Nat.le_of_ble_eq_true rfl, Nat.succ_ne_zero _, by decide⟩ rfl
theorem h0_1332 : xcd2 I 0 1332 = oCmp (fun x y => decide (x = y)) 2238 1335 := ch_27 (Nat.le_of_ble_eq_true rfl) rfl
theorem q0_1332 : zl I 0 1332 [v0, v1, v2, v3, v4, v5, v6] (.int y1 :: .int y2 :: st) u P = (if y2 = y1 then zl I 0 2238 [v0, v1, v2, v3, v4, v5, v6] st u P else zl I 0 1335 [v0, v1, v2, v3, v4, v5, v6] st u P) := zl_Cmp h0_1332
theorem h0_1335 : xcd2 I 0 1335 = oI 0 1336 := ch_27 (Nat.le_of_ble_eq_true rfl) rfl
theorem q0_1335 : zl I 0 1335 [v0, v1, v2, v3, v4, v5, v6] st u P = zl I 0 1336 [v0, v1, v2, v3, v4, v5, v6] (.int 0 :: st) u P := zl_I h0_1335
theorem h0_1336 : xcd2 I 0 1336 = oRz 0 := ch_27 (Nat.le_of_ble_eq_true rfl) rfl
theorem q0_1336 : zl I 0 1336 [v0, v1, v2, v3, v4, v5, v6] [.int y1] u P = ((y1 = 0 ∨ y1 = 1) ∧ P (some (.int y1)) u) := zl_Rz h0_1336
theorem h0_1337 : xcd2 I 0 1337 = oAl 1 1338 := ch_28 (Nat.le_of_ble_eq_true rfl) rfl
theorem q0_1337 : zl I 0 1337 [v0, .ref a1, v2, v3, v4, v5, v6] st u P = zl I 0 1338 [v0, .ref a1, v2, v3, v4, v5, v6] (.ref a1 :: st) u P := zl_Al h0_1337 rfl
theorem h0_1338 : xcd2 I 0 1338 = oAl 0 1339 := ch_28 (Nat.le_of_ble_eq_true rfl) rfl
theorem q0_1338 : zl I 0 1338 [.ref a0, v1, v2, v3, v4, v5, v6] st u P = zl I 0 1339 [.ref a0, v1, v2, v3, v4, v5, v6] (.ref a0 :: st) u P := zl_Al h0_1338 rfl
theorem h0_1339 : xcd2 I 0 1339 = oIl 4 1341 := ch_28 (Nat.le_of_ble_eq_true rfl) rfl
theorem q0_1339 : zl I 0 1339 [v0, v1, v2, v3, .int x4, v5, v6] st u P = zl I 0 1341 [v0, v1, v2, v3, .int x4, v5, v6] (.int x4 :: st) u P := zl_Il h0_1339 rfl
theorem h0_1341 : xcd2 I 0 1341 = oI 1 1342 := ch_28 (Nat.le_of_ble_eq_true rfl) rfl
theorem q0_1341 : zl I 0 1341 [v0, v1, v2, v3, v4, v5, v6] st u P = zl I 0 1342 [v0, v1, v2, v3, v4, v5, v6] (.int 1 :: st) u P := zl_I h0_1341
theorem h0_1342 : xcd2 I 0 1342 = oB (fun x y => x + y) 1343 := ch_28 (Nat.le_of_ble_eq_true rfl) rfl
theorem q0_1342 : zl I 0 1342 [v0, v1, v2, v3, v4, v5, v6] (.int y1 :: .int y2 :: st) u P = zl I 0 1343 [v0, v1, v2, v3, v4, v5, v6] (.int (y2 + y1) :: st) u P := zl_B h0_1342
theorem h0_1343 : xcd2 I 0 1343 = oScr 1344 := ch_28 (Nat.le_of_ble_eq_true rfl) rfl
theorem q0_1343 : zl I 0 1343 [v0, v1, v2, v3, v4, v5, v6] (.int y1 :: .ref b1 :: st) u P = ((b1 = 2000000 ∧ xinb y1 (xN u 2000000)) ∧ zl I 0 1344 [v0, v1, v2, v3, v4, v5, v6] (.int (xI u 2000000 (xix y1)) :: st) u P) := zl_Scr h0_1343
theorem h0_1344 : xcd2 I 0 1344 = oAl 0 1345 := ch_28 (Nat.le_of_ble_eq_true rfl) rfl
theorem q0_1344 : zl I 0 1344 [.ref a0, v1, v2, v3, v4, v5, v6] st u P = zl I 0 1345 [.ref a0, v1, v2, v3, v4, v5, v6] (.ref a0 :: st) u P := zl_Al h0_1344 rfl
theorem h0_1345 : xcd2 I 0 1345 = oIl 4 1347 := ch_28 (Nat.le_of_ble_eq_true rfl) rfl
theorem q0_1345 : zl I 0 1345 [v0, v1, v2, v3, .int x4, v5, v6] st u P = zl I 0 1347 [v0, v1, v2, v3, .int x4, v5, v6] (.int x4 :: st) u P := zl_Il h0_1345 rfl
theorem h0_1347 : xcd2 I 0 1347 = oI 2 1348 := ch_28 (Nat.le_of_ble_eq_true rfl) rfl
theorem q0_1347 : zl I 0 1347 [v0, v1, v2, v3, v4, v5, v6] st u P = zl I 0 1348 [v0, v1, v2, v3, v4, v5, v6] (.int 2 :: st) u P := zl_I h0_1347
theorem h0_1348 : xcd2 I 0 1348 = oB (fun x y => x + y) 1349 := ch_28 (Nat.le_of_ble_eq_true rfl) rfl
theorem q0_1348 : zl I 0 1348 [v0, v1, v2, v3, v4, v5, v6] (.int y1 :: .int y2 :: st) u P = zl I 0 1349 [v0, v1, v2, v3, v4, v5, v6] (.int (y2 + y1) :: st) u P := zl_B h0_1348
theorem h0_1349 : xcd2 I 0 1349 = oScr 1350 := ch_28 (Nat.le_of_ble_eq_true rfl) rfl
theorem q0_1349 : zl I 0 1349 [v0, v1, v2, v3, v4, v5, v6] (.int y1 :: .ref b1 :: st) u P = ((b1 = 2000000 ∧ xinb y1 (xN u 2000000)) ∧ zl I 0 1350 [v0, v1, v2, v3, v4, v5, v6] (.int (xI u 2000000 (xix y1)) :: st) u P) := zl_Scr h0_1349
theorem h0_1350 : xcd2 I 0 1350 = oAl 0 1351 := ch_28 (Nat.le_of_ble_eq_true rfl) rfl
theorem q0_1350 : zl I 0 1350 [.ref a0, v1, v2, v3, v4, v5, v6] st u P = zl I 0 1351 [.ref a0, v1, v2, v3, v4, v5, v6] (.ref a0 :: st) u P := zl_Al h0_1350 rfl
theorem h0_1351 : xcd2 I 0 1351 = oIl 4 1353 := ch_28 (Nat.le_of_ble_eq_true rfl) rfl
theorem q0_1351 : zl I 0 1351 [v0, v1, v2, v3, .int x4, v5, v6] st u P = zl I 0 1353 [v0, v1, v2, v3, .int x4, v5, v6] (.int x4 :: st) u P := zl_Il h0_1351 rfl
theorem h0_1353 : xcd2 I 0 1353 = oI 3 1354 := ch_28 (Nat.le_of_ble_eq_true rfl) rfl
theorem q0_1353 : zl I 0 1353 [v0, v1, v2, v3, v4, v5, v6] st u P = zl I 0 1354 [v0, v1, v2, v3, v4, v5, v6] (.int 3 :: st) u P := zl_I h0_1353
theorem h0_1354 : xcd2 I 0 1354 = oB (fun x y => x + y) 1355 := ch_28 (Nat.le_of_ble_eq_true rfl) rfl
theorem q0_1354 : zl I 0 1354 [v0, v1, v2, v3, v4, v5, v6] (.int y1 :: .int y2 :: st) u P = zl I 0 1355 [v0, v1, v2, v3, v4, v5, v6] (.int (y2 + y1) :: st) u P := zl_B h0_1354
theorem h0_1355 : xcd2 I 0 1355 = oScr 1356 := ch_28 (Nat.le_of_ble_eq_true rfl) rfl
theorem q0_1355 : zl I 0 1355 [v0, v1, v2, v3, v4, v5, v6] (.int y1 :: .ref b1 :: st) u P = ((b1 = 2000000 ∧ xinb y1 (xN u 2000000)) ∧ zl I 0 1356 [v0, v1, v2, v3, v4, v5, v6] (.int (xI u 2000000 (xix y1)) :: st) u P) := zl_Scr h0_1355
theorem h0_1356 : xcd2 I 0 1356 = oAl 0 1357 := ch_28 (Nat.le_of_ble_eq_true rfl) rfl
theorem q0_1356 : zl I 0 1356 [.ref a0, v1, v2, v3, v4, v5, v6] st u P = zl I 0 1357 [.ref a0, v1, v2, v3, v4, v5, v6] (.ref a0 :: st) u P := zl_Al h0_1356 rfl
theorem h0_1357 : xcd2 I 0 1357 = oIl 4 1359 := ch_28 (Nat.le_of_ble_eq_true rfl) rfl
theorem q0_1357 : zl I 0 1357 [v0, v1, v2, v3, .int x4, v5, v6] st u P = zl I 0 1359 [v0, v1, v2, v3, .int x4, v5, v6] (.int x4 :: st) u P := zl_Il h0_1357 rfl
theorem h0_1359 : xcd2 I 0 1359 = oI 4 1360 := ch_28 (Nat.le_of_ble_eq_true rfl) rfl
theorem q0_1359 : zl I 0 1359 [v0, v1, v2, v3, v4, v5, v6] st u P = zl I 0 1360 [v0, v1, v2, v3, v4, v5, v6] (.int 4 :: st) u P := zl_I h0_1359
theorem h0_1360 : xcd2 I 0 1360 = oB (fun x y => x + y) 1361 := ch_28 (Nat.le_of_ble_eq_true rfl) rfl
theorem q0_1360 : zl I 0 1360 [v0, v1, v2, v3, v4, v5, v6] (.int y1 :: .int y2 :: st) u P = zl I 0 1361 [v0, v1, v2, v3, v4, v5, v6] (.int (y2 + y1) :: st) u P := zl_B h0_1360
theorem h0_1361 : xcd2 I 0 1361 = oScr 1362 := ch_28 (Nat.le_of_ble_eq_true rfl) rfl
theorem q0_1361 : zl I 0 1361 [v0, v1, v2, v3, v4, v5, v6] (.int y1 :: .ref b1 :: st) u P = ((b1 = 2000000 ∧ xinb y1 (xN u 2000000)) ∧ zl I 0 1362 [v0, v1, v2, v3, v4, v5, v6] (.int (xI u 2000000 (xix y1)) :: st) u P) := zl_Scr h0_1361
theorem h0_1362 : xcd2 I 0 1362 = oAl 0 1363 := ch_28 (Nat.le_of_ble_eq_true rfl) rfl
theorem q0_1362 : zl I 0 1362 [.ref a0, v1, v2, v3, v4, v5, v6] st u P = zl I 0 1363 [.ref a0, v1, v2, v3, v4, v5, v6] (.ref a0 :: st) u P := zl_Al h0_1362 rfl
theorem h0_1363 : xcd2 I 0 1363 = oIl 4 1365 := ch_28 (Nat.le_of_ble_eq_true rfl) rfl
theorem q0_1363 : zl I 0 1363 [v0, v1, v2, v3, .int x4, v5, v6] st u P = zl I 0 1365 [v0, v1, v2, v3, .int x4, v5, v6] (.int x4 :: st) u P := zl_Il h0_1363 rfl
theorem h0_1365 : xcd2 I 0 1365 = oI 5 1366 := ch_28 (Nat.le_of_ble_eq_true rfl) rfl
theorem q0_1365 : zl I 0 1365 [v0, v1, v2, v3, v4, v5, v6] st u P = zl I 0 1366 [v0, v1, v2, v3, v4, v5, v6] (.int 5 :: st) u P := zl_I h0_1365
theorem h0_1366 : xcd2 I 0 1366 = oB (fun x y => x + y) 1367 := ch_28 (Nat.le_of_ble_eq_true rfl) rfl
theorem q0_1366 : zl I 0 1366 [v0, v1, v2, v3, v4, v5, v6] (.int y1 :: .int y2 :: st) u P = zl I 0 1367 [v0, v1, v2, v3, v4, v5, v6] (.int (y2 + y1) :: st) u P := zl_B h0_1366
theorem h0_1367 : xcd2 I 0 1367 = oScr 1368 := ch_28 (Nat.le_of_ble_eq_true rfl) rfl
theorem q0_1367 : zl I 0 1367 [v0, v1, v2, v3, v4, v5, v6] (.int y1 :: .ref b1 :: st) u P = ((b1 = 2000000 ∧ xinb y1 (xN u 2000000)) ∧ zl I 0 1368 [v0, v1, v2, v3, v4, v5, v6] (.int (xI u 2000000 (xix y1)) :: st) u P) := zl_Scr h0_1367
theorem h0_1368 : xcd2 I 0 1368 = oAl 0 1369 := ch_28 (Nat.le_of_ble_eq_true rfl) rfl
theorem q0_1368 : zl I 0 1368 [.ref a0, v1, v2, v3, v4, v5, v6] st u P = zl I 0 1369 [.ref a0, v1, v2, v3, v4, v5, v6] (.ref a0 :: st) u P := zl_Al h0_1368 rfl
theorem h0_1369 : xcd2 I 0 1369 = oIl 4 1371 := ch_28 (Nat.le_of_ble_eq_true rfl) rfl
theorem q0_1369 : zl I 0 1369 [v0, v1, v2, v3, .int x4, v5, v6] st u P = zl I 0 1371 [v0, v1, v2, v3, .int x4, v5, v6] (.int x4 :: st) u P := zl_Il h0_1369 rfl
theorem h0_1371 : xcd2 I 0 1371 = oI 6 1373 := ch_28 (Nat.le_of_ble_eq_true rfl) rfl
theorem q0_1371 : zl I 0 1371 [v0, v1, v2, v3, v4, v5, v6] st u P = zl I 0 1373 [v0, v1, v2, v3, v4, v5, v6] (.int 6 :: st) u P := zl_I h0_1371
theorem h0_1373 : xcd2 I 0 1373 = oB (fun x y => x + y) 1374 := ch_28 (Nat.le_of_ble_eq_true rfl) rfl
theorem q0_1373 : zl I 0 1373 [v0, v1, v2, v3, v4, v5, v6] (.int y1 :: .int y2 :: st) u P = zl I 0 1374 [v0, v1, v2, v3, v4, v5, v6] (.int (y2 + y1) :: st) u P := zl_B h0_1373
theorem h0_1374 : xcd2 I 0 1374 = oScr 1375 := ch_29 (Nat.le_of_ble_eq_true rfl) rfl
theorem q0_1374 : zl I 0 1374 [v0, v1, v2, v3, v4, v5, v6] (.int y1 :: .ref b1 :: st) u P = ((b1 = 2000000 ∧ xinb y1 (xN u 2000000)) ∧ zl I 0 1375 [v0, v1, v2, v3, v4, v5, v6] (.int (xI u 2000000 (xix y1)) :: st) u P) := zl_Scr h0_1374
theorem h0_1375 : xcd2 I 0 1375 = oCalV 10 132 6 1378 := ch_29 (Nat.le_of_ble_eq_true rfl) rfl
theorem q0_1375 : zl I 0 1375 [v0, v1, v2, v3, v4, v5, v6] (.int y6 :: .int y5 :: .int y4 :: .int y3 :: .int y2 :: .int y1 :: .ref b8 :: st) u P = ((xIs u b8 10 ∧ xcat st ≤ 8) ∧ zl I 132 0 [.ref b8, .int y1, .int y2, .int y3, .int y4, .int y5, .int y6] [] u (fun r u2 => zl I 0 1378 [v0, v1, v2, v3, v4, v5, v6] (r.toList ++ st) u2 P)) := zl_CV h0_1375 rfl rfl rfl ⟨Nat.le_of_ble_eq_true rfl, Nat.succ_ne_zero _, by decide⟩ rfl
theorem h0_1378 : xcd2 I 0 1378 = oAl 2 1379 := ch_29 (Nat.le_of_ble_eq_true rfl) rfl
theorem q0_1378 : zl I 0 1378 [v0, v1, .ref a2, v3, v4, v5, v6] st u P = zl I 0 1379 [v0, v1, .ref a2, v3, v4, v5, v6] (.ref a2 :: st) u P := zl_Al h0_1378 rfl
theorem h0_1379 : xcd2 I 0 1379 = oAl 0 1380 := ch_29 (Nat.le_of_ble_eq_true rfl) rfl
theorem q0_1379 : zl I 0 1379 [.ref a0, v1, v2, v3, v4, v5, v6] st u P = zl I 0 1380 [.ref a0, v1, v2, v3, v4, v5, v6] (.ref a0 :: st) u P := zl_Al h0_1379 rfl
theorem h0_1380 : xcd2 I 0 1380 = oIl 4 1382 := ch_29 (Nat.le_of_ble_eq_true rfl) rfl
theorem q0_1380 : zl I 0 1380 [v0, v1, v2, v3, .int x4, v5, v6] st u P = zl I 0 1382 [v0, v1, v2, v3, .int x4, v5, v6] (.int x4 :: st) u P := zl_Il h0_1380 rfl
theorem h0_1382 : xcd2 I 0 1382 = oI 1 1383 := ch_29 (Nat.le_of_ble_eq_true rfl) rfl
theorem q0_1382 : zl I 0 1382 [v0, v1, v2, v3, v4, v5, v6] st u P = zl I 0 1383 [v0, v1, v2, v3, v4, v5, v6] (.int 1 :: st) u P := zl_I h0_1382
theorem h0_1383 : xcd2 I 0 1383 = oB (fun x y => x + y) 1384 := ch_29 (Nat.le_of_ble_eq_true rfl) rfl
theorem q0_1383 : zl I 0 1383 [v0, v1, v2, v3, v4, v5, v6] (.int y1 :: .int y2 :: st) u P = zl I 0 1384 [v0, v1, v2, v3, v4, v5, v6] (.int (y2 + y1) :: st) u P := zl_B h0_1383
theorem h0_1384 : xcd2 I 0 1384 = oScr 1385 := ch_29 (Nat.le_of_ble_eq_true rfl) rfl
theorem q0_1384 : zl I 0 1384 [v0, v1, v2, v3, v4, v5, v6] (.int y1 :: .ref b1 :: st) u P = ((b1 = 2000000 ∧ xinb y1 (xN u 2000000)) ∧ zl I 0 1385 [v0, v1, v2, v3, v4, v5, v6] (.int (xI u 2000000 (xix y1)) :: st) u P) := zl_Scr h0_1384
theorem h0_1385 : xcd2 I 0 1385 = oAl 0 1386 := ch_29 (Nat.le_of_ble_eq_true rfl) rfl
theorem q0_1385 : zl I 0 1385 [.ref a0, v1, v2, v3, v4, v5, v6] st u P = zl I 0 1386 [.ref a0, v1, v2, v3, v4, v5, v6] (.ref a0 :: st) u P := zl_Al h0_1385 rfl
theorem h0_1386 : xcd2 I 0 1386 = oIl 4 1388 := ch_29 (Nat.le_of_ble_eq_true rfl) rfl
theorem q0_1386 : zl I 0 1386 [v0, v1, v2, v3, .int x4, v5, v6] st u P = zl I 0 1388 [v0, v1, v2, v3, .int x4, v5, v6] (.int x4 :: st) u P := zl_Il h0_1386 rfl
theorem h0_1388 : xcd2 I 0 1388 = oI 2 1389 := ch_29 (Nat.le_of_ble_eq_true rfl) rfl
theorem q0_1388 : zl I 0 1388 [v0, v1, v2, v3, v4, v5, v6] st u P = zl I 0 1389 [v0, v1, v2, v3, v4, v5, v6] (.int 2 :: st) u P := zl_I h0_1388
theorem h0_1389 : xcd2 I 0 1389 = oB (fun x y => x + y) 1390 := ch_29 (Nat.le_of_ble_eq_true rfl) rfl
theorem q0_1389 : zl I 0 1389 [v0, v1, v2, v3, v4, v5, v6] (.int y1 :: .int y2 :: st) u P = zl I 0 1390 [v0, v1, v2, v3, v4, v5, v6] (.int (y2 + y1) :: st) u P := zl_B h0_1389
theorem h0_1390 : xcd2 I 0 1390 = oScr 1391 := ch_29 (Nat.le_of_ble_eq_true rfl) rfl
theorem q0_1390 : zl I 0 1390 [v0, v1, v2, v3, v4, v5, v6] (.int y1 :: .ref b1 :: st) u P = ((b1 = 2000000 ∧ xinb y1 (xN u 2000000)) ∧ zl I 0 1391 [v0, v1, v2, v3, v4, v5, v6] (.int (xI u 2000000 (xix y1)) :: st) u P) := zl_Scr h0_1390
theorem h0_1391 : xcd2 I 0 1391 = oAl 0 1392 := ch_29 (Nat.le_of_ble_eq_true rfl) rfl
theorem q0_1391 : zl I 0 1391 [.ref a0, v1, v2, v3, v4, v5, v6] st u P = zl I 0 1392 [.ref a0, v1, v2, v3, v4, v5, v6] (.ref a0 :: st) u P := zl_Al h0_1391 rfl
theorem h0_1392 : xcd2 I 0 1392 = oIl 4 1394 := ch_29 (Nat.le_of_ble_eq_true rfl) rfl
theorem q0_1392 : zl I 0 1392 [v0, v1, v2, v3, .int x4, v5, v6] st u P = zl I 0 1394 [v0, v1, v2, v3, .int x4, v5, v6] (.int x4 :: st) u P := zl_Il h0_1392 rfl
theorem h0_1394 : xcd2 I 0 1394 = oI 3 1395 := ch_29 (Nat.le_of_ble_eq_true rfl) rfl
theorem q0_1394 : zl I 0 1394 [v0, v1, v2, v3, v4, v5, v6] st u P = zl I 0 1395 [v0, v1, v2, v3, v4, v5, v6] (.int 3 :: st) u P := zl_I h0_1394
theorem h0_1395 : xcd2 I 0 1395 = oB (fun x y => x + y) 1396 := ch_29 (Nat.le_of_ble_eq_true rfl) rfl
theorem q0_1395 : zl I 0 1395 [v0, v1, v2, v3, v4, v5, v6] (.int y1 :: .int y2 :: st) u P = zl I 0 1396 [v0, v1, v2, v3, v4, v5, v6] (.int (y2 + y1) :: st) u P := zl_B h0_1395
theorem h0_1396 : xcd2 I 0 1396 = oScr 1397 := ch_29 (Nat.le_of_ble_eq_true rfl) rfl
theorem q0_1396 : zl I 0 1396 [v0, v1, v2, v3, v4, v5, v6] (.int y1 :: .ref b1 :: st) u P = ((b1 = 2000000 ∧ xinb y1 (xN u 2000000)) ∧ zl I 0 1397 [v0, v1, v2, v3, v4, v5, v6] (.int (xI u 2000000 (xix y1)) :: st) u P) := zl_Scr h0_1396
theorem h0_1397 : xcd2 I 0 1397 = oAl 0 1398 := ch_29 (Nat.le_of_ble_eq_true rfl) rfl
theorem q0_1397 : zl I 0 1397 [.ref a0, v1, v2, v3, v4, v5, v6] st u P = zl I 0 1398 [.ref a0, v1, v2, v3, v4, v5, v6] (.ref a0 :: st) u P := zl_Al h0_1397 rfl
theorem h0_1398 : xcd2 I 0 1398 = oIl 4 1400 := ch_29 (Nat.le_of_ble_eq_true rfl) rfl
theorem q0_1398 : zl I 0 1398 [v0, v1, v2, v3, .int x4, v5, v6] st u P = zl I 0 1400 [v0, v1, v2, v3, .int x4, v5, v6] (.int x4 :: st) u P := zl_Il h0_1398 rfl
theorem h0_1400 : xcd2 I 0 1400 = oI 4 1401 := ch_29 (Nat.le_of_ble_eq_true rfl) rfl
theorem q0_1400 : zl I 0 1400 [v0, v1, v2, v3, v4, v5, v6] st u P = zl I 0 1401 [v0, v1, v2, v3, v4, v5, v6] (.int 4 :: st) u P := zl_I h0_1400
theorem h0_1401 : xcd2 I 0 1401 = oB (fun x y => x + y) 1402 := ch_29 (Nat.le_of_ble_eq_true rfl) rfl
theorem q0_1401 : zl I 0 1401 [v0, v1, v2, v3, v4, v5, v6] (.int y1 :: .int y2 :: st) u P = zl I 0 1402 [v0, v1, v2, v3, v4, v5, v6] (.int (y2 + y1) :: st) u P := zl_B h0_1401
theorem h0_1402 : xcd2 I 0 1402 = oScr 1403 := ch_29 (Nat.le_of_ble_eq_true rfl) rfl
theorem q0_1402 : zl I 0 1402 [v0, v1, v2, v3, v4, v5, v6] (.int y1 :: .ref b1 :: st) u P = ((b1 = 2000000 ∧ xinb y1 (xN u 2000000)) ∧ zl I 0 1403 [v0, v1, v2, v3, v4, v5, v6] (.int (xI u 2000000 (xix y1)) :: st) u P) := zl_Scr h0_1402
theorem h0_1403 : xcd2 I 0 1403 = oAl 0 1404 := ch_29 (Nat.le_of_ble_eq_true rfl) rfl
theorem q0_1403 : zl I 0 1403 [.ref a0, v1, v2, v3, v4, v5, v6] st u P = zl I 0 1404 [.ref a0, v1, v2, v3, v4, v5, v6] (.ref a0 :: st) u P := zl_Al h0_1403 rfl
theorem h0_1404 : xcd2 I 0 1404 = oIl 4 1406 := ch_29 (Nat.le_of_ble_eq_true rfl) rfl
theorem q0_1404 : zl I 0 1404 [v0, v1, v2, v3, .int x4, v5, v6] st u P = zl I 0 1406 [v0, v1, v2, v3, .int x4, v5, v6] (.int x4 :: st) u P := zl_Il h0_1404 rfl
theorem h0_1406 : xcd2 I 0 1406 = oI 5 1407 := ch_29 (Nat.le_of_ble_eq_true rfl) rfl
theorem q0_1406 : zl I 0 1406 [v0, v1, v2, v3, v4, v5, v6] st u P = zl I 0 1407 [v0, v1, v2, v3, v4, v5, v6] (.int 5 :: st) u P := zl_I h0_1406
theorem h0_1407 : xcd2 I 0 1407 = oB (fun x y => x + y) 1408 := ch_29 (Nat.le_of_ble_eq_true rfl) rfl
theorem q0_1407 : zl I 0 1407 [v0, v1, v2, v3, v4, v5, v6] (.int y1 :: .int y2 :: st) u P = zl I 0 1408 [v0, v1, v2, v3, v4, v5, v6] (.int (y2 + y1) :: st) u P := zl_B h0_1407
theorem h0_1408 : xcd2 I 0 1408 = oScr 1409 := ch_29 (Nat.le_of_ble_eq_true rfl) rfl
theorem q0_1408 : zl I 0 1408 [v0, v1, v2, v3, v4, v5, v6] (.int y1 :: .ref b1 :: st) u P = ((b1 = 2000000 ∧ xinb y1 (xN u 2000000)) ∧ zl I 0 1409 [v0, v1, v2, v3, v4, v5, v6] (.int (xI u 2000000 (xix y1)) :: st) u P) := zl_Scr h0_1408
theorem h0_1409 : xcd2 I 0 1409 = oAl 0 1410 := ch_29 (Nat.le_of_ble_eq_true rfl) rfl
theorem q0_1409 : zl I 0 1409 [.ref a0, v1, v2, v3, v4, v5, v6] st u P = zl I 0 1410 [.ref a0, v1, v2, v3, v4, v5, v6] (.ref a0 :: st) u P := zl_Al h0_1409 rfl
theorem h0_1410 : xcd2 I 0 1410 = oIl 4 1412 := ch_29 (Nat.le_of_ble_eq_true rfl) rfl
theorem q0_1410 : zl I 0 1410 [v0, v1, v2, v3, .int x4, v5, v6] st u P = zl I 0 1412 [v0, v1, v2, v3, .int x4, v5, v6] (.int x4 :: st) u P := zl_Il h0_1410 rfl
theorem h0_1412 : xcd2 I 0 1412 = oI 6 1414 := ch_30 (Nat.le_of_ble_eq_true rfl) rfl
theorem q0_1412 : zl I 0 1412 [v0, v1, v2, v3, v4, v5, v6] st u P = zl I 0 1414 [v0, v1, v2, v3, v4, v5, v6] (.int 6 :: st) u P := zl_I h0_1412
theorem h0_1414 : xcd2 I 0 1414 = oB (fun x y => x + y) 1415 := ch_30 (Nat.le_of_ble_eq_true rfl) rfl
theorem q0_1414 : zl I 0 1414 [v0, v1, v2, v3, v4, v5, v6] (.int y1 :: .int y2 :: st) u P = zl I 0 1415 [v0, v1, v2, v3, v4, v5, v6] (.int (y2 + y1) :: st) u P := zl_B h0_1414
theorem h0_1415 : xcd2 I 0 1415 = oScr 1416 := ch_30 (Nat.le_of_ble_eq_true rfl) rfl
theorem q0_1415 : zl I 0 1415 [v0, v1, v2, v3, v4, v5, v6] (.int y1 :: .ref b1 :: st) u P = ((b1 = 2000000 ∧ xinb y1 (xN u 2000000)) ∧ zl I 0 1416 [v0, v1, v2, v3, v4, v5, v6] (.int (xI u 2000000 (xix y1)) :: st) u P) := zl_Scr h0_1415
theorem h0_1416 : xcd2 I 0 1416 = oCalV 11 259 6 1419 := ch_30 (Nat.le_of_ble_eq_true rfl) rfl
theorem q0_1416 : zl I 0 1416 [v0, v1, v2, v3, v4, v5, v6] (.int y6 :: .int y5 :: .int y4 :: .int y3 :: .int y2 :: .int y1 :: .ref b8 :: st) u P = ((xIs u b8 11 ∧ xcat st ≤ 8) ∧ zl I 259 0 [.ref b8, .int y1, .int y2, .int y3, .int y4, .int y5, .int y6, .null] [] u (fun r u2 => zl I 0 1419 [v0, v1, v2, v3, v4, v5, v6] (r.toList ++ st) u2 P)) := zl_CV h0_1416 rfl rfl rfl ⟨Nat.le_of_ble_eq_true rfl, Nat.succ_ne_zero _, by decide⟩ rfl
theorem h0_1419 : xcd2 I 0 1419 = oCmp (fun x y => decide (x = y)) 2238 1422 := ch_30 (Nat.le_of_ble_eq_true rfl) rfl
theorem q0_1419 : zl I 0 1419 [v0, v1, v2, v3, v4, v5, v6] (.int y1 :: .int y2 :: st) u P = (if y2 = y1 then zl I 0 2238 [v0, v1, v2, v3, v4, v5, v6] st u P else zl I 0 1422 [v0, v1, v2, v3, v4, v5, v6] st u P) := zl_Cmp h0_1419
theorem h0_1422 : xcd2 I 0 1422 = oI 0 1423 := ch_30 (Nat.le_of_ble_eq_true rfl) rfl
theorem q0_1422 : zl I 0 1422 [v0, v1, v2, v3, v4, v5, v6] st u P = zl I 0 1423 [v0, v1, v2, v3, v4, v5, v6] (.int 0 :: st) u P := zl_I h0_1422
theorem h0_1423 : xcd2 I 0 1423 = oRz 0 := ch_30 (Nat.le_of_ble_eq_true rfl) rfl
theorem q0_1423 : zl I 0 1423 [v0, v1, v2, v3, v4, v5, v6] [.int y1] u P = ((y1 = 0 ∨ y1 = 1) ∧ P (some (.int y1)) u) := zl_Rz h0_1423
theorem h0_1424 : xcd2 I 0 1424 = oAl 1 1425 := ch_30 (Nat.le_of_ble_eq_true rfl) rfl
theorem q0_1424 : zl I 0 1424 [v0, .ref a1, v2, v3, v4, v5, v6] st u P = zl I 0 1425 [v0, .ref a1, v2, v3, v4, v5, v6] (.ref a1 :: st) u P := zl_Al h0_1424 rfl
theorem h0_1425 : xcd2 I 0 1425 = oAl 0 1426 := ch_30 (Nat.le_of_ble_eq_true rfl) rfl
theorem q0_1425 : zl I 0 1425 [.ref a0, v1, v2, v3, v4, v5, v6] st u P = zl I 0 1426 [.ref a0, v1, v2, v3, v4, v5, v6] (.ref a0 :: st) u P := zl_Al h0_1425 rfl
theorem h0_1426 : xcd2 I 0 1426 = oIl 4 1428 := ch_30 (Nat.le_of_ble_eq_true rfl) rfl
theorem q0_1426 : zl I 0 1426 [v0, v1, v2, v3, .int x4, v5, v6] st u P = zl I 0 1428 [v0, v1, v2, v3, .int x4, v5, v6] (.int x4 :: st) u P := zl_Il h0_1426 rfl
theorem h0_1428 : xcd2 I 0 1428 = oI 1 1429 := ch_30 (Nat.le_of_ble_eq_true rfl) rfl
theorem q0_1428 : zl I 0 1428 [v0, v1, v2, v3, v4, v5, v6] st u P = zl I 0 1429 [v0, v1, v2, v3, v4, v5, v6] (.int 1 :: st) u P := zl_I h0_1428
theorem h0_1429 : xcd2 I 0 1429 = oB (fun x y => x + y) 1430 := ch_30 (Nat.le_of_ble_eq_true rfl) rfl
theorem q0_1429 : zl I 0 1429 [v0, v1, v2, v3, v4, v5, v6] (.int y1 :: .int y2 :: st) u P = zl I 0 1430 [v0, v1, v2, v3, v4, v5, v6] (.int (y2 + y1) :: st) u P := zl_B h0_1429
theorem h0_1430 : xcd2 I 0 1430 = oScr 1431 := ch_30 (Nat.le_of_ble_eq_true rfl) rfl
theorem q0_1430 : zl I 0 1430 [v0, v1, v2, v3, v4, v5, v6] (.int y1 :: .ref b1 :: st) u P = ((b1 = 2000000 ∧ xinb y1 (xN u 2000000)) ∧ zl I 0 1431 [v0, v1, v2, v3, v4, v5, v6] (.int (xI u 2000000 (xix y1)) :: st) u P) := zl_Scr h0_1430
theorem h0_1431 : xcd2 I 0 1431 = oAl 0 1432 := ch_30 (Nat.le_of_ble_eq_true rfl) rfl
theorem q0_1431 : zl I 0 1431 [.ref a0, v1, v2, v3, v4, v5, v6] st u P = zl I 0 1432 [.ref a0, v1, v2, v3, v4, v5, v6] (.ref a0 :: st) u P := zl_Al h0_1431 rfl
theorem h0_1432 : xcd2 I 0 1432 = oIl 4 1434 := ch_30 (Nat.le_of_ble_eq_true rfl) rfl
theorem q0_1432 : zl I 0 1432 [v0, v1, v2, v3, .int x4, v5, v6] st u P = zl I 0 1434 [v0, v1, v2, v3, .int x4, v5, v6] (.int x4 :: st) u P := zl_Il h0_1432 rfl
theorem h0_1434 : xcd2 I 0 1434 = oI 2 1435 := ch_30 (Nat.le_of_ble_eq_true rfl) rfl
theorem q0_1434 : zl I 0 1434 [v0, v1, v2, v3, v4, v5, v6] st u P = zl I 0 1435 [v0, v1, v2, v3, v4, v5, v6] (.int 2 :: st) u P := zl_I h0_1434
theorem h0_1435 : xcd2 I 0 1435 = oB (fun x y => x + y) 1436 := ch_30 (Nat.le_of_ble_eq_true rfl) rfl
theorem q0_1435 : zl I 0 1435 [v0, v1, v2, v3, v4, v5, v6] (.int y1 :: .int y2 :: st) u P = zl I 0 1436 [v0, v1, v2, v3, v4, v5, v6] (.int (y2 + y1) :: st) u P := zl_B h0_1435
theorem h0_1436 : xcd2 I 0 1436 = oScr 1437 := ch_30 (Nat.le_of_ble_eq_true rfl) rfl
theorem q0_1436 : zl I 0 1436 [v0, v1, v2, v3, v4, v5, v6] (.int y1 :: .ref b1 :: st) u P = ((b1 = 2000000 ∧ xinb y1 (xN u 2000000)) ∧ zl I 0 1437 [v0, v1, v2, v3, v4, v5, v6] (.int (xI u 2000000 (xix y1)) :: st) u P) := zl_Scr h0_1436
theorem h0_1437 : xcd2 I 0 1437 = oAl 0 1438 := ch_30 (Nat.le_of_ble_eq_true rfl) rfl
theorem q0_1437 : zl I 0 1437 [.ref a0, v1, v2, v3, v4, v5, v6] st u P = zl I 0 1438 [.ref a0, v1, v2, v3, v4, v5, v6] (.ref a0 :: st) u P := zl_Al h0_1437 rfl
theorem h0_1438 : xcd2 I 0 1438 = oIl 4 1440 := ch_30 (Nat.le_of_ble_eq_true rfl) rfl
theorem q0_1438 : zl I 0 1438 [v0, v1, v2, v3, .int x4, v5, v6] st u P = zl I 0 1440 [v0, v1, v2, v3, .int x4, v5, v6] (.int x4 :: st) u P := zl_Il h0_1438 rfl
theorem h0_1440 : xcd2 I 0 1440 = oI 3 1441 := ch_30 (Nat.le_of_ble_eq_true rfl) rfl
theorem q0_1440 : zl I 0 1440 [v0, v1, v2, v3, v4, v5, v6] st u P = zl I 0 1441 [v0, v1, v2, v3, v4, v5, v6] (.int 3 :: st) u P := zl_I h0_1440
theorem h0_1441 : xcd2 I 0 1441 = oB (fun x y => x + y) 1442 := ch_30 (Nat.le_of_ble_eq_true rfl) rfl
theorem q0_1441 : zl I 0 1441 [v0, v1, v2, v3, v4, v5, v6] (.int y1 :: .int y2 :: st) u P = zl I 0 1442 [v0, v1, v2, v3, v4, v5, v6] (.int (y2 + y1) :: st) u P := zl_B h0_1441
theorem h0_1442 : xcd2 I 0 1442 = oScr 1443 := ch_30 (Nat.le_of_ble_eq_true rfl) rfl
theorem q0_1442 : zl I 0 1442 [v0, v1, v2, v3, v4, v5, v6] (.int y1 :: .ref b1 :: st) u P = ((b1 = 2000000 ∧ xinb y1 (xN u 2000000)) ∧ zl I 0 1443 [v0, v1, v2, v3, v4, v5, v6] (.int (xI u 2000000 (xix y1)) :: st) u P) := zl_Scr h0_1442
theorem h0_1443 : xcd2 I 0 1443 = oAl 0 1444 := ch_30 (Nat.le_of_ble_eq_true rfl) rfl
theorem q0_1443 : zl I 0 1443 [.ref a0, v1, v2, v3, v4, v5, v6] st u P = zl I 0 1444 [.ref a0, v1, v2, v3, v4, v5, v6] (.ref a0 :: st) u P := zl_Al h0_1443 rfl
theorem h0_1444 : xcd2 I 0 1444 = oIl 4 1446 := ch_30 (Nat.le_of_ble_eq_true rfl) rfl
theorem q0_1444 : zl I 0 1444 [v0, v1, v2, v3, .int x4, v5, v6] st u P = zl I 0 1446 [v0, v1, v2, v3, .int x4, v5, v6] (.int x4 :: st) u P := zl_Il h0_1444 rfl
theorem h0_1446 : xcd2 I 0 1446 = oI 4 1447 := ch_30 (Nat.le_of_ble_eq_true rfl) rfl
theorem q0_1446 : zl I 0 1446 [v0, v1, v2, v3, v4, v5, v6] st u P = zl I 0 1447 [v0, v1, v2, v3, v4, v5, v6] (.int 4 :: st) u P := zl_I h0_1446
theorem h0_1447 : xcd2 I 0 1447 = oB (fun x y => x + y) 1448 := ch_30 (Nat.le_of_ble_eq_true rfl) rfl
theorem q0_1447 : zl I 0 1447 [v0, v1, v2, v3, v4, v5, v6] (.int y1 :: .int y2 :: st) u P = zl I 0 1448 [v0, v1, v2, v3, v4, v5, v6] (.int (y2 + y1) :: st) u P := zl_B h0_1447
theorem h0_1448 : xcd2 I 0 1448 = oScr 1449 := ch_30 (Nat.le_of_ble_eq_true rfl) rfl
theorem q0_1448 : zl I 0 1448 [v0, v1, v2, v3, v4, v5, v6] (.int y1 :: .ref b1 :: st) u P = ((b1 = 2000000 ∧ xinb y1 (xN u 2000000)) ∧ zl I 0 1449 [v0, v1, v2, v3, v4, v5, v6] (.int (xI u 2000000 (xix y1)) :: st) u P) := zl_Scr h0_1448
theorem h0_1449 : xcd2 I 0 1449 = oAl 0 1450 := ch_30 (Nat.le_of_ble_eq_true rfl) rfl
theorem q0_1449 : zl I 0 1449 [.ref a0, v1, v2, v3, v4, v5, v6] st u P = zl I 0 1450 [.ref a0, v1, v2, v3, v4, v5, v6] (.ref a0 :: st) u P := zl_Al h0_1449 rfl
theorem h0_1450 : xcd2 I 0 1450 = oIl 4 1452 := ch_30 (Nat.le_of_ble_eq_true rfl) rfl
theorem q0_1450 : zl I 0 1450 [v0, v1, v2, v3, .int x4, v5, v6] st u P = zl I 0 1452 [v0, v1, v2, v3, .int x4, v5, v6] (.int x4 :: st) u P := zl_Il h0_1450 rfl
theorem h0_1452 : xcd2 I 0 1452 = oI 5 1453 := ch_31 (Nat.le_of_ble_eq_true rfl) rfl
theorem q0_1452 : zl I 0 1452 [v0, v1, v2, v3, v4, v5, v6] st u P = zl I 0 1453 [v0, v1, v2, v3, v4, v5, v6] (.int 5 :: st) u P := zl_I h0_1452
theorem h0_1453 : xcd2 I 0 1453 = oB (fun x y => x + y) 1454 := ch_31 (Nat.le_of_ble_eq_true rfl) rfl
theorem q0_1453 : zl I 0 1453 [v0, v1, v2, v3, v4, v5, v6] (.int y1 :: .int y2 :: st) u P = zl I 0 1454 [v0, v1, v2, v3, v4, v5, v6] (.int (y2 + y1) :: st) u P := zl_B h0_1453
theorem h0_1454 : xcd2 I 0 1454 = oScr 1455 := ch_31 (Nat.le_of_ble_eq_true rfl) rfl
theorem q0_1454 : zl I 0 1454 [v0, v1, v2, v3, v4, v5, v6] (.int y1 :: .ref b1 :: st) u P = ((b1 = 2000000 ∧ xinb y1 (xN u 2000000)) ∧ zl I 0 1455 [v0, v1, v2, v3, v4, v5, v6] (.int (xI u 2000000 (xix y1)) :: st) u P) := zl_Scr h0_1454
theorem h0_1455 : xcd2 I 0 1455 = oAl 0 1456 := ch_31 (Nat.le_of_ble_eq_true rfl) rfl
theorem q0_1455 : zl I 0 1455 [.ref a0, v1, v2, v3, v4, v5, v6] st u P = zl I 0 1456 [.ref a0, v1, v2, v3, v4, v5, v6] (.ref a0 :: st) u P := zl_Al h0_1455 rfl
theorem h0_1456 : xcd2 I 0 1456 = oIl 4 1458 := ch_31 (Nat.le_of_ble_eq_true rfl) rfl
theorem q0_1456 : zl I 0 1456 [v0, v1, v2, v3, .int x4, v5, v6] st u P = zl I 0 1458 [v0, v1, v2, v3, .int x4, v5, v6] (.int x4 :: st) u P := zl_Il h0_1456 rfl
theorem h0_1458 : xcd2 I 0 1458 = oI 6 1460 := ch_31 (Nat.le_of_ble_eq_true rfl) rfl
theorem q0_1458 : zl I 0 1458 [v0, v1, v2, v3, v4, v5, v6] st u P = zl I 0 1460 [v0, v1, v2, v3, v4, v5, v6] (.int 6 :: st) u P := zl_I h0_1458
theorem h0_1460 : xcd2 I 0 1460 = oB (fun x y => x + y) 1461 := ch_31 (Nat.le_of_ble_eq_true rfl) rfl
theorem q0_1460 : zl I 0 1460 [v0, v1, v2, v3, v4, v5, v6] (.int y1 :: .int y2 :: st) u P = zl I 0 1461 [v0, v1, v2, v3, v4, v5, v6] (.int (y2 + y1) :: st) u P := zl_B h0_1460
theorem h0_1461 : xcd2 I 0 1461 = oScr 1462 := ch_31 (Nat.le_of_ble_eq_true rfl) rfl
theorem q0_1461 : zl I 0 1461 [v0, v1, v2, v3, v4, v5, v6] (.int y1 :: .ref b1 :: st) u P = ((b1 = 2000000 ∧ xinb y1 (xN u 2000000)) ∧ zl I 0 1462 [v0, v1, v2, v3, v4, v5, v6] (.int (xI u 2000000 (xix y1)) :: st) u P) := zl_Scr h0_1461
theorem h0_1462 : xcd2 I 0 1462 = oAl 0 1463 := ch_31 (Nat.le_of_ble_eq_true rfl) rfl
theorem q0_1462 : zl I 0 1462 [.ref a0, v1, v2, v3, v4, v5, v6] st u P = zl I 0 1463 [.ref a0, v1, v2, v3, v4, v5, v6] (.ref a0 :: st) u P := zl_Al h0_1462 rfl
theorem h0_1463 : xcd2 I 0 1463 = oIl 4 1465 := ch_31 (Nat.le_of_ble_eq_true rfl) rfl
theorem q0_1463 : zl I 0 1463 [v0, v1, v2, v3, .int x4, v5, v6] st u P = zl I 0 1465 [v0, v1, v2, v3, .int x4, v5, v6] (.int x4 :: st) u P := zl_Il h0_1463 rfl
theorem h0_1465 : xcd2 I 0 1465 = oI 7 1467 := ch_31 (Nat.le_of_ble_eq_true rfl) rfl
theorem q0_1465 : zl I 0 1465 [v0, v1, v2, v3, v4, v5, v6] st u P = zl I 0 1467 [v0, v1, v2, v3, v4, v5, v6] (.int 7 :: st) u P := zl_I h0_1465
theorem h0_1467 : xcd2 I 0 1467 = oB (fun x y => x + y) 1468 := ch_31 (Nat.le_of_ble_eq_true rfl) rfl
theorem q0_1467 : zl I 0 1467 [v0, v1, v2, v3, v4, v5, v6] (.int y1 :: .int y2 :: st) u P = zl I 0 1468 [v0, v1, v2, v3, v4, v5, v6] (.int (y2 + y1) :: st) u P := zl_B h0_1467
theorem h0_1468 : xcd2 I 0 1468 = oScr 1469 := ch_31 (Nat.le_of_ble_eq_true rfl) rfl
theorem q0_1468 : zl I 0 1468 [v0, v1, v2, v3, v4, v5, v6] (.int y1 :: .ref b1 :: st) u P = ((b1 = 2000000 ∧ xinb y1 (xN u 2000000)) ∧ zl I 0 1469 [v0, v1, v2, v3, v4, v5, v6] (.int (xI u 2000000 (xix y1)) :: st) u P) := zl_Scr h0_1468
theorem h0_1469 : xcd2 I 0 1469 = oCalV 10 133 7 1472 := ch_31 (Nat.le_of_ble_eq_true rfl) rfl
theorem q0_1469 : zl I 0 1469 [v0, v1, v2, v3, v4, v5, v6] (.int y7 :: .int y6 :: .int y5 :: .int y4 :: .int y3 :: .int y2 :: .int y1 :: .ref b8 :: st) u P = ((xIs u b8 10 ∧ xcat st ≤ 8) ∧ zl I 133 0 [.ref b8, .int y1, .int y2, .int y3, .int y4, .int y5, .int y6, .int y7] [] u (fun r u2 => zl I 0 1472 [v0, v1, v2, v3, v4, v5, v6] (r.toList ++ st) u2 P)) := zl_CV h0_1469 rfl rfl rfl ⟨Nat.le_of_ble_eq_true rfl, Nat.succ_ne_zero _, by decide⟩ rfl
theorem h0_1472 : xcd2 I 0 1472 = oAl 2 1473 := ch_31 (Nat.le_of_ble_eq_true rfl) rfl
theorem q0_1472 : zl I 0 1472 [v0, v1, .ref a2, v3, v4, v5, v6] st u P = zl I 0 1473 [v0, v1, .ref a2, v3, v4, v5, v6] (.ref a2 :: st) u P := zl_Al h0_1472 rfl
theorem h0_1473 : xcd2 I 0 1473 = oAl 0 1474 := ch_31 (Nat.le_of_ble_eq_true rfl) rfl
theorem q0_1473 : zl I 0 1473 [.ref a0, v1, v2, v3, v4, v5, v6] st u P = zl I 0 1474 [.ref a0, v1, v2, v3, v4, v5, v6] (.ref a0 :: st) u P := zl_Al h0_1473 rfl
theorem h0_1474 : xcd2 I 0 1474 = oIl 4 1476 := ch_31 (Nat.le_of_ble_eq_true rfl) rfl
theorem q0_1474 : zl I 0 1474 [v0, v1, v2, v3, .int x4, v5, v6] st u P = zl I 0 1476 [v0, v1, v2, v3, .int x4, v5, v6] (.int x4 :: st) u P := zl_Il h0_1474 rfl
theorem h0_1476 : xcd2 I 0 1476 = oI 1 1477 := ch_31 (Nat.le_of_ble_eq_true rfl) rfl
theorem q0_1476 : zl I 0 1476 [v0, v1, v2, v3, v4, v5, v6] st u P = zl I 0 1477 [v0, v1, v2, v3, v4, v5, v6] (.int 1 :: st) u P := zl_I h0_1476
theorem h0_1477 : xcd2 I 0 1477 = oB (fun x y => x + y) 1478 := ch_31 (Nat.le_of_ble_eq_true rfl) rfl
theorem q0_1477 : zl I 0 1477 [v0, v1, v2, v3, v4, v5, v6] (.int y1 :: .int y2 :: st) u P = zl I 0 1478 [v0, v1, v2, v3, v4, v5, v6] (.int (y2 + y1) :: st) u P := zl_B h0_1477
theorem h0_1478 : xcd2 I 0 1478 = oScr 1479 := ch_31 (Nat.le_of_ble_eq_true rfl) rfl
theorem q0_1478 : zl I 0 1478 [v0, v1, v2, v3, v4, v5, v6] (.int y1 :: .ref b1 :: st) u P = ((b1 = 2000000 ∧ xinb y1 (xN u 2000000)) ∧ zl I 0 1479 [v0, v1, v2, v3, v4, v5, v6] (.int (xI u 2000000 (xix y1)) :: st) u P) := zl_Scr h0_1478
theorem h0_1479 : xcd2 I 0 1479 = oAl 0 1480 := ch_31 (Nat.le_of_ble_eq_true rfl) rfl
theorem q0_1479 : zl I 0 1479 [.ref a0, v1, v2, v3, v4, v5, v6] st u P = zl I 0 1480 [.ref a0, v1, v2, v3, v4, v5, v6] (.ref a0 :: st) u P := zl_Al h0_1479 rfl
theorem h0_1480 : xcd2 I 0 1480 = oIl 4 1482 := ch_31 (Nat.le_of_ble_eq_true rfl) rfl
theorem q0_1480 : zl I 0 1480 [v0, v1, v2, v3, .int x4, v5, v6] st u P = zl I 0 1482 [v0, v1, v2, v3, .int x4, v5, v6] (.int x4 :: st) u P := zl_Il h0_1480 rfl
theorem h0_1482 : xcd2 I 0 1482 = oI 2 1483 := ch_31 (Nat.le_of_ble_eq_true rfl) rfl
theorem q0_1482 : zl I 0 1482 [v0, v1, v2, v3, v4, v5, v6] st u P = zl I 0 1483 [v0, v1, v2, v3, v4, v5, v6] (.int 2 :: st) u P := zl_I h0_1482
theorem h0_1483 : xcd2 I 0 1483 = oB (fun x y => x + y) 1484 := ch_31 (Nat.le_of_ble_eq_true rfl) rfl
theorem q0_1483 : zl I 0 1483 [v0, v1, v2, v3, v4, v5, v6] (.int y1 :: .int y2 :: st) u P = zl I 0 1484 [v0, v1, v2, v3, v4, v5, v6] (.int (y2 + y1) :: st) u P := zl_B h0_1483
theorem h0_1484 : xcd2 I 0 1484 = oScr 1485 := ch_31 (Nat.le_of_ble_eq_true rfl) rfl
theorem q0_1484 : zl I 0 1484 [v0, v1, v2, v3, v4, v5, v6] (.int y1 :: .ref b1 :: st) u P = ((b1 = 2000000 ∧ xinb y1 (xN u 2000000)) ∧ zl I 0 1485 [v0, v1, v2, v3, v4, v5, v6] (.int (xI u 2000000 (xix y1)) :: st) u P) := zl_Scr h0_1484
theorem h0_1485 : xcd2 I 0 1485 = oAl 0 1486 := ch_31 (Nat.le_of_ble_eq_true rfl) rfl
theorem q0_1485 : zl I 0 1485 [.ref a0, v1, v2, v3, v4, v5, v6] st u P = zl I 0 1486 [.ref a0, v1, v2, v3, v4, v5, v6] (.ref a0 :: st) u P := zl_Al h0_1485 rfl
theorem h0_1486 : xcd2 I 0 1486 = oIl 4 1488 := ch_31 (Nat.le_of_ble_eq_true rfl) rfl
theorem q0_1486 : zl I 0 1486 [v0, v1, v2, v3, .int x4, v5, v6] st u P = zl I 0 1488 [v0, v1, v2, v3, .int x4, v5, v6] (.int x4 :: st) u P := zl_Il h0_1486 rfl
theorem h0_1488 : xcd2 I 0 1488 = oI 3 1489 := ch_31 (Nat.le_of_ble_eq_true rfl) rfl
theorem q0_1488 : zl I 0 1488 [v0, v1, v2, v3, v4, v5, v6] st u P = zl I 0 1489 [v0, v1, v2, v3, v4, v5, v6] (.int 3 :: st) u P := zl_I h0_1488
theorem h0_1489 : xcd2 I 0 1489 = oB (fun x y => x + y) 1490 := ch_31 (Nat.le_of_ble_eq_true rfl) rfl
theorem q0_1489 : zl I 0 1489 [v0, v1, v2, v3, v4, v5, v6] (.int y1 :: .int y2 :: st) u P = zl I 0 1490 [v0, v1, v2, v3, v4, v5, v6] (.int (y2 + y1) :: st) u P := zl_B h0_1489
theorem h0_1490 : xcd2 I 0 1490 = oScr 1491 := ch_31 (Nat.le_of_ble_eq_true rfl) rfl
theorem q0_1490 : zl I 0 1490 [v0, v1, v2, v3, v4, v5, v6] (.int y1 :: .ref b1 :: st) u P = ((b1 = 2000000 ∧ xinb y1 (xN u 2000000)) ∧ zl I 0 1491 [v0, v1, v2, v3, v4, v5, v6] (.int (xI u 2000000 (xix y1)) :: st) u P) := zl_Scr h0_1490
theorem h0_1491 : xcd2 I 0 1491 = oAl 0 1492 := ch_32 (Nat.le_of_ble_eq_true rfl) rfl
theorem q0_1491 : zl I 0 1491 [.ref a0, v1, v2, v3, v4, v5, v6] st u P = zl I 0 1492 [.ref a0, v1, v2, v3, v4, v5, v6] (.ref a0 :: st) u P := zl_Al h0_1491 rfl
theorem h0_1492 : xcd2 I 0 1492 = oIl 4 1494 := ch_32 (Nat.le_of_ble_eq_true rfl) rfl
theorem q0_1492 : zl I 0 1492 [v0, v1, v2, v3, .int x4, v5, v6] st u P = zl I 0 1494 [v0, v1, v2, v3, .int x4, v5, v6] (.int x4 :: st) u P := zl_Il h0_1492 rfl
theorem h0_1494 : xcd2 I 0 1494 = oI 4 1495 := ch_32 (Nat.le_of_ble_eq_true rfl) rfl
theorem q0_1494 : zl I 0 1494 [v0, v1, v2, v3, v4, v5, v6] st u P = zl I 0 1495 [v0, v1, v2, v3, v4, v5, v6] (.int 4 :: st) u P := zl_I h0_1494
theorem h0_1495 : xcd2 I 0 1495 = oB (fun x y => x + y) 1496 := ch_32 (Nat.le_of_ble_eq_true rfl) rfl
theorem q0_1495 : zl I 0 1495 [v0, v1, v2, v3, v4, v5, v6] (.int y1 :: .int y2 :: st) u P = zl I 0 1496 [v0, v1, v2, v3, v4, v5, v6] (.int (y2 + y1) :: st) u P := zl_B h0_1495
theorem h0_1496 : xcd2 I 0 1496 = oScr 1497 := ch_32 (Nat.le_of_ble_eq_true rfl) rfl
theorem q0_1496 : zl I 0 1496 [v0, v1, v2, v3, v4, v5, v6] (.int y1 :: .ref b1 :: st) u P = ((b1 = 2000000 ∧ xinb y1 (xN u 2000000)) ∧ zl I 0 1497 [v0, v1, v2, v3, v4, v5, v6] (.int (xI u 2000000 (xix y1)) :: st) u P) := zl_Scr h0_1496
theorem h0_1497 : xcd2 I 0 1497 = oAl 0 1498 := ch_32 (Nat.le_of_ble_eq_true rfl) rfl
theorem q0_1497 : zl I 0 1497 [.ref a0, v1, v2, v3, v4, v5, v6] st u P = zl I 0 1498 [.ref a0, v1, v2, v3, v4, v5, v6] (.ref a0 :: st) u P := zl_Al h0_1497 rfl
theorem h0_1498 : xcd2 I 0 1498 = oIl 4 1500 := ch_32 (Nat.le_of_ble_eq_true rfl) rfl
theorem q0_1498 : zl I 0 1498 [v0, v1, v2, v3, .int x4, v5, v6] st u P = zl I 0 1500 [v0, v1, v2, v3, .int x4, v5, v6] (.int x4 :: st) u P := zl_Il h0_1498 rfl
theorem h0_1500 : xcd2 I 0 1500 = oI 5 1501 := ch_32 (Nat.le_of_ble_eq_true rfl) rfl
theorem q0_1500 : zl I 0 1500 [v0, v1, v2, v3, v4, v5, v6] st u P = zl I 0 1501 [v0, v1, v2, v3, v4, v5, v6] (.int 5 :: st) u P := zl_I h0_1500
theorem h0_1501 : xcd2 I 0 1501 = oB (fun x y => x + y) 1502 := ch_32 (Nat.le_of_ble_eq_true rfl) rfl
theorem q0_1501 : zl I 0 1501 [v0, v1, v2, v3, v4, v5, v6] (.int y1 :: .int y2 :: st) u P = zl I 0 1502 [v0, v1, v2, v3, v4, v5, v6] (.int (y2 + y1) :: st) u P := zl_B h0_1501
theorem h0_1502 : xcd2 I 0 1502 = oScr 1503 := ch_32 (Nat.le_of_ble_eq_true rfl) rfl
theorem q0_1502 : zl I 0 1502 [v0, v1, v2, v3, v4, v5, v6] (.int y1 :: .ref b1 :: st) u P = ((b1 = 2000000 ∧ xinb y1 (xN u 2000000)) ∧ zl I 0 1503 [v0, v1, v2, v3, v4, v5, v6] (.int (xI u 2000000 (xix y1)) :: st) u P) := zl_Scr h0_1502
theorem h0_1503 : xcd2 I 0 1503 = oAl 0 1504 := ch_32 (Nat.le_of_ble_eq_true rfl) rfl
theorem q0_1503 : zl I 0 1503 [.ref a0, v1, v2, v3, v4, v5, v6] st u P = zl I 0 1504 [.ref a0, v1, v2, v3, v4, v5, v6] (.ref a0 :: st) u P := zl_Al h0_1503 rfl
theorem h0_1504 : xcd2 I 0 1504 = oIl 4 1506 := ch_32 (Nat.le_of_ble_eq_true rfl) rfl
theorem q0_1504 : zl I 0 1504 [v0, v1, v2, v3, .int x4, v5, v6] st u P = zl I 0 1506 [v0, v1, v2, v3, .int x4, v5, v6] (.int x4 :: st) u P := zl_Il h0_1504 rfl
theorem h0_1506 : xcd2 I 0 1506 = oI 6 1508 := ch_32 (Nat.le_of_ble_eq_true rfl) rfl
theorem q0_1506 : zl I 0 1506 [v0, v1, v2, v3, v4, v5, v6] st u P = zl I 0 1508 [v0, v1, v2, v3, v4, v5, v6] (.int 6 :: st) u P := zl_I h0_1506
theorem h0_1508 : xcd2 I 0 1508 = oB (fun x y => x + y) 1509 := ch_32 (Nat.le_of_ble_eq_true rfl) rfl
theorem q0_1508 : zl I 0 1508 [v0, v1, v2, v3, v4, v5, v6] (.int y1 :: .int y2 :: st) u P = zl I 0 1509 [v0, v1, v2, v3, v4, v5, v6] (.int (y2 + y1) :: st) u P := zl_B h0_1508
theorem h0_1509 : xcd2 I 0 1509 = oScr 1510 := ch_32 (Nat.le_of_ble_eq_true rfl) rfl
theorem q0_1509 : zl I 0 1509 [v0, v1, v2, v3, v4, v5, v6] (.int y1 :: .ref b1 :: st) u P = ((b1 = 2000000 ∧ xinb y1 (xN u 2000000)) ∧ zl I 0 1510 [v0, v1, v2, v3, v4, v5, v6] (.int (xI u 2000000 (xix y1)) :: st) u P) := zl_Scr h0_1509
theorem h0_1510 : xcd2 I 0 1510 = oAl 0 1511 := ch_32 (Nat.le_of_ble_eq_true rfl) rfl
theorem q0_1510 : zl I 0 1510 [.ref a0, v1, v2, v3, v4, v5, v6] st u P = zl I 0 1511 [.ref a0, v1, v2, v3, v4, v5, v6] (.ref a0 :: st) u P := zl_Al h0_1510 rfl
theorem h0_1511 : xcd2 I 0 1511 = oIl 4 1513 := ch_32 (Nat.le_of_ble_eq_true rfl) rfl
theorem q0_1511 : zl I 0 1511 [v0, v1, v2, v3, .int x4, v5, v6] st u P = zl I 0 1513 [v0, v1, v2, v3, .int x4, v5, v6] (.int x4 :: st) u P := zl_Il h0_1511 rfl
theorem h0_1513 : xcd2 I 0 1513 = oI 7 1515 := ch_32 (Nat.le_of_ble_eq_true rfl) rfl
theorem q0_1513 : zl I 0 1513 [v0, v1, v2, v3, v4, v5, v6] st u P = zl I 0 1515 [v0, v1, v2, v3, v4, v5, v6] (.int 7 :: st) u P := zl_I h0_1513
theorem h0_1515 : xcd2 I 0 1515 = oB (fun x y => x + y) 1516 := ch_32 (Nat.le_of_ble_eq_true rfl) rfl
theorem q0_1515 : zl I 0 1515 [v0, v1, v2, v3, v4, v5, v6] (.int y1 :: .int y2 :: st) u P = zl I 0 1516 [v0, v1, v2, v3, v4, v5, v6] (.int (y2 + y1) :: st) u P := zl_B h0_1515
theorem h0_1516 : xcd2 I 0 1516 = oScr 1517 := ch_32 (Nat.le_of_ble_eq_true rfl) rfl
theorem q0_1516 : zl I 0 1516 [v0, v1, v2, v3, v4, v5, v6] (.int y1 :: .ref b1 :: st) u P = ((b1 = 2000000 ∧ xinb y1 (xN u 2000000)) ∧ zl I 0 1517 [v0, v1, v2, v3, v4, v5, v6] (.int (xI u 2000000 (xix y1)) :: st) u P) := zl_Scr h0_1516
theorem h0_1517 : xcd2 I 0 1517 = oCalV 11 260 7 1520 := ch_32 (Nat.le_of_ble_eq_true rfl) rfl
theorem q0_1517 : zl I 0 1517 [v0, v1, v2, v3, v4, v5, v6] (.int y7 :: .int y6 :: .int y5 :: .int y4 :: .int y3 :: .int y2 :: .int y1 :: .ref b8 :: st) u P = ((xIs u b8 11 ∧ xcat st ≤ 8) ∧ zl I 260 0 [.ref b8, .int y1, .int y2, .int y3, .int y4, .int y5, .int y6, .int y7, .null, .null, .null, .null, .null] [] u (fun r u2 => zl I 0 1520 [v0, v1, v2, v3, v4, v5, v6] (r.toList ++ st) u2 P)) := zl_CV h0_1517 rfl rfl rfl ⟨Nat.le_of_ble_eq_true rfl, Nat.succ_ne_zero _, by decide⟩ rfl
theorem h0_1520 : xcd2 I 0 1520 = oCmp (fun x y => decide (x = y)) 2238 1523 := ch_32 (Nat.le_of_ble_eq_true rfl) rfl
theorem q0_1520 : zl I 0 1520 [v0, v1, v2, v3, v4, v5, v6] (.int y1 :: .int y2 :: st) u P = (if y2 = y1 then zl I 0 2238 [v0, v1, v2, v3, v4, v5, v6] st u P else zl I 0 1523 [v0, v1, v2, v3, v4, v5, v6] st u P) := zl_Cmp h0_1520
theorem h0_1523 : xcd2 I 0 1523 = oI 0 1524 := ch_32 (Nat.le_of_ble_eq_true rfl) rfl
theorem q0_1523 : zl I 0 1523 [v0, v1, v2, v3, v4, v5, v6] st u P = zl I 0 1524 [v0, v1, v2, v3, v4, v5, v6] (.int 0 :: st) u P := zl_I h0_1523
theorem h0_1524 : xcd2 I 0 1524 = oRz 0 := ch_32 (Nat.le_of_ble_eq_true rfl) rfl
theorem q0_1524 : zl I 0 1524 [v0, v1, v2, v3, v4, v5, v6] [.int y1] u P = ((y1 = 0 ∨ y1 = 1) ∧ P (some (.int y1)) u) := zl_Rz h0_1524
theorem h0_1525 : xcd2 I 0 1525 = oAl 1 1526 := ch_32 (Nat.le_of_ble_eq_true rfl) rfl
theorem q0_1525 : zl I 0 1525 [v0, .ref a1, v2, v3, v4, v5, v6] st u P = zl I 0 1526 [v0, .ref a1, v2, v3, v4, v5, v6] (.ref a1 :: st) u P := zl_Al h0_1525 rfl
theorem h0_1526 : xcd2 I 0 1526 = oAl 0 1527 := ch_32 (Nat.le_of_ble_eq_true rfl) rfl
theorem q0_1526 : zl I 0 1526 [.ref a0, v1, v2, v3, v4, v5, v6] st u P = zl I 0 1527 [.ref a0, v1, v2, v3, v4, v5, v6] (.ref a0 :: st) u P := zl_Al h0_1526 rfl
theorem h0_1527 : xcd2 I 0 1527 = oIl 4 1529 := ch_32 (Nat.le_of_ble_eq_true rfl) rfl
theorem q0_1527 : zl I 0 1527 [v0, v1, v2, v3, .int x4, v5, v6] st u P = zl I 0 1529 [v0, v1, v2, v3, .int x4, v5, v6] (.int x4 :: st) u P := zl_Il h0_1527 rfl
theorem h0_1529 : xcd2 I 0 1529 = oI 1 1530 := ch_32 (Nat.le_of_ble_eq_true rfl) rfl
theorem q0_1529 : zl I 0 1529 [v0, v1, v2, v3, v4, v5, v6] st u P = zl I 0 1530 [v0, v1, v2, v3, v4, v5, v6] (.int 1 :: st) u P := zl_I h0_1529
theorem h0_1530 : xcd2 I 0 1530 = oB (fun x y => x + y) 1531 := ch_32 (Nat.le_of_ble_eq_true rfl) rfl
theorem q0_1530 : zl I 0 1530 [v0, v1, v2, v3, v4, v5, v6] (.int y1 :: .int y2 :: st) u P = zl I 0 1531 [v0, v1, v2, v3, v4, v5, v6] (.int (y2 + y1) :: st) u P := zl_B h0_1530
theorem h0_1531 : xcd2 I 0 1531 = oScr 1532 := ch_32 (Nat.le_of_ble_eq_true rfl) rfl
theorem q0_1531 : zl I 0 1531 [v0, v1, v2, v3, v4, v5, v6] (.int y1 :: .ref b1 :: st) u P = ((b1 = 2000000 ∧ xinb y1 (xN u 2000000)) ∧ zl I 0 1532 [v0, v1, v2, v3, v4, v5, v6] (.int (xI u 2000000 (xix y1)) :: st) u P) := zl_Scr h0_1531
theorem h0_1532 : xcd2 I 0 1532 = oAl 0 1533 := ch_33 (Nat.le_of_ble_eq_true rfl) rfl
theorem q0_1532 : zl I 0 1532 [.ref a0, v1, v2, v3, v4, v5, v6] st u P = zl I 0 1533 [.ref a0, v1, v2, v3, v4, v5, v6] (.ref a0 :: st) u P := zl_Al h0_1532 rfl
theorem h0_1533 : xcd2 I 0 1533 = oIl 4 1535 := ch_33 (Nat.le_of_ble_eq_true rfl) rfl
theorem q0_1533 : zl I 0 1533 [v0, v1, v2, v3, .int x4, v5, v6] st u P = zl I 0 1535 [v0, v1, v2, v3, .int x4, v5, v6] (.int x4 :: st) u P := zl_Il h0_1533 rfl
theorem h0_1535 : xcd2 I 0 1535 = oI 2 1536 := ch_33 (Nat.le_of_ble_eq_true rfl) rfl
theorem q0_1535 : zl I 0 1535 [v0, v1, v2, v3, v4, v5, v6] st u P = zl I 0 1536 [v0, v1, v2, v3, v4, v5, v6] (.int 2 :: st) u P := zl_I h0_1535
theorem h0_1536 : xcd2 I 0 1536 = oB (fun x y => x + y) 1537 := ch_33 (Nat.le_of_ble_eq_true rfl) rfl
theorem q0_1536 : zl I 0 1536 [v0, v1, v2, v3, v4, v5, v6] (.int y1 :: .int y2 :: st) u P = zl I 0 1537 [v0, v1, v2, v3, v4, v5, v6] (.int (y2 + y1) :: st) u P := zl_B h0_1536
theorem h0_1537 : xcd2 I 0 1537 = oScr 1538 := ch_33 (Nat.le_of_ble_eq_true rfl) rfl
theorem q0_1537 : zl I 0 1537 [v0, v1, v2, v3, v4, v5, v6] (.int y1 :: .ref b1 :: st) u P = ((b1 = 2000000 ∧ xinb y1 (xN u 2000000)) ∧ zl I 0 1538 [v0, v1, v2, v3, v4, v5, v6] (.int (xI u 2000000 (xix y1)) :: st) u P) := zl_Scr h0_1537
theorem h0_1538 : xcd2 I 0 1538 = oCalV 10 134 2 1541 := ch_33 (Nat.le_of_ble_eq_true rfl) rfl
theorem q0_1538 : zl I 0 1538 [v0, v1, v2, v3, v4, v5, v6] (.int y2 :: .int y1 :: .ref b8 :: st) u P = ((xIs u b8 10 ∧ xcat st ≤ 8) ∧ zl I 134 0 [.ref b8, .int y1, .int y2] [] u (fun r u2 => zl I 0 1541 [v0, v1, v2, v3, v4, v5, v6] (r.toList ++ st) u2 P)) := zl_CV h0_1538 rfl rfl rfl ⟨Nat.le_of_ble_eq_true rfl, Nat.succ_ne_zero _, by decide⟩ rfl
theorem h0_1541 : xcd2 I 0 1541 = oAl 2 1542 := ch_33 (Nat.le_of_ble_eq_true rfl) rfl
theorem q0_1541 : zl I 0 1541 [v0, v1, .ref a2, v3, v4, v5, v6] st u P = zl I 0 1542 [v0, v1, .ref a2, v3, v4, v5, v6] (.ref a2 :: st) u P := zl_Al h0_1541 rfl
theorem h0_1542 : xcd2 I 0 1542 = oAl 0 1543 := ch_33 (Nat.le_of_ble_eq_true rfl) rfl
theorem q0_1542 : zl I 0 1542 [.ref a0, v1, v2, v3, v4, v5, v6] st u P = zl I 0 1543 [.ref a0, v1, v2, v3, v4, v5, v6] (.ref a0 :: st) u P := zl_Al h0_1542 rfl
theorem h0_1543 : xcd2 I 0 1543 = oIl 4 1545 := ch_33 (Nat.le_of_ble_eq_true rfl) rfl
theorem q0_1543 : zl I 0 1543 [v0, v1, v2, v3, .int x4, v5, v6] st u P = zl I 0 1545 [v0, v1, v2, v3, .int x4, v5, v6] (.int x4 :: st) u P := zl_Il h0_1543 rfl
theorem h0_1545 : xcd2 I 0 1545 = oI 1 1546 := ch_33 (Nat.le_of_ble_eq_true rfl) rfl
theorem q0_1545 : zl I 0 1545 [v0, v1, v2, v3, v4, v5, v6] st u P = zl I 0 1546 [v0, v1, v2, v3, v4, v5, v6] (.int 1 :: st) u P := zl_I h0_1545
theorem h0_1546 : xcd2 I 0 1546 = oB (fun x y => x + y) 1547 := ch_33 (Nat.le_of_ble_eq_true rfl) rfl
theorem q0_1546 : zl I 0 1546 [v0, v1, v2, v3, v4, v5, v6] (.int y1 :: .int y2 :: st) u P = zl I 0 1547 [v0, v1, v2, v3, v4, v5, v6] (.int (y2 + y1) :: st) u P := zl_B h0_1546
theorem h0_1547 : xcd2 I 0 1547 = oScr 1548 := ch_33 (Nat.le_of_ble_eq_true rfl) rfl
theorem q0_1547 : zl I 0 1547 [v0, v1, v2, v3, v4, v5, v6] (.int y1 :: .ref b1 :: st) u P = ((b1 = 2000000 ∧ xinb y1 (xN u 2000000)) ∧ zl I 0 1548 [v0, v1, v2, v3, v4, v5, v6] (.int (xI u 2000000 (xix y1)) :: st) u P) := zl_Scr h0_1547
theorem h0_1548 : xcd2 I 0 1548 = oAl 0 1549 := ch_33 (Nat.le_of_ble_eq_true rfl) rfl
theorem q0_1548 : zl I 0 1548 [.ref a0, v1, v2, v3, v4, v5, v6] st u P = zl I 0 1549 [.ref a0, v1, v2, v3, v4, v5, v6] (.ref a0 :: st) u P := zl_Al h0_1548 rfl
theorem h0_1549 : xcd2 I 0 1549 = oIl 4 1551 := ch_33 (Nat.le_of_ble_eq_true rfl) rfl
theorem q0_1549 : zl I 0 1549 [v0, v1, v2, v3, .int x4, v5, v6] st u P = zl I 0 1551 [v0, v1, v2, v3, .int x4, v5, v6] (.int x4 :: st) u P := zl_Il h0_1549 rfl
theorem h0_1551 : xcd2 I 0 1551 = oI 2 1552 := ch_33 (Nat.le_of_ble_eq_true rfl) rfl
theorem q0_1551 : zl I 0 1551 [v0, v1, v2, v3, v4, v5, v6] st u P = zl I 0 1552 [v0, v1, v2, v3, v4, v5, v6] (.int 2 :: st) u P := zl_I h0_1551
theorem h0_1552 : xcd2 I 0 1552 = oB (fun x y => x + y) 1553 := ch_33 (Nat.le_of_ble_eq_true rfl) rfl
theorem q0_1552 : zl I 0 1552 [v0, v1, v2, v3, v4, v5, v6] (.int y1 :: .int y2 :: st) u P = zl I 0 1553 [v0, v1, v2, v3, v4, v5, v6] (.int (y2 + y1) :: st) u P := zl_B h0_1552
theorem h0_1553 : xcd2 I 0 1553 = oScr 1554 := ch_33 (Nat.le_of_ble_eq_true rfl) rfl
theorem q0_1553 : zl I 0 1553 [v0, v1, v2, v3, v4, v5, v6] (.int y1 :: .ref b1 :: st) u P = ((b1 = 2000000 ∧ xinb y1 (xN u 2000000)) ∧ zl I 0 1554 [v0, v1, v2, v3, v4, v5, v6] (.int (xI u 2000000 (xix y1)) :: st) u P) := zl_Scr h0_1553
theorem h0_1554 : xcd2 I 0 1554 = oCalV 11 267 2 1557 := ch_33 (Nat.le_of_ble_eq_true rfl) rfl
theorem q0_1554 : zl I 0 1554 [v0, v1, v2, v3, v4, v5, v6] (.int y2 :: .int y1 :: .ref b8 :: st) u P = ((xIs u b8 11 ∧ xcat st ≤ 8) ∧ zl I 267 0 [.ref b8, .int y1, .int y2] [] u (fun r u2 => zl I 0 1557 [v0, v1, v2, v3, v4, v5, v6] (r.toList ++ st) u2 P)) := zl_CV h0_1554 rfl rfl rfl ⟨Nat.le_of_ble_eq_true rfl, Nat.succ_ne_zero _, by decide⟩ rfl
theorem h0_1557 : xcd2 I 0 1557 = oCmp (fun x y => decide (x = y)) 2238 1560 := ch_33 (Nat.le_of_ble_eq_true rfl) rfl
theorem q0_1557 : zl I 0 1557 [v0, v1, v2, v3, v4, v5, v6] (.int y1 :: .int y2 :: st) u P = (if y2 = y1 then zl I 0 2238 [v0, v1, v2, v3, v4, v5, v6] st u P else zl I 0 1560 [v0, v1, v2, v3, v4, v5, v6] st u P) := zl_Cmp h0_1557
theorem h0_1560 : xcd2 I 0 1560 = oI 0 1561 := ch_33 (Nat.le_of_ble_eq_true rfl) rfl
theorem q0_1560 : zl I 0 1560 [v0, v1, v2, v3, v4, v5, v6] st u P = zl I 0 1561 [v0, v1, v2, v3, v4, v5, v6] (.int 0 :: st) u P := zl_I h0_1560
theorem h0_1561 : xcd2 I 0 1561 = oRz 0 := ch_33 (Nat.le_of_ble_eq_true rfl) rfl
theorem q0_1561 : zl I 0 1561 [v0, v1, v2, v3, v4, v5, v6] [.int y1] u P = ((y1 = 0 ∨ y1 = 1) ∧ P (some (.int y1)) u) := zl_Rz h0_1561
theorem h0_1562 : xcd2 I 0 1562 = oAl 1 1563 := ch_33 (Nat.le_of_ble_eq_true rfl) rfl
theorem q0_1562 : zl I 0 1562 [v0, .ref a1, v2, v3, v4, v5, v6] st u P = zl I 0 1563 [v0, .ref a1, v2, v3, v4, v5, v6] (.ref a1 :: st) u P := zl_Al h0_1562 rfl
theorem h0_1563 : xcd2 I 0 1563 = oAl 0 1564 := ch_33 (Nat.le_of_ble_eq_true rfl) rfl
theorem q0_1563 : zl I 0 1563 [.ref a0, v1, v2, v3, v4, v5, v6] st u P = zl I 0 1564 [.ref a0, v1, v2, v3, v4, v5, v6] (.ref a0 :: st) u P := zl_Al h0_1563 rfl
theorem h0_1564 : xcd2 I 0 1564 = oIl 4 1566 := ch_33 (Nat.le_of_ble_eq_true rfl) rfl
theorem q0_1564 : zl I 0 1564 [v0, v1, v2, v3, .int x4, v5, v6] st u P = zl I 0 1566 [v0, v1, v2, v3, .int x4, v5, v6] (.int x4 :: st) u P := zl_Il h0_1564 rfl
theorem h0_1566 : xcd2 I 0 1566 = oI 1 1567 := ch_33 (Nat.le_of_ble_eq_true rfl) rfl
theorem q0_1566 : zl I 0 1566 [v0, v1, v2, v3, v4, v5, v6] st u P = zl I 0 1567 [v0, v1, v2, v3, v4, v5, v6] (.int 1 :: st) u P := zl_I h0_1566
theorem h0_1567 : xcd2 I 0 1567 = oB (fun x y => x + y) 1568 := ch_33 (Nat.le_of_ble_eq_true rfl) rfl
theorem q0_1567 : zl I 0 1567 [v0, v1, v2, v3, v4, v5, v6] (.int y1 :: .int y2 :: st) u P = zl I 0 1568 [v0, v1, v2, v3, v4, v5, v6] (.int (y2 + y1) :: st) u P := zl_B h0_1567
theorem h0_1568 : xcd2 I 0 1568 = oScr 1569 := ch_33 (Nat.le_of_ble_eq_true rfl) rfl
theorem q0_1568 : zl I 0 1568 [v0, v1, v2, v3, v4, v5, v6] (.int y1 :: .ref b1 :: st) u P = ((b1 = 2000000 ∧ xinb y1 (xN u 2000000)) ∧ zl I 0 1569 [v0, v1, v2, v3, v4, v5, v6] (.int (xI u 2000000 (xix y1)) :: st) u P) := zl_Scr h0_1568
theorem h0_1569 : xcd2 I 0 1569 = oAl 0 1570 := ch_33 (Nat.le_of_ble_eq_true rfl) rfl
theorem q0_1569 : zl I 0 1569 [.ref a0, v1, v2, v3, v4, v5, v6] st u P = zl I 0 1570 [.ref a0, v1, v2, v3, v4, v5, v6] (.ref a0 :: st) u P := zl_Al h0_1569 rfl
theorem h0_1570 : xcd2 I 0 1570 = oIl 4 1572 := ch_33 (Nat.le_of_ble_eq_true rfl) rfl
theorem q0_1570 : zl I 0 1570 [v0, v1, v2, v3, .int x4, v5, v6] st u P = zl I 0 1572 [v0, v1, v2, v3, .int x4, v5, v6] (.int x4 :: st) u P := zl_Il h0_1570 rfl
theorem h0_1572 : xcd2 I 0 1572 = oI 2 1573 := ch_33 (Nat.le_of_ble_eq_true rfl) rfl
theorem q0_1572 : zl I 0 1572 [v0, v1, v2, v3, v4, v5, v6] st u P = zl I 0 1573 [v0, v1, v2, v3, v4, v5, v6] (.int 2 :: st) u P := zl_I h0_1572
theorem h0_1573 : xcd2 I 0 1573 = oB (fun x y => x + y) 1574 := ch_34 (Nat.le_of_ble_eq_true rfl) rfl
theorem q0_1573 : zl I 0 1573 [v0, v1, v2, v3, v4, v5, v6] (.int y1 :: .int y2 :: st) u P = zl I 0 1574 [v0, v1, v2, v3, v4, v5, v6] (.int (y2 + y1) :: st) u P := zl_B h0_1573
theorem h0_1574 : xcd2 I 0 1574 = oScr 1575 := ch_34 (Nat.le_of_ble_eq_true rfl) rfl
theorem q0_1574 : zl I 0 1574 [v0, v1, v2, v3, v4, v5, v6] (.int y1 :: .ref b1 :: st) u P = ((b1 = 2000000 ∧ xinb y1 (xN u 2000000)) ∧ zl I 0 1575 [v0, v1, v2, v3, v4, v5, v6] (.int (xI u 2000000 (xix y1)) :: st) u P) := zl_Scr h0_1574
theorem h0_1575 : xcd2 I 0 1575 = oAl 0 1576 := ch_34 (Nat.le_of_ble_eq_true rfl) rfl
theorem q0_1575 : zl I 0 1575 [.ref a0, v1, v2, v3, v4, v5, v6] st u P = zl I 0 1576 [.ref a0, v1, v2, v3, v4, v5, v6] (.ref a0 :: st) u P := zl_Al h0_1575 rfl
theorem h0_1576 : xcd2 I 0 1576 = oIl 4 1578 := ch_34 (Nat.le_of_ble_eq_true rfl) rfl
theorem q0_1576 : zl I 0 1576 [v0, v1, v2, v3, .int x4, v5, v6] st u P = zl I 0 1578 [v0, v1, v2, v3, .int x4, v5, v6] (.int x4 :: st) u P := zl_Il h0_1576 rfl
theorem h0_1578 : xcd2 I 0 1578 = oI 3 1579 := ch_34 (Nat.le_of_ble_eq_true rfl) rfl
theorem q0_1578 : zl I 0 1578 [v0, v1, v2, v3, v4, v5, v6] st u P = zl I 0 1579 [v0, v1, v2, v3, v4, v5, v6] (.int 3 :: st) u P := zl_I h0_1578
theorem h0_1579 : xcd2 I 0 1579 = oB (fun x y => x + y) 1580 := ch_34 (Nat.le_of_ble_eq_true rfl) rfl
theorem q0_1579 : zl I 0 1579 [v0, v1, v2, v3, v4, v5, v6] (.int y1 :: .int y2 :: st) u P = zl I 0 1580 [v0, v1, v2, v3, v4, v5, v6] (.int (y2 + y1) :: st) u P := zl_B h0_1579
theorem h0_1580 : xcd2 I 0 1580 = oScr 1581 := ch_34 (Nat.le_of_ble_eq_true rfl) rfl
theorem q0_1580 : zl I 0 1580 [v0, v1, v2, v3, v4, v5, v6] (.int y1 :: .ref b1 :: st) u P = ((b1 = 2000000 ∧ xinb y1 (xN u 2000000)) ∧ zl I 0 1581 [v0, v1, v2, v3, v4, v5, v6] (.int (xI u 2000000 (xix y1)) :: st) u P) := zl_Scr h0_1580
theorem h0_1581 : xcd2 I 0 1581 = oCalV 10 135 3 1584 := ch_34 (Nat.le_of_ble_eq_true rfl) rfl
theorem q0_1581 : zl I 0 1581 [v0, v1, v2, v3, v4, v5, v6] (.int y3 :: .int y2 :: .int y1 :: .ref b8 :: st) u P = ((xIs u b8 10 ∧ xcat st ≤ 8) ∧ zl I 135 0 [.ref b8, .int y1, .int y2, .int y3] [] u (fun r u2 => zl I 0 1584 [v0, v1, v2, v3, v4, v5, v6] (r.toList ++ st) u2 P)) := zl_CV h0_1581 rfl rfl rfl ⟨Nat.le_of_ble_eq_true rfl, Nat.succ_ne_zero _, by decide⟩ rfl
theorem h0_1584 : xcd2 I 0 1584 = oAl 2 1585 := ch_34 (Nat.le_of_ble_eq_true rfl) rfl
theorem q0_1584 : zl I 0 1584 [v0, v1, .ref a2, v3, v4, v5, v6] st u P = zl I 0 1585 [v0, v1, .ref a2, v3, v4, v5, v6] (.ref a2 :: st) u P := zl_Al h0_1584 rfl
theorem h0_1585 : xcd2 I 0 1585 = oAl 0 1586 := ch_34 (Nat.le_of_ble_eq_true rfl) rfl
theorem q0_1585 : zl I 0 1585 [.ref a0, v1, v2, v3, v4, v5, v6] st u P = zl I 0 1586 [.ref a0, v1, v2, v3, v4, v5, v6] (.ref a0 :: st) u P := zl_Al h0_1585 rfl
theorem h0_1586 : xcd2 I 0 1586 = oIl 4 1588 := ch_34 (Nat.le_of_ble_eq_true rfl) rfl
theorem q0_1586 : zl I 0 1586 [v0, v1, v2, v3, .int x4, v5, v6] st u P = zl I 0 1588 [v0, v1, v2, v3, .int x4, v5, v6] (.int x4 :: st) u P := zl_Il h0_1586 rfl
theorem h0_1588 : xcd2 I 0 1588 = oI 1 1589 := ch_34 (Nat.le_of_ble_eq_true rfl) rfl
theorem q0_1588 : zl I 0 1588 [v0, v1, v2, v3, v4, v5, v6] st u P = zl I 0 1589 [v0, v1, v2, v3, v4, v5, v6] (.int 1 :: st) u P := zl_I h0_1588
theorem h0_1589 : xcd2 I 0 1589 = oB (fun x y => x + y) 1590 := ch_34 (Nat.le_of_ble_eq_true rfl) rfl
theorem q0_1589 : zl I 0 1589 [v0, v1, v2, v3, v4, v5, v6] (.int y1 :: .int y2 :: st) u P = zl I 0 1590 [v0, v1, v2, v3, v4, v5, v6] (.int (y2 + y1) :: st) u P := zl_B h0_1589
theorem h0_1590 : xcd2 I 0 1590 = oScr 1591 := ch_34 (Nat.le_of_ble_eq_true rfl) rfl
theorem q0_1590 : zl I 0 1590 [v0, v1, v2, v3, v4, v5, v6] (.int y1 :: .ref b1 :: st) u P = ((b1 = 2000000 ∧ xinb y1 (xN u 2000000)) ∧ zl I 0 1591 [v0, v1, v2, v3, v4, v5, v6] (.int (xI u 2000000 (xix y1)) :: st) u P) := zl_Scr h0_1590
theorem h0_1591 : xcd2 I 0 1591 = oAl 0 1592 := ch_34 (Nat.le_of_ble_eq_true rfl) rfl
theorem q0_1591 : zl I 0 1591 [.ref a0, v1, v2, v3, v4, v5, v6] st u P = zl I 0 1592 [.ref a0, v1, v2, v3, v4, v5, v6] (.ref a0 :: st) u P := zl_Al h0_1591 rfl
theorem h0_1592 : xcd2 I 0 1592 = oIl 4 1594 := ch_34 (Nat.le_of_ble_eq_true rfl) rfl
theorem q0_1592 : zl I 0 1592 [v0, v1, v2, v3, .int x4, v5, v6] st u P = zl I 0 1594 [v0, v1, v2, v3, .int x4, v5, v6] (.int x4 :: st) u P := zl_Il h0_1592 rfl
theorem h0_1594 : xcd2 I 0 1594 = oI 2 1595 := ch_34 (Nat.le_of_ble_eq_true rfl) rfl
theorem q0_1594 : zl I 0 1594 [v0, v1, v2, v3, v4, v5, v6] st u P = zl I 0 1595 [v0, v1, v2, v3, v4, v5, v6] (.int 2 :: st) u P := zl_I h0_1594
theorem h0_1595 : xcd2 I 0 1595 = oB (fun x y => x + y) 1596 := ch_34 (Nat.le_of_ble_eq_true rfl) rfl
theorem q0_1595 : zl I 0 1595 [v0, v1, v2, v3, v4, v5, v6] (.int y1 :: .int y2 :: st) u P = zl I 0 1596 [v0, v1, v2, v3, v4, v5, v6] (.int (y2 + y1) :: st) u P := zl_B h0_1595
theorem h0_1596 : xcd2 I 0 1596 = oScr 1597 := ch_34 (Nat.le_of_ble_eq_true rfl) rfl
theorem q0_1596 : zl I 0 1596 [v0, v1, v2, v3, v4, v5, v6] (.int y1 :: .ref b1 :: st) u P = ((b1 = 2000000 ∧ xinb y1 (xN u 2000000)) ∧ zl I 0 1597 [v0, v1, v2, v3, v4, v5, v6] (.int (xI u 2000000 (xix y1)) :: st) u P) := zl_Scr h0_1596
theorem h0_1597 : xcd2 I 0 1597 = oAl 0 1598 := ch_34 (Nat.le_of_ble_eq_true rfl) rfl
theorem q0_1597 : zl I 0 1597 [.ref a0, v1, v2, v3, v4, v5, v6] st u P = zl I 0 1598 [.ref a0, v1, v2, v3, v4, v5, v6] (.ref a0 :: st) u P := zl_Al h0_1597 rfl
theorem h0_1598 : xcd2 I 0 1598 = oIl 4 1600 := ch_34 (Nat.le_of_ble_eq_true rfl) rfl
theorem q0_1598 : zl I 0 1598 [v0, v1, v2, v3, .int x4, v5, v6] st u P = zl I 0 1600 [v0, v1, v2, v3, .int x4, v5, v6] (.int x4 :: st) u P := zl_Il h0_1598 rfl
theorem h0_1600 : xcd2 I 0 1600 = oI 3 1601 := ch_34 (Nat.le_of_ble_eq_true rfl) rfl
theorem q0_1600 : zl I 0 1600 [v0, v1, v2, v3, v4, v5, v6] st u P = zl I 0 1601 [v0, v1, v2, v3, v4, v5, v6] (.int 3 :: st) u P := zl_I h0_1600
theorem h0_1601 : xcd2 I 0 1601 = oB (fun x y => x + y) 1602 := ch_34 (Nat.le_of_ble_eq_true rfl) rfl
theorem q0_1601 : zl I 0 1601 [v0, v1, v2, v3, v4, v5, v6] (.int y1 :: .int y2 :: st) u P = zl I 0 1602 [v0, v1, v2, v3, v4, v5, v6] (.int (y2 + y1) :: st) u P := zl_B h0_1601
theorem h0_1602 : xcd2 I 0 1602 = oScr 1603 := ch_34 (Nat.le_of_ble_eq_true rfl) rfl
theorem q0_1602 : zl I 0 1602 [v0, v1, v2, v3, v4, v5, v6] (.int y1 :: .ref b1 :: st) u P = ((b1 = 2000000 ∧ xinb y1 (xN u 2000000)) ∧ zl I 0 1603 [v0, v1, v2, v3, v4, v5, v6] (.int (xI u 2000000 (xix y1)) :: st) u P) := zl_Scr h0_1602
theorem h0_1603 : xcd2 I 0 1603 = oCalV 11 268 3 1606 := ch_34 (Nat.le_of_ble_eq_true rfl) rfl
theorem q0_1603 : zl I 0 1603 [v0, v1, v2, v3, v4, v5, v6] (.int y3 :: .int y2 :: .int y1 :: .ref b8 :: st) u P = ((xIs u b8 11 ∧ xcat st ≤ 8) ∧ zl I 268 0 [.ref b8, .int y1, .int y2, .int y3] [] u (fun r u2 => zl I 0 1606 [v0, v1, v2, v3, v4, v5, v6] (r.toList ++ st) u2 P)) := zl_CV h0_1603 rfl rfl rfl ⟨Nat.le_of_ble_eq_true rfl, Nat.succ_ne_zero _, by decide⟩ rfl
theorem h0_1606 : xcd2 I 0 1606 = oCmp (fun x y => decide (x = y)) 2238 1609 := ch_34 (Nat.le_of_ble_eq_true rfl) rfl
theorem q0_1606 : zl I 0 1606 [v0, v1, v2, v3, v4, v5, v6] (.int y1 :: .int y2 :: st) u P = (if y2 = y1 then zl I 0 2238 [v0, v1, v2, v3, v4, v5, v6] st u P else zl I 0 1609 [v0, v1, v2, v3, v4, v5, v6] st u P) := zl_Cmp h0_1606
theorem h0_1609 : xcd2 I 0 1609 = oI 0 1610 := ch_34 (Nat.le_of_ble_eq_true rfl) rfl
theorem q0_1609 : zl I 0 1609 [v0, v1, v2, v3, v4, v5, v6] st u P = zl I 0 1610 [v0, v1, v2, v3, v4, v5, v6] (.int 0 :: st) u P := zl_I h0_1609
theorem h0_1610 : xcd2 I 0 1610 = oRz 0 := ch_34 (Nat.le_of_ble_eq_true rfl) rfl
theorem q0_1610 : zl I 0 1610 [v0, v1, v2, v3, v4, v5, v6] [.int y1] u P = ((y1 = 0 ∨ y1 = 1) ∧ P (some (.int y1)) u) := zl_Rz h0_1610
theorem h0_1611 : xcd2 I 0 1611 = oAl 1 1612 := ch_34 (Nat.le_of_ble_eq_true rfl) rfl
theorem q0_1611 : zl I 0 1611 [v0, .ref a1, v2, v3, v4, v5, v6] st u P = zl I 0 1612 [v0, .ref a1, v2, v3, v4, v5, v6] (.ref a1 :: st) u P := zl_Al h0_1611 rfl
theorem h0_1612 : xcd2 I 0 1612 = oCalV 10 136 0 1615 := ch_34 (Nat.le_of_ble_eq_true rfl) rfl
theorem q0_1612 : zl I 0 1612 [v0, v1, v2, v3, v4, v5, v6] (.ref b8 :: st) u P = ((xIs u b8 10 ∧ xcat st ≤ 8) ∧ zl I 136 0 [.ref b8] [] u (fun r u2 => zl I 0 1615 [v0, v1, v2, v3, v4, v5, v6] (r.toList ++ st) u2 P)) := zl_CV h0_1612 rfl rfl rfl ⟨Nat.le_of_ble_eq_true rfl, Nat.succ_ne_zero _, by decide⟩ rfl
theorem h0_1615 : xcd2 I 0 1615 = oAl 2 1616 := ch_35 (Nat.le_of_ble_eq_true rfl) rfl
theorem q0_1615 : zl I 0 1615 [v0, v1, .ref a2, v3, v4, v5, v6] st u P = zl I 0 1616 [v0, v1, .ref a2, v3, v4, v5, v6] (.ref a2 :: st) u P := zl_Al h0_1615 rfl
theorem h0_1616 : xcd2 I 0 1616 = oCalV 11 271 0 1619 := ch_35 (Nat.le_of_ble_eq_true rfl) rfl
theorem q0_1616 : zl I 0 1616 [v0, v1, v2, v3, v4, v5, v6] (.ref b8 :: st) u P = ((xIs u b8 11 ∧ xcat st ≤ 8) ∧ zl I 271 0 [.ref b8] [] u (fun r u2 => zl I 0 1619 [v0, v1, v2, v3, v4, v5, v6] (r.toList ++ st) u2 P)) := zl_CV h0_1616 rfl rfl rfl ⟨Nat.le_of_ble_eq_true rfl, Nat.succ_ne_zero _, by decide⟩ rfl
theorem h0_1619 : xcd2 I 0 1619 = oCmp (fun x y => decide (x = y)) 2238 1622 := ch_35 (Nat.le_of_ble_eq_true rfl) rfl
theorem q0_1619 : zl I 0 1619 [v0, v1, v2, v3, v4, v5, v6] (.int y1 :: .int y2 :: st) u P = (if y2 = y1 then zl I 0 2238 [v0, v1, v2, v3, v4, v5, v6] st u P else zl I 0 1622 [v0, v1, v2, v3, v4, v5, v6] st u P) := zl_Cmp h0_1619
theorem h0_1622 : xcd2 I 0 1622 = oI 0 1623 := ch_35 (Nat.le_of_ble_eq_true rfl) rfl
theorem q0_1622 : zl I 0 1622 [v0, v1, v2, v3, v4, v5, v6] st u P = zl I 0 1623 [v0, v1, v2, v3, v4, v5, v6] (.int 0 :: st) u P := zl_I h0_1622
theorem h0_1623 : xcd2 I 0 1623 = oRz 0 := ch_35 (Nat.le_of_ble_eq_true rfl) rfl
theorem q0_1623 : zl I 0 1623 [v0, v1, v2, v3, v4, v5, v6] [.int y1] u P = ((y1 = 0 ∨ y1 = 1) ∧ P (some (.int y1)) u) := zl_Rz h0_1623
theorem h0_1624 : xcd2 I 0 1624 = oAl 1 1625 := ch_35 (Nat.le_of_ble_eq_true rfl) rfl
theorem q0_1624 : zl I 0 1624 [v0, .ref a1, v2, v3, v4, v5, v6] st u P = zl I 0 1625 [v0, .ref a1, v2, v3, v4, v5, v6] (.ref a1 :: st) u P := zl_Al h0_1624 rfl
theorem h0_1625 : xcd2 I 0 1625 = oAl 0 1626 := ch_35 (Nat.le_of_ble_eq_true rfl) rfl
theorem q0_1625 : zl I 0 1625 [.ref a0, v1, v2, v3, v4, v5, v6] st u P = zl I 0 1626 [.ref a0, v1, v2, v3, v4, v5, v6] (.ref a0 :: st) u P := zl_Al h0_1625 rfl
theorem h0_1626 : xcd2 I 0 1626 = oIl 4 1628 := ch_35 (Nat.le_of_ble_eq_true rfl) rfl
theorem q0_1626 : zl I 0 1626 [v0, v1, v2, v3, .int x4, v5, v6] st u P = zl I 0 1628 [v0, v1, v2, v3, .int x4, v5, v6] (.int x4 :: st) u P := zl_Il h0_1626 rfl
theorem h0_1628 : xcd2 I 0 1628 = oI 1 1629 := ch_35 (Nat.le_of_ble_eq_true rfl) rfl
theorem q0_1628 : zl I 0 1628 [v0, v1, v2, v3, v4, v5, v6] st u P = zl I 0 1629 [v0, v1, v2, v3, v4, v5, v6] (.int 1 :: st) u P := zl_I h0_1628
theorem h0_1629 : xcd2 I 0 1629 = oB (fun x y => x + y) 1630 := ch_35 (Nat.le_of_ble_eq_true rfl) rfl
theorem q0_1629 : zl I 0 1629 [v0, v1, v2, v3, v4, v5, v6] (.int y1 :: .int y2 :: st) u P = zl I 0 1630 [v0, v1, v2, v3, v4, v5, v6] (.int (y2 + y1) :: st) u P := zl_B h0_1629
theorem h0_1630 : xcd2 I 0 1630 = oScr 1631 := ch_35 (Nat.le_of_ble_eq_true rfl) rfl
theorem q0_1630 : zl I 0 1630 [v0, v1, v2, v3, v4, v5, v6] (.int y1 :: .ref b1 :: st) u P = ((b1 = 2000000 ∧ xinb y1 (xN u 2000000)) ∧ zl I 0 1631 [v0, v1, v2, v3, v4, v5, v6] (.int (xI u 2000000 (xix y1)) :: st) u P) := zl_Scr h0_1630
theorem h0_1631 : xcd2 I 0 1631 = oAl 0 1632 := ch_35 (Nat.le_of_ble_eq_true rfl) rfl
theorem q0_1631 : zl I 0 1631 [.ref a0, v1, v2, v3, v4, v5, v6] st u P = zl I 0 1632 [.ref a0, v1, v2, v3, v4, v5, v6] (.ref a0 :: st) u P := zl_Al h0_1631 rfl
theorem h0_1632 : xcd2 I 0 1632 = oIl 4 1634 := ch_35 (Nat.le_of_ble_eq_true rfl) rfl
theorem q0_1632 : zl I 0 1632 [v0, v1, v2, v3, .int x4, v5, v6] st u P = zl I 0 1634 [v0, v1, v2, v3, .int x4, v5, v6] (.int x4 :: st) u P := zl_Il h0_1632 rfl
theorem h0_1634 : xcd2 I 0 1634 = oI 2 1635 := ch_35 (Nat.le_of_ble_eq_true rfl) rfl
theorem q0_1634 : zl I 0 1634 [v0, v1, v2, v3, v4, v5, v6] st u P = zl I 0 1635 [v0, v1, v2, v3, v4, v5, v6] (.int 2 :: st) u P := zl_I h0_1634
theorem h0_1635 : xcd2 I 0 1635 = oB (fun x y => x + y) 1636 := ch_35 (Nat.le_of_ble_eq_true rfl) rfl
theorem q0_1635 : zl I 0 1635 [v0, v1, v2, v3, v4, v5, v6] (.int y1 :: .int y2 :: st) u P = zl I 0 1636 [v0, v1, v2, v3, v4, v5, v6] (.int (y2 + y1) :: st) u P := zl_B h0_1635
theorem h0_1636 : xcd2 I 0 1636 = oScr 1637 := ch_35 (Nat.le_of_ble_eq_true rfl) rfl
theorem q0_1636 : zl I 0 1636 [v0, v1, v2, v3, v4, v5, v6] (.int y1 :: .ref b1 :: st) u P = ((b1 = 2000000 ∧ xinb y1 (xN u 2000000)) ∧ zl I 0 1637 [v0, v1, v2, v3, v4, v5, v6] (.int (xI u 2000000 (xix y1)) :: st) u P) := zl_Scr h0_1636
theorem h0_1637 : xcd2 I 0 1637 = oCalV 10 137 2 1640 := ch_35 (Nat.le_of_ble_eq_true rfl) rfl
theorem q0_1637 : zl I 0 1637 [v0, v1, v2, v3, v4, v5, v6] (.int y2 :: .int y1 :: .ref b8 :: st) u P = ((xIs u b8 10 ∧ xcat st ≤ 8) ∧ zl I 137 0 [.ref b8, .int y1, .int y2, .null, .null] [] u (fun r u2 => zl I 0 1640 [v0, v1, v2, v3, v4, v5, v6] (r.toList ++ st) u2 P)) := zl_CV h0_1637 rfl rfl rfl ⟨Nat.le_of_ble_eq_true rfl, Nat.succ_ne_zero _, by decide⟩ rfl
theorem h0_1640 : xcd2 I 0 1640 = oAl 2 1641 := ch_35 (Nat.le_of_ble_eq_true rfl) rfl
theorem q0_1640 : zl I 0 1640 [v0, v1, .ref a2, v3, v4, v5, v6] st u P = zl I 0 1641 [v0, v1, .ref a2, v3, v4, v5, v6] (.ref a2 :: st) u P := zl_Al h0_1640 rfl
theorem h0_1641 : xcd2 I 0 1641 = oAl 0 1642 := ch_35 (Nat.le_of_ble_eq_true rfl) rfl
theorem q0_1641 : zl I 0 1641 [.ref a0, v1, v2, v3, v4, v5, v6] st u P = zl I 0 1642 [.ref a0, v1, v2, v3, v4, v5, v6] (.ref a0 :: st) u P := zl_Al h0_1641 rfl
theorem h0_1642 : xcd2 I 0 1642 = oIl 4 1644 := ch_35 (Nat.le_of_ble_eq_true rfl) rfl
theorem q0_1642 : zl I 0 1642 [v0, v1, v2, v3, .int x4, v5, v6] st u P = zl I 0 1644 [v0, v1, v2, v3, .int x4, v5, v6] (.int x4 :: st) u P := zl_Il h0_1642 rfl
theorem h0_1644 : xcd2 I 0 1644 = oI 1 1645 := ch_35 (Nat.le_of_ble_eq_true rfl) rfl
theorem q0_1644 : zl I 0 1644 [v0, v1, v2, v3, v4, v5, v6] st u P = zl I 0 1645 [v0, v1, v2, v3, v4, v5, v6] (.int 1 :: st) u P := zl_I h0_1644
theorem h0_1645 : xcd2 I 0 1645 = oB (fun x y => x + y) 1646 := ch_35 (Nat.le_of_ble_eq_true rfl) rfl
theorem q0_1645 : zl I 0 1645 [v0, v1, v2, v3, v4, v5, v6] (.int y1 :: .int y2 :: st) u P = zl I 0 1646 [v0, v1, v2, v3, v4, v5, v6] (.int (y2 + y1) :: st) u P := zl_B h0_1645
theorem h0_1646 : xcd2 I 0 1646 = oScr 1647 := ch_35 (Nat.le_of_ble_eq_true rfl) rfl
theorem q0_1646 : zl I 0 1646 [v0, v1, v2, v3, v4, v5, v6] (.int y1 :: .ref b1 :: st) u P = ((b1 = 2000000 ∧ xinb y1 (xN u 2000000)) ∧ zl I 0 1647 [v0, v1, v2, v3, v4, v5, v6] (.int (xI u 2000000 (xix y1)) :: st) u P) := zl_Scr h0_1646
theorem h0_1647 : xcd2 I 0 1647 = oAl 0 1648 := ch_35 (Nat.le_of_ble_eq_true rfl) rfl
theorem q0_1647 : zl I 0 1647 [.ref a0, v1, v2, v3, v4, v5, v6] st u P = zl I 0 1648 [.ref a0, v1, v2, v3, v4, v5, v6] (.ref a0 :: st) u P := zl_Al h0_1647 rfl
theorem h0_1648 : xcd2 I 0 1648 = oIl 4 1650 := ch_35 (Nat.le_of_ble_eq_true rfl) rfl
theorem q0_1648 : zl I 0 1648 [v0, v1, v2, v3, .int x4, v5, v6] st u P = zl I 0 1650 [v0, v1, v2, v3, .int x4, v5, v6] (.int x4 :: st) u P := zl_Il h0_1648 rfl
theorem h0_1650 : xcd2 I 0 1650 = oI 2 1651 := ch_35 (Nat.le_of_ble_eq_true rfl) rfl
theorem q0_1650 : zl I 0 1650 [v0, v1, v2, v3, v4, v5, v6] st u P = zl I 0 1651 [v0, v1, v2, v3, v4, v5, v6] (.int 2 :: st) u P := zl_I h0_1650
theorem h0_1651 : xcd2 I 0 1651 = oB (fun x y => x + y) 1652 := ch_35 (Nat.le_of_ble_eq_true rfl) rfl
theorem q0_1651 : zl I 0 1651 [v0, v1, v2, v3, v4, v5, v6] (.int y1 :: .int y2 :: st) u P = zl I 0 1652 [v0, v1, v2, v3, v4, v5, v6] (.int (y2 + y1) :: st) u P := zl_B h0_1651
theorem h0_1652 : xcd2 I 0 1652 = oScr 1653 := ch_35 (Nat.le_of_ble_eq_true rfl) rfl
theorem q0_1652 : zl I 0 1652 [v0, v1, v2, v3, v4, v5, v6] (.int y1 :: .ref b1 :: st) u P = ((b1 = 2000000 ∧ xinb y1 (xN u 2000000)) ∧ zl I 0 1653 [v0, v1, v2, v3, v4, v5, v6] (.int (xI u 2000000 (xix y1)) :: st) u P) := zl_Scr h0_1652
theorem h0_1653 : xcd2 I 0 1653 = oCalV 11 272 2 1656 := ch_35 (Nat.le_of_ble_eq_true rfl) rfl
theorem q0_1653 : zl I 0 1653 [v0, v1, v2, v3, v4, v5, v6] (.int y2 :: .int y1 :: .ref b8 :: st) u P = ((xIs u b8 11 ∧ xcat st ≤ 8) ∧ zl I 272 0 [.ref b8, .int y1, .int y2] [] u (fun r u2 => zl I 0 1656 [v0, v1, v2, v3, v4, v5, v6] (r.toList ++ st) u2 P)) := zl_CV h0_1653 rfl rfl rfl ⟨Nat.le_of_ble_eq_true rfl, Nat.succ_ne_zero _, by decide⟩ rfl
theorem h0_1656 : xcd2 I 0 1656 = oCmp (fun x y => decide (x = y)) 2238 1659 := ch_35 (Nat.le_of_ble_eq_true rfl) rfl
theorem q0_1656 : zl I 0 1656 [v0, v1, v2, v3, v4, v5, v6] (.int y1 :: .int y2 :: st) u P = (if y2 = y1 then zl I 0 2238 [v0, v1, v2, v3, v4, v5, v6] st u P else zl I 0 1659 [v0, v1, v2, v3, v4, v5, v6] st u P) := zl_Cmp h0_1656
theorem h0_1659 : xcd2 I 0 1659 = oI 0 1660 := ch_36 (Nat.le_of_ble_eq_true rfl) rfl
theorem q0_1659 : zl I 0 1659 [v0, v1, v2, v3, v4, v5, v6] st u P = zl I 0 1660 [v0, v1, v2, v3, v4, v5, v6] (.int 0 :: st) u P := zl_I h0_1659
theorem h0_1660 : xcd2 I 0 1660 = oRz 0 := ch_36 (Nat.le_of_ble_eq_true rfl) rfl
theorem q0_1660 : zl I 0 1660 [v0, v1, v2, v3, v4, v5, v6] [.int y1] u P = ((y1 = 0 ∨ y1 = 1) ∧ P (some (.int y1)) u) := zl_Rz h0_1660
theorem h0_1661 : xcd2 I 0 1661 = oAl 1 1662 := ch_36 (Nat.le_of_ble_eq_true rfl) rfl
theorem q0_1661 : zl I 0 1661 [v0, .ref a1, v2, v3, v4, v5, v6] st u P = zl I 0 1662 [v0, .ref a1, v2, v3, v4, v5, v6] (.ref a1 :: st) u P := zl_Al h0_1661 rfl
theorem h0_1662 : xcd2 I 0 1662 = oAl 0 1663 := ch_36 (Nat.le_of_ble_eq_true rfl) rfl
theorem q0_1662 : zl I 0 1662 [.ref a0, v1, v2, v3, v4, v5, v6] st u P = zl I 0 1663 [.ref a0, v1, v2, v3, v4, v5, v6] (.ref a0 :: st) u P := zl_Al h0_1662 rfl
theorem h0_1663 : xcd2 I 0 1663 = oIl 4 1665 := ch_36 (Nat.le_of_ble_eq_true rfl) rfl
theorem q0_1663 : zl I 0 1663 [v0, v1, v2, v3, .int x4, v5, v6] st u P = zl I 0 1665 [v0, v1, v2, v3, .int x4, v5, v6] (.int x4 :: st) u P := zl_Il h0_1663 rfl
theorem h0_1665 : xcd2 I 0 1665 = oI 1 1666 := ch_36 (Nat.le_of_ble_eq_true rfl) rfl
theorem q0_1665 : zl I 0 1665 [v0, v1, v2, v3, v4, v5, v6] st u P = zl I 0 1666 [v0, v1, v2, v3, v4, v5, v6] (.int 1 :: st) u P := zl_I h0_1665
theorem h0_1666 : xcd2 I 0 1666 = oB (fun x y => x + y) 1667 := ch_36 (Nat.le_of_ble_eq_true rfl) rfl
theorem q0_1666 : zl I 0 1666 [v0, v1, v2, v3, v4, v5, v6] (.int y1 :: .int y2 :: st) u P = zl I 0 1667 [v0, v1, v2, v3, v4, v5, v6] (.int (y2 + y1) :: st) u P := zl_B h0_1666
theorem h0_1667 : xcd2 I 0 1667 = oScr 1668 := ch_36 (Nat.le_of_ble_eq_true rfl) rfl
theorem q0_1667 : zl I 0 1667 [v0, v1, v2, v3, v4, v5, v6] (.int y1 :: .ref b1 :: st) u P = ((b1 = 2000000 ∧ xinb y1 (xN u 2000000)) ∧ zl I 0 1668 [v0, v1, v2, v3, v4, v5, v6] (.int (xI u 2000000 (xix y1)) :: st) u P) := zl_Scr h0_1667
theorem h0_1668 : xcd2 I 0 1668 = oAl 0 1669 := ch_36 (Nat.le_of_ble_eq_true rfl) rfl
theorem q0_1668 : zl I 0 1668 [.ref a0, v1, v2, v3, v4, v5, v6] st u P = zl I 0 1669 [.ref a0, v1, v2, v3, v4, v5, v6] (.ref a0 :: st) u P := zl_Al h0_1668 rfl
theorem h0_1669 : xcd2 I 0 1669 = oIl 4 1671 := ch_36 (Nat.le_of_ble_eq_true rfl) rfl
theorem q0_1669 : zl I 0 1669 [v0, v1, v2, v3, .int x4, v5, v6] st u P = zl I 0 1671 [v0, v1, v2, v3, .int x4, v5, v6] (.int x4 :: st) u P := zl_Il h0_1669 rfl
theorem h0_1671 : xcd2 I 0 1671 = oI 2 1672 := ch_36 (Nat.le_of_ble_eq_true rfl) rfl
theorem q0_1671 : zl I 0 1671 [v0, v1, v2, v3, v4, v5, v6] st u P = zl I 0 1672 [v0, v1, v2, v3, v4, v5, v6] (.int 2 :: st) u P := zl_I h0_1671
theorem h0_1672 : xcd2 I 0 1672 = oB (fun x y => x + y) 1673 := ch_36 (Nat.le_of_ble_eq_true rfl) rfl
theorem q0_1672 : zl I 0 1672 [v0, v1, v2, v3, v4, v5, v6] (.int y1 :: .int y2 :: st) u P = zl I 0 1673 [v0, v1, v2, v3, v4, v5, v6] (.int (y2 + y1) :: st) u P := zl_B h0_1672
theorem h0_1673 : xcd2 I 0 1673 = oScr 1674 := ch_36 (Nat.le_of_ble_eq_true rfl) rfl
theorem q0_1673 : zl I 0 1673 [v0, v1, v2, v3, v4, v5, v6] (.int y1 :: .ref b1 :: st) u P = ((b1 = 2000000 ∧ xinb y1 (xN u 2000000)) ∧ zl I 0 1674 [v0, v1, v2, v3, v4, v5, v6] (.int (xI u 2000000 (xix y1)) :: st) u P) := zl_Scr h0_1673
theorem h0_1674 : xcd2 I 0 1674 = oCalV 10 138 2 1677 := ch_36 (Nat.le_of_ble_eq_true rfl) rfl
theorem q0_1674 : zl I 0 1674 [v0, v1, v2, v3, v4, v5, v6] (.int y2 :: .int y1 :: .ref b8 :: st) u P = ((xIs u b8 10 ∧ xcat st ≤ 8) ∧ zl I 138 0 [.ref b8, .int y1, .int y2] [] u (fun r u2 => zl I 0 1677 [v0, v1, v2, v3, v4, v5, v6] (r.toList ++ st) u2 P)) := zl_CV h0_1674 rfl rfl rfl ⟨Nat.le_of_ble_eq_true rfl, Nat.succ_ne_zero _, by decide⟩ rfl
theorem h0_1677 : xcd2 I 0 1677 = oAl 2 1678 := ch_36 (Nat.le_of_ble_eq_true rfl) rfl
theorem q0_1677 : zl I 0 1677 [v0, v1, .ref a2, v3, v4, v5, v6] st u P = zl I 0 1678 [v0, v1, .ref a2, v3, v4, v5, v6] (.ref a2 :: st) u P := zl_Al h0_1677 rfl
theorem h0_1678 : xcd2 I 0 1678 = oAl 0 1679 := ch_36 (Nat.le_of_ble_eq_true rfl) rfl
theorem q0_1678 : zl I 0 1678 [.ref a0, v1, v2, v3, v4, v5, v6] st u P = zl I 0 1679 [.ref a0, v1, v2, v3, v4, v5, v6] (.ref a0 :: st) u P := zl_Al h0_1678 rfl
theorem h0_1679 : xcd2 I 0 1679 = oIl 4 1681 := ch_36 (Nat.le_of_ble_eq_true rfl) rfl
theorem q0_1679 : zl I 0 1679 [v0, v1, v2, v3, .int x4, v5, v6] st u P = zl I 0 1681 [v0, v1, v2, v3, .int x4, v5, v6] (.int x4 :: st) u P := zl_Il h0_1679 rfl
theorem h0_1681 : xcd2 I 0 1681 = oI 1 1682 := ch_36 (Nat.le_of_ble_eq_true rfl) rfl
theorem q0_1681 : zl I 0 1681 [v0, v1, v2, v3, v4, v5, v6] st u P = zl I 0 1682 [v0, v1, v2, v3, v4, v5, v6] (.int 1 :: st) u P := zl_I h0_1681
theorem h0_1682 : xcd2 I 0 1682 = oB (fun x y => x + y) 1683 := ch_36 (Nat.le_of_ble_eq_true rfl) rfl
theorem q0_1682 : zl I 0 1682 [v0, v1, v2, v3, v4, v5, v6] (.int y1 :: .int y2 :: st) u P = zl I 0 1683 [v0, v1, v2, v3, v4, v5, v6] (.int (y2 + y1) :: st) u P := zl_B h0_1682
theorem h0_1683 : xcd2 I 0 1683 = oScr 1684 := ch_36 (Nat.le_of_ble_eq_true rfl) rfl
theorem q0_1683 : zl I 0 1683 [v0, v1, v2, v3, v4, v5, v6] (.int y1 :: .ref b1 :: st) u P = ((b1 = 2000000 ∧ xinb y1 (xN u 2000000)) ∧ zl I 0 1684 [v0, v1, v2, v3, v4, v5, v6] (.int (xI u 2000000 (xix y1)) :: st) u P) := zl_Scr h0_1683
theorem h0_1684 : xcd2 I 0 1684 = oAl 0 1685 := ch_36 (Nat.le_of_ble_eq_true rfl) rfl
theorem q0_1684 : zl I 0 1684 [.ref a0, v1, v2, v3, v4, v5, v6] st u P = zl I 0 1685 [.ref a0, v1, v2, v3, v4, v5, v6] (.ref a0 :: st) u P := zl_Al h0_1684 rfl
theorem h0_1685 : xcd2 I 0 1685 = oIl 4 1687 := ch_36 (Nat.le_of_ble_eq_true rfl) rfl
theorem q0_1685 : zl I 0 1685 [v0, v1, v2, v3, .int x4, v5, v6] st u P = zl I 0 1687 [v0, v1, v2, v3, .int x4, v5, v6] (.int x4 :: st) u P := zl_Il h0_1685 rfl
theorem h0_1687 : xcd2 I 0 1687 = oI 2 1688 := ch_36 (Nat.le_of_ble_eq_true rfl) rfl
theorem q0_1687 : zl I 0 1687 [v0, v1, v2, v3, v4, v5, v6] st u P = zl I 0 1688 [v0, v1, v2, v3, v4, v5, v6] (.int 2 :: st) u P := zl_I h0_1687
theorem h0_1688 : xcd2 I 0 1688 = oB (fun x y => x + y) 1689 := ch_36 (Nat.le_of_ble_eq_true rfl) rfl
theorem q0_1688 : zl I 0 1688 [v0, v1, v2, v3, v4, v5, v6] (.int y1 :: .int y2 :: st) u P = zl I 0 1689 [v0, v1, v2, v3, v4, v5, v6] (.int (y2 + y1) :: st) u P := zl_B h0_1688
theorem h0_1689 : xcd2 I 0 1689 = oScr 1690 := ch_36 (Nat.le_of_ble_eq_true rfl) rfl
theorem q0_1689 : zl I 0 1689 [v0, v1, v2, v3, v4, v5, v6] (.int y1 :: .ref b1 :: st) u P = ((b1 = 2000000 ∧ xinb y1 (xN u 2000000)) ∧ zl I 0 1690 [v0, v1, v2, v3, v4, v5, v6] (.int (xI u 2000000 (xix y1)) :: st) u P) := zl_Scr h0_1689
theorem h0_1690 : xcd2 I 0 1690 = oCalV 11 273 2 1693 := ch_36 (Nat.le_of_ble_eq_true rfl) rfl
theorem q0_1690 : zl I 0 1690 [v0, v1, v2, v3, v4, v5, v6] (.int y2 :: .int y1 :: .ref b8 :: st) u P = ((xIs u b8 11 ∧ xcat st ≤ 8) ∧ zl I 273 0 [.ref b8, .int y1, .int y2, .null, .null] [] u (fun r u2 => zl I 0 1693 [v0, v1, v2, v3, v4, v5, v6] (r.toList ++ st) u2 P)) := zl_CV h0_1690 rfl rfl rfl ⟨Nat.le_of_ble_eq_true rfl, Nat.succ_ne_zero _, by decide⟩ rfl
theorem h0_1693 : xcd2 I 0 1693 = oCmp (fun x y => decide (x = y)) 2238 1696 := ch_36 (Nat.le_of_ble_eq_true rfl) rfl
theorem q0_1693 : zl I 0 1693 [v0, v1, v2, v3, v4, v5, v6] (.int y1 :: .int y2 :: st) u P = (if y2 = y1 then zl I 0 2238 [v0, v1, v2, v3, v4, v5, v6] st u P else zl I 0 1696 [v0, v1, v2, v3, v4, v5, v6] st u P) := zl_Cmp h0_1693
theorem h0_1696 : xcd2 I 0 1696 = oI 0 1697 := ch_36 (Nat.le_of_ble_eq_true rfl) rfl
theorem q0_1696 : zl I 0 1696 [v0, v1, v2, v3, v4, v5, v6] st u P = zl I 0 1697 [v0, v1, v2, v3, v4, v5, v6] (.int 0 :: st) u P := zl_I h0_1696
theorem h0_1697 : xcd2 I 0 1697 = oRz 0 := ch_36 (Nat.le_of_ble_eq_true rfl) rfl
theorem q0_1697 : zl I 0 1697 [v0, v1, v2, v3, v4, v5, v6] [.int y1] u P = ((y1 = 0 ∨ y1 = 1) ∧ P (some (.int y1)) u) := zl_Rz h0_1697
theorem h0_1698 : xcd2 I 0 1698 = oAl 1 1699 := ch_36 (Nat.le_of_ble_eq_true rfl) rfl
theorem q0_1698 : zl I 0 1698 [v0, .ref a1, v2, v3, v4, v5, v6] st u P = zl I 0 1699 [v0, .ref a1, v2, v3, v4, v5, v6] (.ref a1 :: st) u P := zl_Al h0_1698 rfl
theorem h0_1699 : xcd2 I 0 1699 = oCalV 10 139 0 1702 := ch_37 (Nat.le_of_ble_eq_true rfl) rfl
theorem q0_1699 : zl I 0 1699 [v0, v1, v2, v3, v4, v5, v6] (.ref b8 :: st) u P = ((xIs u b8 10 ∧ xcat st ≤ 8) ∧ zl I 139 0 [.ref b8] [] u (fun r u2 => zl I 0 1702 [v0, v1, v2, v3, v4, v5, v6] (r.toList ++ st) u2 P)) := zl_CV h0_1699 rfl rfl rfl ⟨Nat.le_of_ble_eq_true rfl, Nat.succ_ne_zero _, by decide⟩ rfl
theorem h0_1702 : xcd2 I 0 1702 = oAl 2 1703 := ch_37 (Nat.le_of_ble_eq_true rfl) rfl
theorem q0_1702 : zl I 0 1702 [v0, v1, .ref a2, v3, v4, v5, v6] st u P = zl I 0 1703 [v0, v1, .ref a2, v3, v4, v5, v6] (.ref a2 :: st) u P := zl_Al h0_1702 rfl
theorem h0_1703 : xcd2 I 0 1703 = oCalV 11 279 0 1706 := ch_37 (Nat.le_of_ble_eq_true rfl) rfl
theorem q0_1703 : zl I 0 1703 [v0, v1, v2, v3, v4, v5, v6] (.ref b8 :: st) u P = ((xIs u b8 11 ∧ xcat st ≤ 8) ∧ zl I 279 0 [.ref b8] [] u (fun r u2 => zl I 0 1706 [v0, v1, v2, v3, v4, v5, v6] (r.toList ++ st) u2 P)) := zl_CV h0_1703 rfl rfl rfl ⟨Nat.le_of_ble_eq_true rfl, Nat.succ_ne_zero _, by decide⟩ rfl
theorem h0_1706 : xcd2 I 0 1706 = oCmp (fun x y => decide (x = y)) 2238 1709 := ch_37 (Nat.le_of_ble_eq_true rfl) rfl
theorem q0_1706 : zl I 0 1706 [v0, v1, v2, v3, v4, v5, v6] (.int y1 :: .int y2 :: st) u P = (if y2 = y1 then zl I 0 2238 [v0, v1, v2, v3, v4, v5, v6] st u P else zl I 0 1709 [v0, v1, v2, v3, v4, v5, v6] st u P) := zl_Cmp h0_1706
theorem h0_1709 : xcd2 I 0 1709 = oI 0 1710 := ch_37 (Nat.le_of_ble_eq_true rfl) rfl
theorem q0_1709 : zl I 0 1709 [v0, v1, v2, v3, v4, v5, v6] st u P = zl I 0 1710 [v0, v1, v2, v3, v4, v5, v6] (.int 0 :: st) u P := zl_I h0_1709
theorem h0_1710 : xcd2 I 0 1710 = oRz 0 := ch_37 (Nat.le_of_ble_eq_true rfl) rfl
theorem q0_1710 : zl I 0 1710 [v0, v1, v2, v3, v4, v5, v6] [.int y1] u P = ((y1 = 0 ∨ y1 = 1) ∧ P (some (.int y1)) u) := zl_Rz h0_1710
theorem h0_1711 : xcd2 I 0 1711 = oAl 1 1712 := ch_37 (Nat.le_of_ble_eq_true rfl) rfl
theorem q0_1711 : zl I 0 1711 [v0, .ref a1, v2, v3, v4, v5, v6] st u P = zl I 0 1712 [v0, .ref a1, v2, v3, v4, v5, v6] (.ref a1 :: st) u P := zl_Al h0_1711 rfl
theorem h0_1712 : xcd2 I 0 1712 = oAl 0 1713 := ch_37 (Nat.le_of_ble_eq_true rfl) rfl
theorem q0_1712 : zl I 0 1712 [.ref a0, v1, v2, v3, v4, v5, v6] st u P = zl I 0 1713 [.ref a0, v1, v2, v3, v4, v5, v6] (.ref a0 :: st) u P := zl_Al h0_1712 rfl
theorem h0_1713 : xcd2 I 0 1713 = oIl 4 1715 := ch_37 (Nat.le_of_ble_eq_true rfl) rfl
theorem q0_1713 : zl I 0 1713 [v0, v1, v2, v3, .int x4, v5, v6] st u P = zl I 0 1715 [v0, v1, v2, v3, .int x4, v5, v6] (.int x4 :: st) u P := zl_Il h0_1713 rfl
theorem h0_1715 : xcd2 I 0 1715 = oI 1 1716 := ch_37 (Nat.le_of_ble_eq_true rfl) rfl
theorem q0_1715 : zl I 0 1715 [v0, v1, v2, v3, v4, v5, v6] st u P = zl I 0 1716 [v0, v1, v2, v3, v4, v5, v6] (.int 1 :: st) u P := zl_I h0_1715
theorem h0_1716 : xcd2 I 0 1716 = oB (fun x y => x + y) 1717 := ch_37 (Nat.le_of_ble_eq_true rfl) rfl
theorem q0_1716 : zl I 0 1716 [v0, v1, v2, v3, v4, v5, v6] (.int y1 :: .int y2 :: st) u P = zl I 0 1717 [v0, v1, v2, v3, v4, v5, v6] (.int (y2 + y1) :: st) u P := zl_B h0_1716
theorem h0_1717 : xcd2 I 0 1717 = oScr 1718 := ch_37 (Nat.le_of_ble_eq_true rfl) rfl
theorem q0_1717 : zl I 0 1717 [v0, v1, v2, v3, v4, v5, v6] (.int y1 :: .ref b1 :: st) u P = ((b1 = 2000000 ∧ xinb y1 (xN u 2000000)) ∧ zl I 0 1718 [v0, v1, v2, v3, v4, v5, v6] (.int (xI u 2000000 (xix y1)) :: st) u P) := zl_Scr h0_1717
theorem h0_1718 : xcd2 I 0 1718 = oAl 0 1719 := ch_37 (Nat.le_of_ble_eq_true rfl) rfl
theorem q0_1718 : zl I 0 1718 [.ref a0, v1, v2, v3, v4, v5, v6] st u P = zl I 0 1719 [.ref a0, v1, v2, v3, v4, v5, v6] (.ref a0 :: st) u P := zl_Al h0_1718 rfl
theorem h0_1719 : xcd2 I 0 1719 = oIl 4 1721 := ch_37 (Nat.le_of_ble_eq_true rfl) rfl
theorem q0_1719 : zl I 0 1719 [v0, v1, v2, v3, .int x4, v5, v6] st u P = zl I 0 1721 [v0, v1, v2, v3, .int x4, v5, v6] (.int x4 :: st) u P := zl_Il h0_1719 rfl
theorem h0_1721 : xcd2 I 0 1721 = oI 2 1722 := ch_37 (Nat.le_of_ble_eq_true rfl) rfl
theorem q0_1721 : zl I 0 1721 [v0, v1, v2, v3, v4, v5, v6] st u P = zl I 0 1722 [v0, v1, v2, v3, v4, v5, v6] (.int 2 :: st) u P := zl_I h0_1721
theorem h0_1722 : xcd2 I 0 1722 = oB (fun x y => x + y) 1723 := ch_37 (Nat.le_of_ble_eq_true rfl) rfl
theorem q0_1722 : zl I 0 1722 [v0, v1, v2, v3, v4, v5, v6] (.int y1 :: .int y2 :: st) u P = zl I 0 1723 [v0, v1, v2, v3, v4, v5, v6] (.int (y2 + y1) :: st) u P := zl_B h0_1722
theorem h0_1723 : xcd2 I 0 1723 = oScr 1724 := ch_37 (Nat.le_of_ble_eq_true rfl) rfl
theorem q0_1723 : zl I 0 1723 [v0, v1, v2, v3, v4, v5, v6] (.int y1 :: .ref b1 :: st) u P = ((b1 = 2000000 ∧ xinb y1 (xN u 2000000)) ∧ zl I 0 1724 [v0, v1, v2, v3, v4, v5, v6] (.int (xI u 2000000 (xix y1)) :: st) u P) := zl_Scr h0_1723
theorem h0_1724 : xcd2 I 0 1724 = oCalV 10 140 2 1727 := ch_37 (Nat.le_of_ble_eq_true rfl) rfl
theorem q0_1724 : zl I 0 1724 [v0, v1, v2, v3, v4, v5, v6] (.int y2 :: .int y1 :: .ref b8 :: st) u P = ((xIs u b8 10 ∧ xcat st ≤ 8) ∧ zl I 140 0 [.ref b8, .int y1, .int y2] [] u (fun r u2 => zl I 0 1727 [v0, v1, v2, v3, v4, v5, v6] (r.toList ++ st) u2 P)) := zl_CV h0_1724 rfl rfl rfl ⟨Nat.le_of_ble_eq_true rfl, Nat.succ_ne_zero _, by decide⟩ rfl
theorem h0_1727 : xcd2 I 0 1727 = oAl 2 1728 := ch_37 (Nat.le_of_ble_eq_true rfl) rfl
theorem q0_1727 : zl I 0 1727 [v0, v1, .ref a2, v3, v4, v5, v6] st u P = zl I 0 1728 [v0, v1, .ref a2, v3, v4, v5, v6] (.ref a2 :: st) u P := zl_Al h0_1727 rfl
theorem h0_1728 : xcd2 I 0 1728 = oAl 0 1729 := ch_37 (Nat.le_of_ble_eq_true rfl) rfl
theorem q0_1728 : zl I 0 1728 [.ref a0, v1, v2, v3, v4, v5, v6] st u P = zl I 0 1729 [.ref a0, v1, v2, v3, v4, v5, v6] (.ref a0 :: st) u P := zl_Al h0_1728 rfl
theorem h0_1729 : xcd2 I 0 1729 = oIl 4 1731 := ch_37 (Nat.le_of_ble_eq_true rfl) rfl
theorem q0_1729 : zl I 0 1729 [v0, v1, v2, v3, .int x4, v5, v6] st u P = zl I 0 1731 [v0, v1, v2, v3, .int x4, v5, v6] (.int x4 :: st) u P := zl_Il h0_1729 rfl
theorem h0_1731 : xcd2 I 0 1731 = oI 1 1732 := ch_37 (Nat.le_of_ble_eq_true rfl) rfl
theorem q0_1731 : zl I 0 1731 [v0, v1, v2, v3, v4, v5, v6] st u P = zl I 0 1732 [v0, v1, v2, v3, v4, v5, v6] (.int 1 :: st) u P := zl_I h0_1731
theorem h0_1732 : xcd2 I 0 1732 = oB (fun x y => x + y) 1733 := ch_37 (Nat.le_of_ble_eq_true rfl) rfl
theorem q0_1732 : zl I 0 1732 [v0, v1, v2, v3, v4, v5, v6] (.int y1 :: .int y2 :: st) u P = zl I 0 1733 [v0, v1, v2, v3, v4, v5, v6] (.int (y2 + y1) :: st) u P := zl_B h0_1732
theorem h0_1733 : xcd2 I 0 1733 = oScr 1734 := ch_37 (Nat.le_of_ble_eq_true rfl) rfl
theorem q0_1733 : zl I 0 1733 [v0, v1, v2, v3, v4, v5, v6] (.int y1 :: .ref b1 :: st) u P = ((b1 = 2000000 ∧ xinb y1 (xN u 2000000)) ∧ zl I 0 1734 [v0, v1, v2, v3, v4, v5, v6] (.int (xI u 2000000 (xix y1)) :: st) u P) := zl_Scr h0_1733
theorem h0_1734 : xcd2 I 0 1734 = oAl 0 1735 := ch_37 (Nat.le_of_ble_eq_true rfl) rfl
theorem q0_1734 : zl I 0 1734 [.ref a0, v1, v2, v3, v4, v5, v6] st u P = zl I 0 1735 [.ref a0, v1, v2, v3, v4, v5, v6] (.ref a0 :: st) u P := zl_Al h0_1734 rfl
theorem h0_1735 : xcd2 I 0 1735 = oIl 4 1737 := ch_37 (Nat.le_of_ble_eq_true rfl) rfl
theorem q0_1735 : zl I 0 1735 [v0, v1, v2, v3, .int x4, v5, v6] st u P = zl I 0 1737 [v0, v1, v2, v3, .int x4, v5, v6] (.int x4 :: st) u P := zl_Il h0_1735 rfl
theorem h0_1737 : xcd2 I 0 1737 = oI 2 1738 := ch_37 (Nat.le_of_ble_eq_true rfl) rfl
theorem q0_1737 : zl I 0 1737 [v0, v1, v2, v3, v4, v5, v6] st u P = zl I 0 1738 [v0, v1, v2, v3, v4, v5, v6] (.int 2 :: st) u P := zl_I h0_1737
theorem h0_1738 : xcd2 I 0 1738 = oB (fun x y => x + y) 1739 := ch_37 (Nat.le_of_ble_eq_true rfl) rfl
theorem q0_1738 : zl I 0 1738 [v0, v1, v2, v3, v4, v5, v6] (.int y1 :: .int y2 :: st) u P = zl I 0 1739 [v0, v1, v2, v3, v4, v5, v6] (.int (y2 + y1) :: st) u P := zl_B h0_1738
theorem h0_1739 : xcd2 I 0 1739 = oScr 1740 := ch_37 (Nat.le_of_ble_eq_true rfl) rfl
theorem q0_1739 : zl I 0 1739 [v0, v1, v2, v3, v4, v5, v6] (.int y1 :: .ref b1 :: st) u P = ((b1 = 2000000 ∧ xinb y1 (xN u 2000000)) ∧ zl I 0 1740 [v0, v1, v2, v3, v4, v5, v6] (.int (xI u 2000000 (xix y1)) :: st) u P) := zl_Scr h0_1739
theorem h0_1740 : xcd2 I 0 1740 = oCalV 11 280 2 1743 := ch_37 (Nat.le_of_ble_eq_true rfl) rfl
theorem q0_1740 : zl I 0 1740 [v0, v1, v2, v3, v4, v5, v6] (.int y2 :: .int y1 :: .ref b8 :: st) u P = ((xIs u b8 11 ∧ xcat st ≤ 8) ∧ zl I 280 0 [.ref b8, .int y1, .int y2, .null, .null] [] u (fun r u2 => zl I 0 1743 [v0, v1, v2, v3, v4, v5, v6] (r.toList ++ st) u2 P)) := zl_CV h0_1740 rfl rfl rfl ⟨Nat.le_of_ble_eq_true rfl, Nat.succ_ne_zero _, by decide⟩ rfl
theorem h0_1743 : xcd2 I 0 1743 = oCmp (fun x y => decide (x = y)) 2238 1746 := ch_38 (Nat.le_of_ble_eq_true rfl) rfl
theorem q0_1743 : zl I 0 1743 [v0, v1, v2, v3, v4, v5, v6] (.int y1 :: .int y2 :: st) u P = (if y2 = y1 then zl I 0 2238 [v0, v1, v2, v3, v4, v5, v6] st u P else zl I 0 1746 [v0, v1, v2, v3, v4, v5, v6] st u P) := zl_Cmp h0_1743
theorem h0_1746 : xcd2 I 0 1746 = oI 0 1747 := ch_38 (Nat.le_of_ble_eq_true rfl) rfl
theorem q0_1746 : zl I 0 1746 [v0, v1, v2, v3, v4, v5, v6] st u P = zl I 0 1747 [v0, v1, v2, v3, v4, v5, v6] (.int 0 :: st) u P := zl_I h0_1746
theorem h0_1747 : xcd2 I 0 1747 = oRz 0 := ch_38 (Nat.le_of_ble_eq_true rfl) rfl
theorem q0_1747 : zl I 0 1747 [v0, v1, v2, v3, v4, v5, v6] [.int y1] u P = ((y1 = 0 ∨ y1 = 1) ∧ P (some (.int y1)) u) := zl_Rz h0_1747
theorem h0_1748 : xcd2 I 0 1748 = oAl 1 1749 := ch_38 (Nat.le_of_ble_eq_true rfl) rfl
theorem q0_1748 : zl I 0 1748 [v0, .ref a1, v2, v3, v4, v5, v6] st u P = zl I 0 1749 [v0, .ref a1, v2, v3, v4, v5, v6] (.ref a1 :: st) u P := zl_Al h0_1748 rfl
theorem h0_1749 : xcd2 I 0 1749 = oAl 0 1750 := ch_38 (Nat.le_of_ble_eq_true rfl) rfl
theorem q0_1749 : zl I 0 1749 [.ref a0, v1, v2, v3, v4, v5, v6] st u P = zl I 0 1750 [.ref a0, v1, v2, v3, v4, v5, v6] (.ref a0 :: st) u P := zl_Al h0_1749 rfl
theorem h0_1750 : xcd2 I 0 1750 = oIl 4 1752 := ch_38 (Nat.le_of_ble_eq_true rfl) rfl
theorem q0_1750 : zl I 0 1750 [v0, v1, v2, v3, .int x4, v5, v6] st u P = zl I 0 1752 [v0, v1, v2, v3, .int x4, v5, v6] (.int x4 :: st) u P := zl_Il h0_1750 rfl
theorem h0_1752 : xcd2 I 0 1752 = oI 1 1753 := ch_38 (Nat.le_of_ble_eq_true rfl) rfl
theorem q0_1752 : zl I 0 1752 [v0, v1, v2, v3, v4, v5, v6] st u P = zl I 0 1753 [v0, v1, v2, v3, v4, v5, v6] (.int 1 :: st) u P := zl_I h0_1752
theorem h0_1753 : xcd2 I 0 1753 = oB (fun x y => x + y) 1754 := ch_38 (Nat.le_of_ble_eq_true rfl) rfl
theorem q0_1753 : zl I 0 1753 [v0, v1, v2, v3, v4, v5, v6] (.int y1 :: .int y2 :: st) u P = zl I 0 1754 [v0, v1, v2, v3, v4, v5, v6] (.int (y2 + y1) :: st) u P := zl_B h0_1753
theorem h0_1754 : xcd2 I 0 1754 = oScr 1755 := ch_38 (Nat.le_of_ble_eq_true rfl) rfl
theorem q0_1754 : zl I 0 1754 [v0, v1, v2, v3, v4, v5, v6] (.int y1 :: .ref b1 :: st) u P = ((b1 = 2000000 ∧ xinb y1 (xN u 2000000)) ∧ zl I 0 1755 [v0, v1, v2, v3, v4, v5, v6] (.int (xI u 2000000 (xix y1)) :: st) u P) := zl_Scr h0_1754
theorem h0_1755 : xcd2 I 0 1755 = oAl 0 1756 := ch_38 (Nat.le_of_ble_eq_true rfl) rfl
theorem q0_1755 : zl I 0 1755 [.ref a0, v1, v2, v3, v4, v5, v6] st u P = zl I 0 1756 [.ref a0, v1, v2, v3, v4, v5, v6] (.ref a0 :: st) u P := zl_Al h0_1755 rfl
theorem h0_1756 : xcd2 I 0 1756 = oIl 4 1758 := ch_38 (Nat.le_of_ble_eq_true rfl) rfl
theorem q0_1756 : zl I 0 1756 [v0, v1, v2, v3, .int x4, v5, v6] st u P = zl I 0 1758 [v0, v1, v2, v3, .int x4, v5, v6] (.int x4 :: st) u P := zl_Il h0_1756 rfl
theorem h0_1758 : xcd2 I 0 1758 = oI 2 1759 := ch_38 (Nat.le_of_ble_eq_true rfl) rfl
theorem q0_1758 : zl I 0 1758 [v0, v1, v2, v3, v4, v5, v6] st u P = zl I 0 1759 [v0, v1, v2, v3, v4, v5, v6] (.int 2 :: st) u P := zl_I h0_1758
theorem h0_1759 : xcd2 I 0 1759 = oB (fun x y => x + y) 1760 := ch_38 (Nat.le_of_ble_eq_true rfl) rfl
theorem q0_1759 : zl I 0 1759 [v0, v1, v2, v3, v4, v5, v6] (.int y1 :: .int y2 :: st) u P = zl I 0 1760 [v0, v1, v2, v3, v4, v5, v6] (.int (y2 + y1) :: st) u P := zl_B h0_1759
theorem h0_1760 : xcd2 I 0 1760 = oScr 1761 := ch_38 (Nat.le_of_ble_eq_true rfl) rfl
theorem q0_1760 : zl I 0 1760 [v0, v1, v2, v3, v4, v5, v6] (.int y1 :: .ref b1 :: st) u P = ((b1 = 2000000 ∧ xinb y1 (xN u 2000000)) ∧ zl I 0 1761 [v0, v1, v2, v3, v4, v5, v6] (.int (xI u 2000000 (xix y1)) :: st) u P) := zl_Scr h0_1760
theorem h0_1761 : xcd2 I 0 1761 = oCalV 10 141 2 1764 := ch_38 (Nat.le_of_ble_eq_true rfl) rfl
theorem q0_1761 : zl I 0 1761 [v0, v1, v2, v3, v4, v5, v6] (.int y2 :: .int y1 :: .ref b8 :: st) u P = ((xIs u b8 10 ∧ xcat st ≤ 8) ∧ zl I 141 0 [.ref b8, .int y1, .int y2] [] u (fun r u2 => zl I 0 1764 [v0, v1, v2, v3, v4, v5, v6] (r.toList ++ st) u2 P)) := zl_CV h0_1761 rfl rfl rfl ⟨Nat.le_of_ble_eq_true rfl, Nat.succ_ne_zero _, by decide⟩ rfl
theorem h0_1764 : xcd2 I 0 1764 = oAl 2 1765 := ch_38 (Nat.le_of_ble_eq_true rfl) rfl
theorem q0_1764 : zl I 0 1764 [v0, v1, .ref a2, v3, v4, v5, v6] st u P = zl I 0 1765 [v0, v1, .ref a2, v3, v4, v5, v6] (.ref a2 :: st) u P := zl_Al h0_1764 rfl
theorem h0_1765 : xcd2 I 0 1765 = oAl 0 1766 := ch_38 (Nat.le_of_ble_eq_true rfl) rfl
theorem q0_1765 : zl I 0 1765 [.ref a0, v1, v2, v3, v4, v5, v6] st u P = zl I 0 1766 [.ref a0, v1, v2, v3, v4, v5, v6] (.ref a0 :: st) u P := zl_Al h0_1765 rfl
theorem h0_1766 : xcd2 I 0 1766 = oIl 4 1768 := ch_38 (Nat.le_of_ble_eq_true rfl) rfl
theorem q0_1766 : zl I 0 1766 [v0, v1, v2, v3, .int x4, v5, v6] st u P = zl I 0 1768 [v0, v1, v2, v3, .int x4, v5, v6] (.int x4 :: st) u P := zl_Il h0_1766 rfl
theorem h0_1768 : xcd2 I 0 1768 = oI 1 1769 := ch_38 (Nat.le_of_ble_eq_true rfl) rfl
theorem q0_1768 : zl I 0 1768 [v0, v1, v2, v3, v4, v5, v6] st u P = zl I 0 1769 [v0, v1, v2, v3, v4, v5, v6] (.int 1 :: st) u P := zl_I h0_1768
theorem h0_1769 : xcd2 I 0 1769 = oB (fun x y => x + y) 1770 := ch_38 (Nat.le_of_ble_eq_true rfl) rfl
theorem q0_1769 : zl I 0 1769 [v0, v1, v2, v3, v4, v5, v6] (.int y1 :: .int y2 :: st) u P = zl I 0 1770 [v0, v1, v2, v3, v4, v5, v6] (.int (y2 + y1) :: st) u P := zl_B h0_1769
theorem h0_1770 : xcd2 I 0 1770 = oScr 1771 := ch_38 (Nat.le_of_ble_eq_true rfl) rfl
theorem q0_1770 : zl I 0 1770 [v0, v1, v2, v3, v4, v5, v6] (.int y1 :: .ref b1 :: st) u P = ((b1 = 2000000 ∧ xinb y1 (xN u 2000000)) ∧ zl I 0 1771 [v0, v1, v2, v3, v4, v5, v6] (.int (xI u 2000000 (xix y1)) :: st) u P) := zl_Scr h0_1770
theorem h0_1771 : xcd2 I 0 1771 = oAl 0 1772 := ch_38 (Nat.le_of_ble_eq_true rfl) rfl
theorem q0_1771 : zl I 0 1771 [.ref a0, v1, v2, v3, v4, v5, v6] st u P = zl I 0 1772 [.ref a0, v1, v2, v3, v4, v5, v6] (.ref a0 :: st) u P := zl_Al h0_1771 rfl
theorem h0_1772 : xcd2 I 0 1772 = oIl 4 1774 := ch_38 (Nat.le_of_ble_eq_true rfl) rfl
theorem q0_1772 : zl I 0 1772 [v0, v1, v2, v3, .int x4, v5, v6] st u P = zl I 0 1774 [v0, v1, v2, v3, .int x4, v5, v6] (.int x4 :: st) u P := zl_Il h0_1772 rfl
theorem h0_1774 : xcd2 I 0 1774 = oI 2 1775 := ch_38 (Nat.le_of_ble_eq_true rfl) rfl
theorem q0_1774 : zl I 0 1774 [v0, v1, v2, v3, v4, v5, v6] st u P = zl I 0 1775 [v0, v1, v2, v3, v4, v5, v6] (.int 2 :: st) u P := zl_I h0_1774
theorem h0_1775 : xcd2 I 0 1775 = oB (fun x y => x + y) 1776 := ch_38 (Nat.le_of_ble_eq_true rfl) rfl
theorem q0_1775 : zl I 0 1775 [v0, v1, v2, v3, v4, v5, v6] (.int y1 :: .int y2 :: st) u P = zl I 0 1776 [v0, v1, v2, v3, v4, v5, v6] (.int (y2 + y1) :: st) u P := zl_B h0_1775
theorem h0_1776 : xcd2 I 0 1776 = oScr 1777 := ch_38 (Nat.le_of_ble_eq_true rfl) rfl
theorem q0_1776 : zl I 0 1776 [v0, v1, v2, v3, v4, v5, v6] (.int y1 :: .ref b1 :: st) u P = ((b1 = 2000000 ∧ xinb y1 (xN u 2000000)) ∧ zl I 0 1777 [v0, v1, v2, v3, v4, v5, v6] (.int (xI u 2000000 (xix y1)) :: st) u P) := zl_Scr h0_1776
theorem h0_1777 : xcd2 I 0 1777 = oCalV 11 281 2 1780 := ch_38 (Nat.le_of_ble_eq_true rfl) rfl
theorem q0_1777 : zl I 0 1777 [v0, v1, v2, v3, v4, v5, v6] (.int y2 :: .int y1 :: .ref b8 :: st) u P = ((xIs u b8 11 ∧ xcat st ≤ 8) ∧ zl I 281 0 [.ref b8, .int y1, .int y2, .null, .null] [] u (fun r u2 => zl I 0 1780 [v0, v1, v2, v3, v4, v5, v6] (r.toList ++ st) u2 P)) := zl_CV h0_1777 rfl rfl rfl ⟨Nat.le_of_ble_eq_true rfl, Nat.succ_ne_zero _, by decide⟩ rfl
theorem h0_1780 : xcd2 I 0 1780 = oCmp (fun x y => decide (x = y)) 2238 1783 := ch_38 (Nat.le_of_ble_eq_true rfl) rfl
theorem q0_1780 : zl I 0 1780 [v0, v1, v2, v3, v4, v5, v6] (.int y1 :: .int y2 :: st) u P = (if y2 = y1 then zl I 0 2238 [v0, v1, v2, v3, v4, v5, v6] st u P else zl I 0 1783 [v0, v1, v2, v3, v4, v5, v6] st u P) := zl_Cmp h0_1780
theorem h0_1783 : xcd2 I 0 1783 = oI 0 1784 := ch_38 (Nat.le_of_ble_eq_true rfl) rfl
theorem q0_1783 : zl I 0 1783 [v0, v1, v2, v3, v4, v5, v6] st u P = zl I 0 1784 [v0, v1, v2, v3, v4, v5, v6] (.int 0 :: st) u P := zl_I h0_1783
theorem h0_1784 : xcd2 I 0 1784 = oRz 0 := ch_38 (Nat.le_of_ble_eq_true rfl) rfl
theorem q0_1784 : zl I 0 1784 [v0, v1, v2, v3, v4, v5, v6] [.int y1] u P = ((y1 = 0 ∨ y1 = 1) ∧ P (some (.int y1)) u) := zl_Rz h0_1784
theorem h0_1785 : xcd2 I 0 1785 = oAl 1 1786 := ch_39 (Nat.le_of_ble_eq_true rfl) rfl
theorem q0_1785 : zl I 0 1785 [v0, .ref a1, v2, v3, v4, v5, v6] st u P = zl I 0 1786 [v0, .ref a1, v2, v3, v4, v5, v6] (.ref a1 :: st) u P := zl_Al h0_1785 rfl
theorem h0_1786 : xcd2 I 0 1786 = oAl 0 1787 := ch_39 (Nat.le_of_ble_eq_true rfl) rfl
theorem q0_1786 : zl I 0 1786 [.ref a0, v1, v2, v3, v4, v5, v6] st u P = zl I 0 1787 [.ref a0, v1, v2, v3, v4, v5, v6] (.ref a0 :: st) u P := zl_Al h0_1786 rfl
theorem h0_1787 : xcd2 I 0 1787 = oIl 4 1789 := ch_39 (Nat.le_of_ble_eq_true rfl) rfl
theorem q0_1787 : zl I 0 1787 [v0, v1, v2, v3, .int x4, v5, v6] st u P = zl I 0 1789 [v0, v1, v2, v3, .int x4, v5, v6] (.int x4 :: st) u P := zl_Il h0_1787 rfl
theorem h0_1789 : xcd2 I 0 1789 = oI 1 1790 := ch_39 (Nat.le_of_ble_eq_true rfl) rfl
theorem q0_1789 : zl I 0 1789 [v0, v1, v2, v3, v4, v5, v6] st u P = zl I 0 1790 [v0, v1, v2, v3, v4, v5, v6] (.int 1 :: st) u P := zl_I h0_1789
theorem h0_1790 : xcd2 I 0 1790 = oB (fun x y => x + y) 1791 := ch_39 (Nat.le_of_ble_eq_true rfl) rfl
theorem q0_1790 : zl I 0 1790 [v0, v1, v2, v3, v4, v5, v6] (.int y1 :: .int y2 :: st) u P = zl I 0 1791 [v0, v1, v2, v3, v4, v5, v6] (.int (y2 + y1) :: st) u P := zl_B h0_1790
theorem h0_1791 : xcd2 I 0 1791 = oScr 1792 := ch_39 (Nat.le_of_ble_eq_true rfl) rfl
theorem q0_1791 : zl I 0 1791 [v0, v1, v2, v3, v4, v5, v6] (.int y1 :: .ref b1 :: st) u P = ((b1 = 2000000 ∧ xinb y1 (xN u 2000000)) ∧ zl I 0 1792 [v0, v1, v2, v3, v4, v5, v6] (.int (xI u 2000000 (xix y1)) :: st) u P) := zl_Scr h0_1791
theorem h0_1792 : xcd2 I 0 1792 = oAl 0 1793 := ch_39 (Nat.le_of_ble_eq_true rfl) rfl
theorem q0_1792 : zl I 0 1792 [.ref a0, v1, v2, v3, v4, v5, v6] st u P = zl I 0 1793 [.ref a0, v1, v2, v3, v4, v5, v6] (.ref a0 :: st) u P := zl_Al h0_1792 rfl
theorem h0_1793 : xcd2 I 0 1793 = oIl 4 1795 := ch_39 (Nat.le_of_ble_eq_true rfl) rfl
theorem q0_1793 : zl I 0 1793 [v0, v1, v2, v3, .int x4, v5, v6] st u P = zl I 0 1795 [v0, v1, v2, v3, .int x4, v5, v6] (.int x4 :: st) u P := zl_Il h0_1793 rfl
theorem h0_1795 : xcd2 I 0 1795 = oI 2 1796 := ch_39 (Nat.le_of_ble_eq_true rfl) rfl
theorem q0_1795 : zl I 0 1795 [v0, v1, v2, v3, v4, v5, v6] st u P = zl I 0 1796 [v0, v1, v2, v3, v4, v5, v6] (.int 2 :: st) u P := zl_I h0_1795
theorem h0_1796 : xcd2 I 0 1796 = oB (fun x y => x + y) 1797 := ch_39 (Nat.le_of_ble_eq_true rfl) rfl
theorem q0_1796 : zl I 0 1796 [v0, v1, v2, v3, v4, v5, v6] (.int y1 :: .int y2 :: st) u P = zl I 0 1797 [v0, v1, v2, v3, v4, v5, v6] (.int (y2 + y1) :: st) u P := zl_B h0_1796
theorem h0_1797 : xcd2 I 0 1797 = oScr 1798 := ch_39 (Nat.le_of_ble_eq_true rfl) rfl
theorem q0_1797 : zl I 0 1797 [v0, v1, v2, v3, v4, v5, v6] (.int y1 :: .ref b1 :: st) u P = ((b1 = 2000000 ∧ xinb y1 (xN u 2000000)) ∧ zl I 0 1798 [v0, v1, v2, v3, v4, v5, v6] (.int (xI u 2000000 (xix y1)) :: st) u P) := zl_Scr h0_1797
theorem h0_1798 : xcd2 I 0 1798 = oCalV 10 142 2 1801 := ch_39 (Nat.le_of_ble_eq_true rfl) rfl
theorem q0_1798 : zl I 0 1798 [v0, v1, v2, v3, v4, v5, v6] (.int y2 :: .int y1 :: .ref b8 :: st) u P = ((xIs u b8 10 ∧ xcat st ≤ 8) ∧ zl I 142 0 [.ref b8, .int y1, .int y2] [] u (fun r u2 => zl I 0 1801 [v0, v1, v2, v3, v4, v5, v6] (r.toList ++ st) u2 P)) := zl_CV h0_1798 rfl rfl rfl ⟨Nat.le_of_ble_eq_true rfl, Nat.succ_ne_zero _, by decide⟩ rfl
theorem h0_1801 : xcd2 I 0 1801 = oAl 2 1802 := ch_39 (Nat.le_of_ble_eq_true rfl) rfl
theorem q0_1801 : zl I 0 1801 [v0, v1, .ref a2, v3, v4, v5, v6] st u P = zl I 0 1802 [v0, v1, .ref a2, v3, v4, v5, v6] (.ref a2 :: st) u P := zl_Al h0_1801 rfl
theorem h0_1802 : xcd2 I 0 1802 = oAl 0 1803 := ch_39 (Nat.le_of_ble_eq_true rfl) rfl
theorem q0_1802 : zl I 0 1802 [.ref a0, v1, v2, v3, v4, v5, v6] st u P = zl I 0 1803 [.ref a0, v1, v2, v3, v4, v5, v6] (.ref a0 :: st) u P := zl_Al h0_1802 rfl
theorem h0_1803 : xcd2 I 0 1803 = oIl 4 1805 := ch_39 (Nat.le_of_ble_eq_true rfl) rfl
theorem q0_1803 : zl I 0 1803 [v0, v1, v2, v3, .int x4, v5, v6] st u P = zl I 0 1805 [v0, v1, v2, v3, .int x4, v5, v6] (.int x4 :: st) u P := zl_Il h0_1803 rfl
theorem h0_1805 : xcd2 I 0 1805 = oI 1 1806 := ch_39 (Nat.le_of_ble_eq_true rfl) rfl
theorem q0_1805 : zl I 0 1805 [v0, v1, v2, v3, v4, v5, v6] st u P = zl I 0 1806 [v0, v1, v2, v3, v4, v5, v6] (.int 1 :: st) u P := zl_I h0_1805
theorem h0_1806 : xcd2 I 0 1806 = oB (fun x y => x + y) 1807 := ch_39 (Nat.le_of_ble_eq_true rfl) rfl
theorem q0_1806 : zl I 0 1806 [v0, v1, v2, v3, v4, v5, v6] (.int y1 :: .int y2 :: st) u P = zl I 0 1807 [v0, v1, v2, v3, v4, v5, v6] (.int (y2 + y1) :: st) u P := zl_B h0_1806
theorem h0_1807 : xcd2 I 0 1807 = oScr 1808 := ch_39 (Nat.le_of_ble_eq_true rfl) rfl
theorem q0_1807 : zl I 0 1807 [v0, v1, v2, v3, v4, v5, v6] (.int y1 :: .ref b1 :: st) u P = ((b1 = 2000000 ∧ xinb y1 (xN u 2000000)) ∧ zl I 0 1808 [v0, v1, v2, v3, v4, v5, v6] (.int (xI u 2000000 (xix y1)) :: st) u P) := zl_Scr h0_1807
theorem h0_1808 : xcd2 I 0 1808 = oAl 0 1809 := ch_39 (Nat.le_of_ble_eq_true rfl) rfl
theorem q0_1808 : zl I 0 1808 [.ref a0, v1, v2, v3, v4, v5, v6] st u P = zl I 0 1809 [.ref a0, v1, v2, v3, v4, v5, v6] (.ref a0 :: st) u P := zl_Al h0_1808 rfl
theorem h0_1809 : xcd2 I 0 1809 = oIl 4 1811 := ch_39 (Nat.le_of_ble_eq_true rfl) rfl
theorem q0_1809 : zl I 0 1809 [v0, v1, v2, v3, .int x4, v5, v6] st u P = zl I 0 1811 [v0, v1, v2, v3, .int x4, v5, v6] (.int x4 :: st) u P := zl_Il h0_1809 rfl
theorem h0_1811 : xcd2 I 0 1811 = oI 2 1812 := ch_39 (Nat.le_of_ble_eq_true rfl) rfl
theorem q0_1811 : zl I 0 1811 [v0, v1, v2, v3, v4, v5, v6] st u P = zl I 0 1812 [v0, v1, v2, v3, v4, v5, v6] (.int 2 :: st) u P := zl_I h0_1811
theorem h0_1812 : xcd2 I 0 1812 = oB (fun x y => x + y) 1813 := ch_39 (Nat.le_of_ble_eq_true rfl) rfl
theorem q0_1812 : zl I 0 1812 [v0, v1, v2, v3, v4, v5, v6] (.int y1 :: .int y2 :: st) u P = zl I 0 1813 [v0, v1, v2, v3, v4, v5, v6] (.int (y2 + y1) :: st) u P := zl_B h0_1812
theorem h0_1813 : xcd2 I 0 1813 = oScr 1814 := ch_39 (Nat.le_of_ble_eq_true rfl) rfl
theorem q0_1813 : zl I 0 1813 [v0, v1, v2, v3, v4, v5, v6] (.int y1 :: .ref b1 :: st) u P = ((b1 = 2000000 ∧ xinb y1 (xN u 2000000)) ∧ zl I 0 1814 [v0, v1, v2, v3, v4, v5, v6] (.int (xI u 2000000 (xix y1)) :: st) u P) := zl_Scr h0_1813
theorem h0_1814 : xcd2 I 0 1814 = oCalV 11 283 2 1817 := ch_39 (Nat.le_of_ble_eq_true rfl) rfl
theorem q0_1814 : zl I 0 1814 [v0, v1, v2, v3, v4, v5, v6] (.int y2 :: .int y1 :: .ref b8 :: st) u P = ((xIs u b8 11 ∧ xcat st ≤ 8) ∧ zl I 283 0 [.ref b8, .int y1, .int y2, .null, .null] [] u (fun r u2 => zl I 0 1817 [v0, v1, v2, v3, v4, v5, v6] (r.toList ++ st) u2 P)) := zl_CV h0_1814 rfl rfl rfl ⟨Nat.le_of_ble_eq_true rfl, Nat.succ_ne_zero _, by decide⟩ rfl
theorem h0_1817 : xcd2 I 0 1817 = oCmp (fun x y => decide (x = y)) 2238 1820 := ch_39 (Nat.le_of_ble_eq_true rfl) rfl
theorem q0_1817 : zl I 0 1817 [v0, v1, v2, v3, v4, v5, v6] (.int y1 :: .int y2 :: st) u P = (if y2 = y1 then zl I 0 2238 [v0, v1, v2, v3, v4, v5, v6] st u P else zl I 0 1820 [v0, v1, v2, v3, v4, v5, v6] st u P) := zl_Cmp h0_1817
theorem h0_1820 : xcd2 I 0 1820 = oI 0 1821 := ch_39 (Nat.le_of_ble_eq_true rfl) rfl
theorem q0_1820 : zl I 0 1820 [v0, v1, v2, v3, v4, v5, v6] st u P = zl I 0 1821 [v0, v1, v2, v3, v4, v5, v6] (.int 0 :: st) u P := zl_I h0_1820
theorem h0_1821 : xcd2 I 0 1821 = oRz 0 := ch_39 (Nat.le_of_ble_eq_true rfl) rfl
theorem q0_1821 : zl I 0 1821 [v0, v1, v2, v3, v4, v5, v6] [.int y1] u P = ((y1 = 0 ∨ y1 = 1) ∧ P (some (.int y1)) u) := zl_Rz h0_1821
theorem h0_1822 : xcd2 I 0 1822 = oAl 1 1823 := ch_39 (Nat.le_of_ble_eq_true rfl) rfl
theorem q0_1822 : zl I 0 1822 [v0, .ref a1, v2, v3, v4, v5, v6] st u P = zl I 0 1823 [v0, .ref a1, v2, v3, v4, v5, v6] (.ref a1 :: st) u P := zl_Al h0_1822 rfl
theorem h0_1823 : xcd2 I 0 1823 = oCalV 10 143 0 1826 := ch_39 (Nat.le_of_ble_eq_true rfl) rfl
theorem q0_1823 : zl I 0 1823 [v0, v1, v2, v3, v4, v5, v6] (.ref b8 :: st) u P = ((xIs u b8 10 ∧ xcat st ≤ 8) ∧ zl I 143 0 [.ref b8, .null, .null] [] u (fun r u2 => zl I 0 1826 [v0, v1, v2, v3, v4, v5, v6] (r.toList ++ st) u2 P)) := zl_CV h0_1823 rfl rfl rfl ⟨Nat.le_of_ble_eq_true rfl, Nat.succ_ne_zero _, by decide⟩ rfl
theorem h0_1826 : xcd2 I 0 1826 = oAl 2 1827 := ch_39 (Nat.le_of_ble_eq_true rfl) rfl
theorem q0_1826 : zl I 0 1826 [v0, v1, .ref a2, v3, v4, v5, v6] st u P = zl I 0 1827 [v0, v1, .ref a2, v3, v4, v5, v6] (.ref a2 :: st) u P := zl_Al h0_1826 rfl
theorem h0_1827 : xcd2 I 0 1827 = oCalV 11 287 0 1830 := ch_40 (Nat.le_of_ble_eq_true rfl) rfl
theorem q0_1827 : zl I 0 1827 [v0, v1, v2, v3, v4, v5, v6] (.ref b8 :: st) u P = ((xIs u b8 11 ∧ xcat st ≤ 8) ∧ zl I 287 0 [.ref b8, .null, .null] [] u (fun r u2 => zl I 0 1830 [v0, v1, v2, v3, v4, v5, v6] (r.toList ++ st) u2 P)) := zl_CV h0_1827 rfl rfl rfl ⟨Nat.le_of_ble_eq_true rfl, Nat.succ_ne_zero _, by decide⟩ rfl
theorem h0_1830 : xcd2 I 0 1830 = oCmp (fun x y => decide (x = y)) 2238 1833 := ch_40 (Nat.le_of_ble_eq_true rfl) rfl
theorem q0_1830 : zl I 0 1830 [v0, v1, v2, v3, v4, v5, v6] (.int y1 :: .int y2 :: st) u P = (if y2 = y1 then zl I 0 2238 [v0, v1, v2, v3, v4, v5, v6] st u P else zl I 0 1833 [v0, v1, v2, v3, v4, v5, v6] st u P) := zl_Cmp h0_1830
theorem h0_1833 : xcd2 I 0 1833 = oI 0 1834 := ch_40 (Nat.le_of_ble_eq_true rfl) rfl
theorem q0_1833 : zl I 0 1833 [v0, v1, v2, v3, v4, v5, v6] st u P = zl I 0 1834 [v0, v1, v2, v3, v4, v5, v6] (.int 0 :: st) u P := zl_I h0_1833
theorem h0_1834 : xcd2 I 0 1834 = oRz 0 := ch_40 (Nat.le_of_ble_eq_true rfl) rfl
theorem q0_1834 : zl I 0 1834 [v0, v1, v2, v3, v4, v5, v6] [.int y1] u P = ((y1 = 0 ∨ y1 = 1) ∧ P (some (.int y1)) u) := zl_Rz h0_1834
theorem h0_1835 : xcd2 I 0 1835 = oAl 1 1836 := ch_40 (Nat.le_of_ble_eq_true rfl) rfl
theorem q0_1835 : zl I 0 1835 [v0, .ref a1, v2, v3, v4, v5, v6] st u P = zl I 0 1836 [v0, .ref a1, v2, v3, v4, v5, v6] (.ref a1 :: st) u P := zl_Al h0_1835 rfl
theorem h0_1836 : xcd2 I 0 1836 = oAl 0 1837 := ch_40 (Nat.le_of_ble_eq_true rfl) rfl
theorem q0_1836 : zl I 0 1836 [.ref a0, v1, v2, v3, v4, v5, v6] st u P = zl I 0 1837 [.ref a0, v1, v2, v3, v4, v5, v6] (.ref a0 :: st) u P := zl_Al h0_1836 rfl
theorem h0_1837 : xcd2 I 0 1837 = oIl 4 1839 := ch_40 (Nat.le_of_ble_eq_true rfl) rfl
theorem q0_1837 : zl I 0 1837 [v0, v1, v2, v3, .int x4, v5, v6] st u P = zl I 0 1839 [v0, v1, v2, v3, .int x4, v5, v6] (.int x4 :: st) u P := zl_Il h0_1837 rfl
theorem h0_1839 : xcd2 I 0 1839 = oI 1 1840 := ch_40 (Nat.le_of_ble_eq_true rfl) rfl
theorem q0_1839 : zl I 0 1839 [v0, v1, v2, v3, v4, v5, v6] st u P = zl I 0 1840 [v0, v1, v2, v3, v4, v5, v6] (.int 1 :: st) u P := zl_I h0_1839
theorem h0_1840 : xcd2 I 0 1840 = oB (fun x y => x + y) 1841 := ch_40 (Nat.le_of_ble_eq_true rfl) rfl
theorem q0_1840 : zl I 0 1840 [v0, v1, v2, v3, v4, v5, v6] (.int y1 :: .int y2 :: st) u P = zl I 0 1841 [v0, v1, v2, v3, v4, v5, v6] (.int (y2 + y1) :: st) u P := zl_B h0_1840
theorem h0_1841 : xcd2 I 0 1841 = oScr 1842 := ch_40 (Nat.le_of_ble_eq_true rfl) rfl
theorem q0_1841 : zl I 0 1841 [v0, v1, v2, v3, v4, v5, v6] (.int y1 :: .ref b1 :: st) u P = ((b1 = 2000000 ∧ xinb y1 (xN u 2000000)) ∧ zl I 0 1842 [v0, v1, v2, v3, v4, v5, v6] (.int (xI u 2000000 (xix y1)) :: st) u P) := zl_Scr h0_1841
theorem h0_1842 : xcd2 I 0 1842 = oCalV 10 144 1 1845 := ch_40 (Nat.le_of_ble_eq_true rfl) rfl
theorem q0_1842 : zl I 0 1842 [v0, v1, v2, v3, v4, v5, v6] (.int y1 :: .ref b8 :: st) u P = ((xIs u b8 10 ∧ xcat st ≤ 8) ∧ zl I 144 0 [.ref b8, .int y1] [] u (fun r u2 => zl I 0 1845 [v0, v1, v2, v3, v4, v5, v6] (r.toList ++ st) u2 P)) := zl_CV h0_1842 rfl rfl rfl ⟨Nat.le_of_ble_eq_true rfl, Nat.succ_ne_zero _, by decide⟩ rfl
theorem h0_1845 : xcd2 I 0 1845 = oAl 2 1846 := ch_40 (Nat.le_of_ble_eq_true rfl) rfl
theorem q0_1845 : zl I 0 1845 [v0, v1, .ref a2, v3, v4, v5, v6] st u P = zl I 0 1846 [v0, v1, .ref a2, v3, v4, v5, v6] (.ref a2 :: st) u P := zl_Al h0_1845 rfl
theorem h0_1846 : xcd2 I 0 1846 = oAl 0 1847 := ch_40 (Nat.le_of_ble_eq_true rfl) rfl
theorem q0_1846 : zl I 0 1846 [.ref a0, v1, v2, v3, v4, v5, v6] st u P = zl I 0 1847 [.ref a0, v1, v2, v3, v4, v5, v6] (.ref a0 :: st) u P := zl_Al h0_1846 rfl
theorem h0_1847 : xcd2 I 0 1847 = oIl 4 1849 := ch_40 (Nat.le_of_ble_eq_true rfl) rfl
theorem q0_1847 : zl I 0 1847 [v0, v1, v2, v3, .int x4, v5, v6] st u P = zl I 0 1849 [v0, v1, v2, v3, .int x4, v5, v6] (.int x4 :: st) u P := zl_Il h0_1847 rfl
theorem h0_1849 : xcd2 I 0 1849 = oI 1 1850 := ch_40 (Nat.le_of_ble_eq_true rfl) rfl
theorem q0_1849 : zl I 0 1849 [v0, v1, v2, v3, v4, v5, v6] st u P = zl I 0 1850 [v0, v1, v2, v3, v4, v5, v6] (.int 1 :: st) u P := zl_I h0_1849
theorem h0_1850 : xcd2 I 0 1850 = oB (fun x y => x + y) 1851 := ch_40 (Nat.le_of_ble_eq_true rfl) rfl
theorem q0_1850 : zl I 0 1850 [v0, v1, v2, v3, v4, v5, v6] (.int y1 :: .int y2 :: st) u P = zl I 0 1851 [v0, v1, v2, v3, v4, v5, v6] (.int (y2 + y1) :: st) u P := zl_B h0_1850
theorem h0_1851 : xcd2 I 0 1851 = oScr 1852 := ch_40 (Nat.le_of_ble_eq_true rfl) rfl
theorem q0_1851 : zl I 0 1851 [v0, v1, v2, v3, v4, v5, v6] (.int y1 :: .ref b1 :: st) u P = ((b1 = 2000000 ∧ xinb y1 (xN u 2000000)) ∧ zl I 0 1852 [v0, v1, v2, v3, v4, v5, v6] (.int (xI u 2000000 (xix y1)) :: st) u P) := zl_Scr h0_1851
theorem h0_1852 : xcd2 I 0 1852 = oCalV 11 288 1 1855 := ch_40 (Nat.le_of_ble_eq_true rfl) rfl
theorem q0_1852 : zl I 0 1852 [v0, v1, v2, v3, v4, v5, v6] (.int y1 :: .ref b8 :: st) u P = ((xIs u b8 11 ∧ xcat st ≤ 8) ∧ zl I 288 0 [.ref b8, .int y1] [] u (fun r u2 => zl I 0 1855 [v0, v1, v2, v3, v4, v5, v6] (r.toList ++ st) u2 P)) := zl_CV h0_1852 rfl rfl rfl ⟨Nat.le_of_ble_eq_true rfl, Nat.succ_ne_zero _, by decide⟩ rfl
theorem h0_1855 : xcd2 I 0 1855 = oCmp (fun x y => decide (x = y)) 2238 1858 := ch_40 (Nat.le_of_ble_eq_true rfl) rfl
theorem q0_1855 : zl I 0 1855 [v0, v1, v2, v3, v4, v5, v6] (.int y1 :: .int y2 :: st) u P = (if y2 = y1 then zl I 0 2238 [v0, v1, v2, v3, v4, v5, v6] st u P else zl I 0 1858 [v0, v1, v2, v3, v4, v5, v6] st u P) := zl_Cmp h0_1855
theorem h0_1858 : xcd2 I 0 1858 = oI 0 1859 := ch_40 (Nat.le_of_ble_eq_true rfl) rfl
theorem q0_1858 : zl I 0 1858 [v0, v1, v2, v3, v4, v5, v6] st u P = zl I 0 1859 [v0, v1, v2, v3, v4, v5, v6] (.int 0 :: st) u P := zl_I h0_1858
theorem h0_1859 : xcd2 I 0 1859 = oRz 0 := ch_40 (Nat.le_of_ble_eq_true rfl) rfl
theorem q0_1859 : zl I 0 1859 [v0, v1, v2, v3, v4, v5, v6] [.int y1] u P = ((y1 = 0 ∨ y1 = 1) ∧ P (some (.int y1)) u) := zl_Rz h0_1859
theorem h0_1860 : xcd2 I 0 1860 = oAl 1 1861 := ch_40 (Nat.le_of_ble_eq_true rfl) rfl
theorem q0_1860 : zl I 0 1860 [v0, .ref a1, v2, v3, v4, v5, v6] st u P = zl I 0 1861 [v0, .ref a1, v2, v3, v4, v5, v6] (.ref a1 :: st) u P := zl_Al h0_1860 rfl
theorem h0_1861 : xcd2 I 0 1861 = oAl 0 1862 := ch_40 (Nat.le_of_ble_eq_true rfl) rfl
theorem q0_1861 : zl I 0 1861 [.ref a0, v1, v2, v3, v4, v5, v6] st u P = zl I 0 1862 [.ref a0, v1, v2, v3, v4, v5, v6] (.ref a0 :: st) u P := zl_Al h0_1861 rfl
theorem h0_1862 : xcd2 I 0 1862 = oIl 4 1864 := ch_40 (Nat.le_of_ble_eq_true rfl) rfl
theorem q0_1862 : zl I 0 1862 [v0, v1, v2, v3, .int x4, v5, v6] st u P = zl I 0 1864 [v0, v1, v2, v3, .int x4, v5, v6] (.int x4 :: st) u P := zl_Il h0_1862 rfl
theorem h0_1864 : xcd2 I 0 1864 = oI 1 1865 := ch_40 (Nat.le_of_ble_eq_true rfl) rfl
theorem q0_1864 : zl I 0 1864 [v0, v1, v2, v3, v4, v5, v6] st u P = zl I 0 1865 [v0, v1, v2, v3, v4, v5, v6] (.int 1 :: st) u P := zl_I h0_1864
theorem h0_1865 : xcd2 I 0 1865 = oB (fun x y => x + y) 1866 := ch_40 (Nat.le_of_ble_eq_true rfl) rfl
theorem q0_1865 : zl I 0 1865 [v0, v1, v2, v3, v4, v5, v6] (.int y1 :: .int y2 :: st) u P = zl I 0 1866 [v0, v1, v2, v3, v4, v5, v6] (.int (y2 + y1) :: st) u P := zl_B h0_1865
theorem h0_1866 : xcd2 I 0 1866 = oScr 1867 := ch_40 (Nat.le_of_ble_eq_true rfl) rfl
theorem q0_1866 : zl I 0 1866 [v0, v1, v2, v3, v4, v5, v6] (.int y1 :: .ref b1 :: st) u P = ((b1 = 2000000 ∧ xinb y1 (xN u 2000000)) ∧ zl I 0 1867 [v0, v1, v2, v3, v4, v5, v6] (.int (xI u 2000000 (xix y1)) :: st) u P) := zl_Scr h0_1866
theorem h0_1867 : xcd2 I 0 1867 = oCalV 10 145 1 1870 := ch_40 (Nat.le_of_ble_eq_true rfl) rfl
theorem q0_1867 : zl I 0 1867 [v0, v1, v2, v3, v4, v5, v6] (.int y1 :: .ref b8 :: st) u P = ((xIs u b8 10 ∧ xcat st ≤ 8) ∧ zl I 145 0 [.ref b8, .int y1] [] u (fun r u2 => zl I 0 1870 [v0, v1, v2, v3, v4, v5, v6] (r.toList ++ st) u2 P)) := zl_CV h0_1867 rfl rfl rfl ⟨Nat.le_of_ble_eq_true rfl, Nat.succ_ne_zero _, by decide⟩ rfl
theorem h0_1870 : xcd2 I 0 1870 = oAl 2 1871 := ch_40 (Nat.le_of_ble_eq_true rfl) rfl
theorem q0_1870 : zl I 0 1870 [v0, v1, .ref a2, v3, v4, v5, v6] st u P = zl I 0 1871 [v0, v1, .ref a2, v3, v4, v5, v6] (.ref a2 :: st) u P := zl_Al h0_1870 rfl
theorem h0_1871 : xcd2 I 0 1871 = oAl 0 1872 := ch_40 (Nat.le_of_ble_eq_true rfl) rfl
theorem q0_1871 : zl I 0 1871 [.ref a0, v1, v2, v3, v4, v5, v6] st u P = zl I 0 1872 [.ref a0, v1, v2, v3, v4, v5, v6] (.ref a0 :: st) u P := zl_Al h0_1871 rfl
theorem h0_1872 : xcd2 I 0 1872 = oIl 4 1874 := ch_41 (Nat.le_of_ble_eq_true rfl) rfl
theorem q0_1872 : zl I 0 1872 [v0, v1, v2, v3, .int x4, v5, v6] st u P = zl I 0 1874 [v0, v1, v2, v3, .int x4, v5, v6] (.int x4 :: st) u P := zl_Il h0_1872 rfl
theorem h0_1874 : xcd2 I 0 1874 = oI 1 1875 := ch_41 (Nat.le_of_ble_eq_true rfl) rfl
theorem q0_1874 : zl I 0 1874 [v0, v1, v2, v3, v4, v5, v6] st u P = zl I 0 1875 [v0, v1, v2, v3, v4, v5, v6] (.int 1 :: st) u P := zl_I h0_1874
theorem h0_1875 : xcd2 I 0 1875 = oB (fun x y => x + y) 1876 := ch_41 (Nat.le_of_ble_eq_true rfl) rfl
theorem q0_1875 : zl I 0 1875 [v0, v1, v2, v3, v4, v5, v6] (.int y1 :: .int y2 :: st) u P = zl I 0 1876 [v0, v1, v2, v3, v4, v5, v6] (.int (y2 + y1) :: st) u P := zl_B h0_1875
theorem h0_1876 : xcd2 I 0 1876 = oScr 1877 := ch_41 (Nat.le_of_ble_eq_true rfl) rfl
theorem q0_1876 : zl I 0 1876 [v0, v1, v2, v3, v4, v5, v6] (.int y1 :: .ref b1 :: st) u P = ((b1 = 2000000 ∧ xinb y1 (xN u 2000000)) ∧ zl I 0 1877 [v0, v1, v2, v3, v4, v5, v6] (.int (xI u 2000000 (xix y1)) :: st) u P) := zl_Scr h0_1876
theorem h0_1877 : xcd2 I 0 1877 = oCalV 11 284 1 1880 := ch_41 (Nat.le_of_ble_eq_true rfl) rfl
theorem q0_1877 : zl I 0 1877 [v0, v1, v2, v3, v4, v5, v6] (.int y1 :: .ref b8 :: st) u P = ((xIs u b8 11 ∧ xcat st ≤ 8) ∧ zl I 284 0 [.ref b8, .int y1, .null, .null, .null] [] u (fun r u2 => zl I 0 1880 [v0, v1, v2, v3, v4, v5, v6] (r.toList ++ st) u2 P)) := zl_CV h0_1877 rfl rfl rfl ⟨Nat.le_of_ble_eq_true rfl, Nat.succ_ne_zero _, by decide⟩ rfl
theorem h0_1880 : xcd2 I 0 1880 = oCmp (fun x y => decide (x = y)) 2238 1883 := ch_41 (Nat.le_of_ble_eq_true rfl) rfl
theorem q0_1880 : zl I 0 1880 [v0, v1, v2, v3, v4, v5, v6] (.int y1 :: .int y2 :: st) u P = (if y2 = y1 then zl I 0 2238 [v0, v1, v2, v3, v4, v5, v6] st u P else zl I 0 1883 [v0, v1, v2, v3, v4, v5, v6] st u P) := zl_Cmp h0_1880
theorem h0_1883 : xcd2 I 0 1883 = oI 0 1884 := ch_41 (Nat.le_of_ble_eq_true rfl) rfl
theorem q0_1883 : zl I 0 1883 [v0, v1, v2, v3, v4, v5, v6] st u P = zl I 0 1884 [v0, v1, v2, v3, v4, v5, v6] (.int 0 :: st) u P := zl_I h0_1883
theorem h0_1884 : xcd2 I 0 1884 = oRz 0 := ch_41 (Nat.le_of_ble_eq_true rfl) rfl
theorem q0_1884 : zl I 0 1884 [v0, v1, v2, v3, v4, v5, v6] [.int y1] u P = ((y1 = 0 ∨ y1 = 1) ∧ P (some (.int y1)) u) := zl_Rz h0_1884
theorem h0_1885 : xcd2 I 0 1885 = oAl 1 1886 := ch_41 (Nat.le_of_ble_eq_true rfl) rfl
theorem q0_1885 : zl I 0 1885 [v0, .ref a1, v2, v3, v4, v5, v6] st u P = zl I 0 1886 [v0, .ref a1, v2, v3, v4, v5, v6] (.ref a1 :: st) u P := zl_Al h0_1885 rfl
theorem h0_1886 : xcd2 I 0 1886 = oAl 0 1887 := ch_41 (Nat.le_of_ble_eq_true rfl) rfl
theorem q0_1886 : zl I 0 1886 [.ref a0, v1, v2, v3, v4, v5, v6] st u P = zl I 0 1887 [.ref a0, v1, v2, v3, v4, v5, v6] (.ref a0 :: st) u P := zl_Al h0_1886 rfl
theorem h0_1887 : xcd2 I 0 1887 = oIl 4 1889 := ch_41 (Nat.le_of_ble_eq_true rfl) rfl
theorem q0_1887 : zl I 0 1887 [v0, v1, v2, v3, .int x4, v5, v6] st u P = zl I 0 1889 [v0, v1, v2, v3, .int x4, v5, v6] (.int x4 :: st) u P := zl_Il h0_1887 rfl
theorem h0_1889 : xcd2 I 0 1889 = oI 1 1890 := ch_41 (Nat.le_of_ble_eq_true rfl) rfl
theorem q0_1889 : zl I 0 1889 [v0, v1, v2, v3, v4, v5, v6] st u P = zl I 0 1890 [v0, v1, v2, v3, v4, v5, v6] (.int 1 :: st) u P := zl_I h0_1889
theorem h0_1890 : xcd2 I 0 1890 = oB (fun x y => x + y) 1891 := ch_41 (Nat.le_of_ble_eq_true rfl) rfl
theorem q0_1890 : zl I 0 1890 [v0, v1, v2, v3, v4, v5, v6] (.int y1 :: .int y2 :: st) u P = zl I 0 1891 [v0, v1, v2, v3, v4, v5, v6] (.int (y2 + y1) :: st) u P := zl_B h0_1890
theorem h0_1891 : xcd2 I 0 1891 = oScr 1892 := ch_41 (Nat.le_of_ble_eq_true rfl) rfl
theorem q0_1891 : zl I 0 1891 [v0, v1, v2, v3, v4, v5, v6] (.int y1 :: .ref b1 :: st) u P = ((b1 = 2000000 ∧ xinb y1 (xN u 2000000)) ∧ zl I 0 1892 [v0, v1, v2, v3, v4, v5, v6] (.int (xI u 2000000 (xix y1)) :: st) u P) := zl_Scr h0_1891
theorem h0_1892 : xcd2 I 0 1892 = oAl 0 1893 := ch_41 (Nat.le_of_ble_eq_true rfl) rfl
theorem q0_1892 : zl I 0 1892 [.ref a0, v1, v2, v3, v4, v5, v6] st u P = zl I 0 1893 [.ref a0, v1, v2, v3, v4, v5, v6] (.ref a0 :: st) u P := zl_Al h0_1892 rfl
theorem h0_1893 : xcd2 I 0 1893 = oIl 4 1895 := ch_41 (Nat.le_of_ble_eq_true rfl) rfl
theorem q0_1893 : zl I 0 1893 [v0, v1, v2, v3, .int x4, v5, v6] st u P = zl I 0 1895 [v0, v1, v2, v3, .int x4, v5, v6] (.int x4 :: st) u P := zl_Il h0_1893 rfl
theorem h0_1895 : xcd2 I 0 1895 = oI 2 1896 := ch_41 (Nat.le_of_ble_eq_true rfl) rfl
theorem q0_1895 : zl I 0 1895 [v0, v1, v2, v3, v4, v5, v6] st u P = zl I 0 1896 [v0, v1, v2, v3, v4, v5, v6] (.int 2 :: st) u P := zl_I h0_1895
theorem h0_1896 : xcd2 I 0 1896 = oB (fun x y => x + y) 1897 := ch_41 (Nat.le_of_ble_eq_true rfl) rfl
theorem q0_1896 : zl I 0 1896 [v0, v1, v2, v3, v4, v5, v6] (.int y1 :: .int y2 :: st) u P = zl I 0 1897 [v0, v1, v2, v3, v4, v5, v6] (.int (y2 + y1) :: st) u P := zl_B h0_1896
theorem h0_1897 : xcd2 I 0 1897 = oScr 1898 := ch_41 (Nat.le_of_ble_eq_true rfl) rfl
theorem q0_1897 : zl I 0 1897 [v0, v1, v2, v3, v4, v5, v6] (.int y1 :: .ref b1 :: st) u P = ((b1 = 2000000 ∧ xinb y1 (xN u 2000000)) ∧ zl I 0 1898 [v0, v1, v2, v3, v4, v5, v6] (.int (xI u 2000000 (xix y1)) :: st) u P) := zl_Scr h0_1897
theorem h0_1898 : xcd2 I 0 1898 = oAl 0 1899 := ch_41 (Nat.le_of_ble_eq_true rfl) rfl
theorem q0_1898 : zl I 0 1898 [.ref a0, v1, v2, v3, v4, v5, v6] st u P = zl I 0 1899 [.ref a0, v1, v2, v3, v4, v5, v6] (.ref a0 :: st) u P := zl_Al h0_1898 rfl
theorem h0_1899 : xcd2 I 0 1899 = oIl 4 1901 := ch_41 (Nat.le_of_ble_eq_true rfl) rfl
theorem q0_1899 : zl I 0 1899 [v0, v1, v2, v3, .int x4, v5, v6] st u P = zl I 0 1901 [v0, v1, v2, v3, .int x4, v5, v6] (.int x4 :: st) u P := zl_Il h0_1899 rfl
theorem h0_1901 : xcd2 I 0 1901 = oI 3 1902 := ch_41 (Nat.le_of_ble_eq_true rfl) rfl
theorem q0_1901 : zl I 0 1901 [v0, v1, v2, v3, v4, v5, v6] st u P = zl I 0 1902 [v0, v1, v2, v3, v4, v5, v6] (.int 3 :: st) u P := zl_I h0_1901
theorem h0_1902 : xcd2 I 0 1902 = oB (fun x y => x + y) 1903 := ch_41 (Nat.le_of_ble_eq_true rfl) rfl
theorem q0_1902 : zl I 0 1902 [v0, v1, v2, v3, v4, v5, v6] (.int y1 :: .int y2 :: st) u P = zl I 0 1903 [v0, v1, v2, v3, v4, v5, v6] (.int (y2 + y1) :: st) u P := zl_B h0_1902
theorem h0_1903 : xcd2 I 0 1903 = oScr 1904 := ch_41 (Nat.le_of_ble_eq_true rfl) rfl
theorem q0_1903 : zl I 0 1903 [v0, v1, v2, v3, v4, v5, v6] (.int y1 :: .ref b1 :: st) u P = ((b1 = 2000000 ∧ xinb y1 (xN u 2000000)) ∧ zl I 0 1904 [v0, v1, v2, v3, v4, v5, v6] (.int (xI u 2000000 (xix y1)) :: st) u P) := zl_Scr h0_1903
theorem h0_1904 : xcd2 I 0 1904 = oAl 0 1905 := ch_41 (Nat.le_of_ble_eq_true rfl) rfl
theorem q0_1904 : zl I 0 1904 [.ref a0, v1, v2, v3, v4, v5, v6] st u P = zl I 0 1905 [.ref a0, v1, v2, v3, v4, v5, v6] (.ref a0 :: st) u P := zl_Al h0_1904 rfl
theorem h0_1905 : xcd2 I 0 1905 = oIl 4 1907 := ch_41 (Nat.le_of_ble_eq_true rfl) rfl
theorem q0_1905 : zl I 0 1905 [v0, v1, v2, v3, .int x4, v5, v6] st u P = zl I 0 1907 [v0, v1, v2, v3, .int x4, v5, v6] (.int x4 :: st) u P := zl_Il h0_1905 rfl
theorem h0_1907 : xcd2 I 0 1907 = oI 4 1908 := ch_41 (Nat.le_of_ble_eq_true rfl) rfl
theorem q0_1907 : zl I 0 1907 [v0, v1, v2, v3, v4, v5, v6] st u P = zl I 0 1908 [v0, v1, v2, v3, v4, v5, v6] (.int 4 :: st) u P := zl_I h0_1907
theorem h0_1908 : xcd2 I 0 1908 = oB (fun x y => x + y) 1909 := ch_41 (Nat.le_of_ble_eq_true rfl) rfl
theorem q0_1908 : zl I 0 1908 [v0, v1, v2, v3, v4, v5, v6] (.int y1 :: .int y2 :: st) u P = zl I 0 1909 [v0, v1, v2, v3, v4, v5, v6] (.int (y2 + y1) :: st) u P := zl_B h0_1908
theorem h0_1909 : xcd2 I 0 1909 = oScr 1910 := ch_41 (Nat.le_of_ble_eq_true rfl) rfl
theorem q0_1909 : zl I 0 1909 [v0, v1, v2, v3, v4, v5, v6] (.int y1 :: .ref b1 :: st) u P = ((b1 = 2000000 ∧ xinb y1 (xN u 2000000)) ∧ zl I 0 1910 [v0, v1, v2, v3, v4, v5, v6] (.int (xI u 2000000 (xix y1)) :: st) u P) := zl_Scr h0_1909
theorem h0_1910 : xcd2 I 0 1910 = oAl 0 1911 := ch_41 (Nat.le_of_ble_eq_true rfl) rfl
theorem q0_1910 : zl I 0 1910 [.ref a0, v1, v2, v3, v4, v5, v6] st u P = zl I 0 1911 [.ref a0, v1, v2, v3, v4, v5, v6] (.ref a0 :: st) u P := zl_Al h0_1910 rfl
theorem h0_1911 : xcd2 I 0 1911 = oIl 4 1913 := ch_42 (Nat.le_of_ble_eq_true rfl) rfl
theorem q0_1911 : zl I 0 1911 [v0, v1, v2, v3, .int x4, v5, v6] st u P = zl I 0 1913 [v0, v1, v2, v3, .int x4, v5, v6] (.int x4 :: st) u P := zl_Il h0_1911 rfl
theorem h0_1913 : xcd2 I 0 1913 = oI 5 1914 := ch_42 (Nat.le_of_ble_eq_true rfl) rfl
theorem q0_1913 : zl I 0 1913 [v0, v1, v2, v3, v4, v5, v6] st u P = zl I 0 1914 [v0, v1, v2, v3, v4, v5, v6] (.int 5 :: st) u P := zl_I h0_1913
theorem h0_1914 : xcd2 I 0 1914 = oB (fun x y => x + y) 1915 := ch_42 (Nat.le_of_ble_eq_true rfl) rfl
theorem q0_1914 : zl I 0 1914 [v0, v1, v2, v3, v4, v5, v6] (.int y1 :: .int y2 :: st) u P = zl I 0 1915 [v0, v1, v2, v3, v4, v5, v6] (.int (y2 + y1) :: st) u P := zl_B h0_1914
theorem h0_1915 : xcd2 I 0 1915 = oScr 1916 := ch_42 (Nat.le_of_ble_eq_true rfl) rfl
theorem q0_1915 : zl I 0 1915 [v0, v1, v2, v3, v4, v5, v6] (.int y1 :: .ref b1 :: st) u P = ((b1 = 2000000 ∧ xinb y1 (xN u 2000000)) ∧ zl I 0 1916 [v0, v1, v2, v3, v4, v5, v6] (.int (xI u 2000000 (xix y1)) :: st) u P) := zl_Scr h0_1915
theorem h0_1916 : xcd2 I 0 1916 = oAl 0 1917 := ch_42 (Nat.le_of_ble_eq_true rfl) rfl
theorem q0_1916 : zl I 0 1916 [.ref a0, v1, v2, v3, v4, v5, v6] st u P = zl I 0 1917 [.ref a0, v1, v2, v3, v4, v5, v6] (.ref a0 :: st) u P := zl_Al h0_1916 rfl
theorem h0_1917 : xcd2 I 0 1917 = oIl 4 1919 := ch_42 (Nat.le_of_ble_eq_true rfl) rfl
theorem q0_1917 : zl I 0 1917 [v0, v1, v2, v3, .int x4, v5, v6] st u P = zl I 0 1919 [v0, v1, v2, v3, .int x4, v5, v6] (.int x4 :: st) u P := zl_Il h0_1917 rfl
theorem h0_1919 : xcd2 I 0 1919 = oI 6 1921 := ch_42 (Nat.le_of_ble_eq_true rfl) rfl
theorem q0_1919 : zl I 0 1919 [v0, v1, v2, v3, v4, v5, v6] st u P = zl I 0 1921 [v0, v1, v2, v3, v4, v5, v6] (.int 6 :: st) u P := zl_I h0_1919
theorem h0_1921 : xcd2 I 0 1921 = oB (fun x y => x + y) 1922 := ch_42 (Nat.le_of_ble_eq_true rfl) rfl
theorem q0_1921 : zl I 0 1921 [v0, v1, v2, v3, v4, v5, v6] (.int y1 :: .int y2 :: st) u P = zl I 0 1922 [v0, v1, v2, v3, v4, v5, v6] (.int (y2 + y1) :: st) u P := zl_B h0_1921
theorem h0_1922 : xcd2 I 0 1922 = oScr 1923 := ch_42 (Nat.le_of_ble_eq_true rfl) rfl
theorem q0_1922 : zl I 0 1922 [v0, v1, v2, v3, v4, v5, v6] (.int y1 :: .ref b1 :: st) u P = ((b1 = 2000000 ∧ xinb y1 (xN u 2000000)) ∧ zl I 0 1923 [v0, v1, v2, v3, v4, v5, v6] (.int (xI u 2000000 (xix y1)) :: st) u P) := zl_Scr h0_1922
theorem h0_1923 : xcd2 I 0 1923 = oCalV 10 146 6 1926 := ch_42 (Nat.le_of_ble_eq_true rfl) rfl
theorem q0_1923 : zl I 0 1923 [v0, v1, v2, v3, v4, v5, v6] (.int y6 :: .int y5 :: .int y4 :: .int y3 :: .int y2 :: .int y1 :: .ref b8 :: st) u P = ((xIs u b8 10 ∧ xcat st ≤ 8) ∧ zl I 146 0 [.ref b8, .int y1, .int y2, .int y3, .int y4, .int y5, .int y6, .null] [] u (fun r u2 => zl I 0 1926 [v0, v1, v2, v3, v4, v5, v6] (r.toList ++ st) u2 P)) := zl_CV h0_1923 rfl rfl rfl ⟨Nat.le_of_ble_eq_true rfl, Nat.succ_ne_zero _, by decide⟩ rfl
theorem h0_1926 : xcd2 I 0 1926 = oAl 2 1927 := ch_42 (Nat.le_of_ble_eq_true rfl) rfl
theorem q0_1926 : zl I 0 1926 [v0, v1, .ref a2, v3, v4, v5, v6] st u P = zl I 0 1927 [v0, v1, .ref a2, v3, v4, v5, v6] (.ref a2 :: st) u P := zl_Al h0_1926 rfl
theorem h0_1927 : xcd2 I 0 1927 = oAl 0 1928 := ch_42 (Nat.le_of_ble_eq_true rfl) rfl
theorem q0_1927 : zl I 0 1927 [.ref a0, v1, v2, v3, v4, v5, v6] st u P = zl I 0 1928 [.ref a0, v1, v2, v3, v4, v5, v6] (.ref a0 :: st) u P := zl_Al h0_1927 rfl
theorem h0_1928 : xcd2 I 0 1928 = oIl 4 1930 := ch_42 (Nat.le_of_ble_eq_true rfl) rfl
theorem q0_1928 : zl I 0 1928 [v0, v1, v2, v3, .int x4, v5, v6] st u P = zl I 0 1930 [v0, v1, v2, v3, .int x4, v5, v6] (.int x4 :: st) u P := zl_Il h0_1928 rfl
theorem h0_1930 : xcd2 I 0 1930 = oI 1 1931 := ch_42 (Nat.le_of_ble_eq_true rfl) rfl
theorem q0_1930 : zl I 0 1930 [v0, v1, v2, v3, v4, v5, v6] st u P = zl I 0 1931 [v0, v1, v2, v3, v4, v5, v6] (.int 1 :: st) u P := zl_I h0_1930
theorem h0_1931 : xcd2 I 0 1931 = oB (fun x y => x + y) 1932 := ch_42 (Nat.le_of_ble_eq_true rfl) rfl
theorem q0_1931 : zl I 0 1931 [v0, v1, v2, v3, v4, v5, v6] (.int y1 :: .int y2 :: st) u P = zl I 0 1932 [v0, v1, v2, v3, v4, v5, v6] (.int (y2 + y1) :: st) u P := zl_B h0_1931
theorem h0_1932 : xcd2 I 0 1932 = oScr 1933 := ch_42 (Nat.le_of_ble_eq_true rfl) rfl
theorem q0_1932 : zl I 0 1932 [v0, v1, v2, v3, v4, v5, v6] (.int y1 :: .ref b1 :: st) u P = ((b1 = 2000000 ∧ xinb y1 (xN u 2000000)) ∧ zl I 0 1933 [v0, v1, v2, v3, v4, v5, v6] (.int (xI u 2000000 (xix y1)) :: st) u P) := zl_Scr h0_1932
theorem h0_1933 : xcd2 I 0 1933 = oAl 0 1934 := ch_42 (Nat.le_of_ble_eq_true rfl) rfl
theorem q0_1933 : zl I 0 1933 [.ref a0, v1, v2, v3, v4, v5, v6] st u P = zl I 0 1934 [.ref a0, v1, v2, v3, v4, v5, v6] (.ref a0 :: st) u P := zl_Al h0_1933 rfl
theorem h0_1934 : xcd2 I 0 1934 = oIl 4 1936 := ch_42 (Nat.le_of_ble_eq_true rfl) rfl
theorem q0_1934 : zl I 0 1934 [v0, v1, v2, v3, .int x4, v5, v6] st u P = zl I 0 1936 [v0, v1, v2, v3, .int x4, v5, v6] (.int x4 :: st) u P := zl_Il h0_1934 rfl
theorem h0_1936 : xcd2 I 0 1936 = oI 2 1937 := ch_42 (Nat.le_of_ble_eq_true rfl) rfl
theorem q0_1936 : zl I 0 1936 [v0, v1, v2, v3, v4, v5, v6] st u P = zl I 0 1937 [v0, v1, v2, v3, v4, v5, v6] (.int 2 :: st) u P := zl_I h0_1936
theorem h0_1937 : xcd2 I 0 1937 = oB (fun x y => x + y) 1938 := ch_42 (Nat.le_of_ble_eq_true rfl) rfl
theorem q0_1937 : zl I 0 1937 [v0, v1, v2, v3, v4, v5, v6] (.int y1 :: .int y2 :: st) u P = zl I 0 1938 [v0, v1, v2, v3, v4, v5, v6] (.int (y2 + y1) :: st) u P := zl_B h0_1937
theorem h0_1938 : xcd2 I 0 1938 = oScr 1939 := ch_42 (Nat.le_of_ble_eq_true rfl) rfl
theorem q0_1938 : zl I 0 1938 [v0, v1, v2, v3, v4, v5, v6] (.int y1 :: .ref b1 :: st) u P = ((b1 = 2000000 ∧ xinb y1 (xN u 2000000)) ∧ zl I 0 1939 [v0, v1, v2, v3, v4, v5, v6] (.int (xI u 2000000 (xix y1)) :: st) u P) := zl_Scr h0_1938
theorem h0_1939 : xcd2 I 0 1939 = oAl 0 1940 := ch_42 (Nat.le_of_ble_eq_true rfl) rfl
theorem q0_1939 : zl I 0 1939 [.ref a0, v1, v2, v3, v4, v5, v6] st u P = zl I 0 1940 [.ref a0, v1, v2, v3, v4, v5, v6] (.ref a0 :: st) u P := zl_Al h0_1939 rfl
theorem h0_1940 : xcd2 I 0 1940 = oIl 4 1942 := ch_42 (Nat.le_of_ble_eq_true rfl) rfl
theorem q0_1940 : zl I 0 1940 [v0, v1, v2, v3, .int x4, v5, v6] st u P = zl I 0 1942 [v0, v1, v2, v3, .int x4, v5, v6] (.int x4 :: st) u P := zl_Il h0_1940 rfl
theorem h0_1942 : xcd2 I 0 1942 = oI 3 1943 := ch_42 (Nat.le_of_ble_eq_true rfl) rfl
theorem q0_1942 : zl I 0 1942 [v0, v1, v2, v3, v4, v5, v6] st u P = zl I 0 1943 [v0, v1, v2, v3, v4, v5, v6] (.int 3 :: st) u P := zl_I h0_1942
theorem h0_1943 : xcd2 I 0 1943 = oB (fun x y => x + y) 1944 := ch_42 (Nat.le_of_ble_eq_true rfl) rfl
theorem q0_1943 : zl I 0 1943 [v0, v1, v2, v3, v4, v5, v6] (.int y1 :: .int y2 :: st) u P = zl I 0 1944 [v0, v1, v2, v3, v4, v5, v6] (.int (y2 + y1) :: st) u P := zl_B h0_1943
theorem h0_1944 : xcd2 I 0 1944 = oScr 1945 := ch_42 (Nat.le_of_ble_eq_true rfl) rfl
theorem q0_1944 : zl I 0 1944 [v0, v1, v2, v3, v4, v5, v6] (.int y1 :: .ref b1 :: st) u P = ((b1 = 2000000 ∧ xinb y1 (xN u 2000000)) ∧ zl I 0 1945 [v0, v1, v2, v3, v4, v5, v6] (.int (xI u 2000000 (xix y1)) :: st) u P) := zl_Scr h0_1944
theorem h0_1945 : xcd2 I 0 1945 = oAl 0 1946 := ch_42 (Nat.le_of_ble_eq_true rfl) rfl
theorem q0_1945 : zl I 0 1945 [.ref a0, v1, v2, v3, v4, v5, v6] st u P = zl I 0 1946 [.ref a0, v1, v2, v3, v4, v5, v6] (.ref a0 :: st) u P := zl_Al h0_1945 rfl
theorem h0_1946 : xcd2 I 0 1946 = oIl 4 1948 := ch_42 (Nat.le_of_ble_eq_true rfl) rfl
theorem q0_1946 : zl I 0 1946 [v0, v1, v2, v3, .int x4, v5, v6] st u P = zl I 0 1948 [v0, v1, v2, v3, .int x4, v5, v6] (.int x4 :: st) u P := zl_Il h0_1946 rfl
theorem h0_1948 : xcd2 I 0 1948 = oI 4 1949 := ch_42 (Nat.le_of_ble_eq_true rfl) rfl
theorem q0_1948 : zl I 0 1948 [v0, v1, v2, v3, v4, v5, v6] st u P = zl I 0 1949 [v0, v1, v2, v3, v4, v5, v6] (.int 4 :: st) u P := zl_I h0_1948
theorem h0_1949 : xcd2 I 0 1949 = oB (fun x y => x + y) 1950 := ch_42 (Nat.le_of_ble_eq_true rfl) rfl
theorem q0_1949 : zl I 0 1949 [v0, v1, v2, v3, v4, v5, v6] (.int y1 :: .int y2 :: st) u P = zl I 0 1950 [v0, v1, v2, v3, v4, v5, v6] (.int (y2 + y1) :: st) u P := zl_B h0_1949
theorem h0_1950 : xcd2 I 0 1950 = oScr 1951 := ch_43 (Nat.le_of_ble_eq_true rfl) rfl
theorem q0_1950 : zl I 0 1950 [v0, v1, v2, v3, v4, v5, v6] (.int y1 :: .ref b1 :: st) u P = ((b1 = 2000000 ∧ xinb y1 (xN u 2000000)) ∧ zl I 0 1951 [v0, v1, v2, v3, v4, v5, v6] (.int (xI u 2000000 (xix y1)) :: st) u P) := zl_Scr h0_1950
theorem h0_1951 : xcd2 I 0 1951 = oAl 0 1952 := ch_43 (Nat.le_of_ble_eq_true rfl) rfl
theorem q0_1951 : zl I 0 1951 [.ref a0, v1, v2, v3, v4, v5, v6] st u P = zl I 0 1952 [.ref a0, v1, v2, v3, v4, v5, v6] (.ref a0 :: st) u P := zl_Al h0_1951 rfl
theorem h0_1952 : xcd2 I 0 1952 = oIl 4 1954 := ch_43 (Nat.le_of_ble_eq_true rfl) rfl
theorem q0_1952 : zl I 0 1952 [v0, v1, v2, v3, .int x4, v5, v6] st u P = zl I 0 1954 [v0, v1, v2, v3, .int x4, v5, v6] (.int x4 :: st) u P := zl_Il h0_1952 rfl
theorem h0_1954 : xcd2 I 0 1954 = oI 5 1955 := ch_43 (Nat.le_of_ble_eq_true rfl) rfl
theorem q0_1954 : zl I 0 1954 [v0, v1, v2, v3, v4, v5, v6] st u P = zl I 0 1955 [v0, v1, v2, v3, v4, v5, v6] (.int 5 :: st) u P := zl_I h0_1954
theorem h0_1955 : xcd2 I 0 1955 = oB (fun x y => x + y) 1956 := ch_43 (Nat.le_of_ble_eq_true rfl) rfl
theorem q0_1955 : zl I 0 1955 [v0, v1, v2, v3, v4, v5, v6] (.int y1 :: .int y2 :: st) u P = zl I 0 1956 [v0, v1, v2, v3, v4, v5, v6] (.int (y2 + y1) :: st) u P := zl_B h0_1955
theorem h0_1956 : xcd2 I 0 1956 = oScr 1957 := ch_43 (Nat.le_of_ble_eq_true rfl) rfl
theorem q0_1956 : zl I 0 1956 [v0, v1, v2, v3, v4, v5, v6] (.int y1 :: .ref b1 :: st) u P = ((b1 = 2000000 ∧ xinb y1 (xN u 2000000)) ∧ zl I 0 1957 [v0, v1, v2, v3, v4, v5, v6] (.int (xI u 2000000 (xix y1)) :: st) u P) := zl_Scr h0_1956
theorem h0_1957 : xcd2 I 0 1957 = oAl 0 1958 := ch_43 (Nat.le_of_ble_eq_true rfl) rfl
theorem q0_1957 : zl I 0 1957 [.ref a0, v1, v2, v3, v4, v5, v6] st u P = zl I 0 1958 [.ref a0, v1, v2, v3, v4, v5, v6] (.ref a0 :: st) u P := zl_Al h0_1957 rfl
theorem h0_1958 : xcd2 I 0 1958 = oIl 4 1960 := ch_43 (Nat.le_of_ble_eq_true rfl) rfl
theorem q0_1958 : zl I 0 1958 [v0, v1, v2, v3, .int x4, v5, v6] st u P = zl I 0 1960 [v0, v1, v2, v3, .int x4, v5, v6] (.int x4 :: st) u P := zl_Il h0_1958 rfl
theorem h0_1960 : xcd2 I 0 1960 = oI 6 1962 := ch_43 (Nat.le_of_ble_eq_true rfl) rfl
theorem q0_1960 : zl I 0 1960 [v0, v1, v2, v3, v4, v5, v6] st u P = zl I 0 1962 [v0, v1, v2, v3, v4, v5, v6] (.int 6 :: st) u P := zl_I h0_1960
theorem h0_1962 : xcd2 I 0 1962 = oB (fun x y => x + y) 1963 := ch_43 (Nat.le_of_ble_eq_true rfl) rfl
theorem q0_1962 : zl I 0 1962 [v0, v1, v2, v3, v4, v5, v6] (.int y1 :: .int y2 :: st) u P = zl I 0 1963 [v0, v1, v2, v3, v4, v5, v6] (.int (y2 + y1) :: st) u P := zl_B h0_1962
theorem h0_1963 : xcd2 I 0 1963 = oScr 1964 := ch_43 (Nat.le_of_ble_eq_true rfl) rfl
theorem q0_1963 : zl I 0 1963 [v0, v1, v2, v3, v4, v5, v6] (.int y1 :: .ref b1 :: st) u P = ((b1 = 2000000 ∧ xinb y1 (xN u 2000000)) ∧ zl I 0 1964 [v0, v1, v2, v3, v4, v5, v6] (.int (xI u 2000000 (xix y1)) :: st) u P) := zl_Scr h0_1963
theorem h0_1964 : xcd2 I 0 1964 = oCalV 11 290 6 1967 := ch_43 (Nat.le_of_ble_eq_true rfl) rfl
theorem q0_1964 : zl I 0 1964 [v0, v1, v2, v3, v4, v5, v6] (.int y6 :: .int y5 :: .int y4 :: .int y3 :: .int y2 :: .int y1 :: .ref b8 :: st) u P = ((xIs u b8 11 ∧ xcat st ≤ 8) ∧ zl I 290 0 [.ref b8, .int y1, .int y2, .int y3, .int y4, .int y5, .int y6, .null, .null, .null, .null, .null] [] u (fun r u2 => zl I 0 1967 [v0, v1, v2, v3, v4, v5, v6] (r.toList ++ st) u2 P)) := zl_CV h0_1964 rfl rfl rfl ⟨Nat.le_of_ble_eq_true rfl, Nat.succ_ne_zero _, by decide⟩ rfl
theorem h0_1967 : xcd2 I 0 1967 = oCmp (fun x y => decide (x = y)) 2238 1970 := ch_43 (Nat.le_of_ble_eq_true rfl) rfl
theorem q0_1967 : zl I 0 1967 [v0, v1, v2, v3, v4, v5, v6] (.int y1 :: .int y2 :: st) u P = (if y2 = y1 then zl I 0 2238 [v0, v1, v2, v3, v4, v5, v6] st u P else zl I 0 1970 [v0, v1, v2, v3, v4, v5, v6] st u P) := zl_Cmp h0_1967
theorem h0_1970 : xcd2 I 0 1970 = oI 0 1971 := ch_43 (Nat.le_of_ble_eq_true rfl) rfl
theorem q0_1970 : zl I 0 1970 [v0, v1, v2, v3, v4, v5, v6] st u P = zl I 0 1971 [v0, v1, v2, v3, v4, v5, v6] (.int 0 :: st) u P := zl_I h0_1970
theorem h0_1971 : xcd2 I 0 1971 = oRz 0 := ch_43 (Nat.le_of_ble_eq_true rfl) rfl
theorem q0_1971 : zl I 0 1971 [v0, v1, v2, v3, v4, v5, v6] [.int y1] u P = ((y1 = 0 ∨ y1 = 1) ∧ P (some (.int y1)) u) := zl_Rz h0_1971
theorem h0_1972 : xcd2 I 0 1972 = oAl 1 1973 := ch_43 (Nat.le_of_ble_eq_true rfl) rfl
theorem q0_1972 : zl I 0 1972 [v0, .ref a1, v2, v3, v4, v5, v6] st u P = zl I 0 1973 [v0, .ref a1, v2, v3, v4, v5, v6] (.ref a1 :: st) u P := zl_Al h0_1972 rfl
theorem h0_1973 : xcd2 I 0 1973 = oAl 0 1974 := ch_43 (Nat.le_of_ble_eq_true rfl) rfl
theorem q0_1973 : zl I 0 1973 [.ref a0, v1, v2, v3, v4, v5, v6] st u P = zl I 0 1974 [.ref a0, v1, v2, v3, v4, v5, v6] (.ref a0 :: st) u P := zl_Al h0_1973 rfl
theorem h0_1974 : xcd2 I 0 1974 = oIl 4 1976 := ch_43 (Nat.le_of_ble_eq_true rfl) rfl
theorem q0_1974 : zl I 0 1974 [v0, v1, v2, v3, .int x4, v5, v6] st u P = zl I 0 1976 [v0, v1, v2, v3, .int x4, v5, v6] (.int x4 :: st) u P := zl_Il h0_1974 rfl
theorem h0_1976 : xcd2 I 0 1976 = oI 1 1977 := ch_43 (Nat.le_of_ble_eq_true rfl) rfl
theorem q0_1976 : zl I 0 1976 [v0, v1, v2, v3, v4, v5, v6] st u P = zl I 0 1977 [v0, v1, v2, v3, v4, v5, v6] (.int 1 :: st) u P := zl_I h0_1976
theorem h0_1977 : xcd2 I 0 1977 = oB (fun x y => x + y) 1978 := ch_43 (Nat.le_of_ble_eq_true rfl) rfl
theorem q0_1977 : zl I 0 1977 [v0, v1, v2, v3, v4, v5, v6] (.int y1 :: .int y2 :: st) u P = zl I 0 1978 [v0, v1, v2, v3, v4, v5, v6] (.int (y2 + y1) :: st) u P := zl_B h0_1977
theorem h0_1978 : xcd2 I 0 1978 = oScr 1979 := ch_43 (Nat.le_of_ble_eq_true rfl) rfl
theorem q0_1978 : zl I 0 1978 [v0, v1, v2, v3, v4, v5, v6] (.int y1 :: .ref b1 :: st) u P = ((b1 = 2000000 ∧ xinb y1 (xN u 2000000)) ∧ zl I 0 1979 [v0, v1, v2, v3, v4, v5, v6] (.int (xI u 2000000 (xix y1)) :: st) u P) := zl_Scr h0_1978
theorem h0_1979 : xcd2 I 0 1979 = oAl 0 1980 := ch_43 (Nat.le_of_ble_eq_true rfl) rfl
theorem q0_1979 : zl I 0 1979 [.ref a0, v1, v2, v3, v4, v5, v6] st u P = zl I 0 1980 [.ref a0, v1, v2, v3, v4, v5, v6] (.ref a0 :: st) u P := zl_Al h0_1979 rfl
theorem h0_1980 : xcd2 I 0 1980 = oIl 4 1982 := ch_43 (Nat.le_of_ble_eq_true rfl) rfl
theorem q0_1980 : zl I 0 1980 [v0, v1, v2, v3, .int x4, v5, v6] st u P = zl I 0 1982 [v0, v1, v2, v3, .int x4, v5, v6] (.int x4 :: st) u P := zl_Il h0_1980 rfl
theorem h0_1982 : xcd2 I 0 1982 = oI 2 1983 := ch_43 (Nat.le_of_ble_eq_true rfl) rfl
theorem q0_1982 : zl I 0 1982 [v0, v1, v2, v3, v4, v5, v6] st u P = zl I 0 1983 [v0, v1, v2, v3, v4, v5, v6] (.int 2 :: st) u P := zl_I h0_1982
theorem h0_1983 : xcd2 I 0 1983 = oB (fun x y => x + y) 1984 := ch_43 (Nat.le_of_ble_eq_true rfl) rfl
theorem q0_1983 : zl I 0 1983 [v0, v1, v2, v3, v4, v5, v6] (.int y1 :: .int y2 :: st) u P = zl I 0 1984 [v0, v1, v2, v3, v4, v5, v6] (.int (y2 + y1) :: st) u P := zl_B h0_1983
theorem h0_1984 : xcd2 I 0 1984 = oScr 1985 := ch_43 (Nat.le_of_ble_eq_true rfl) rfl
theorem q0_1984 : zl I 0 1984 [v0, v1, v2, v3, v4, v5, v6] (.int y1 :: .ref b1 :: st) u P = ((b1 = 2000000 ∧ xinb y1 (xN u 2000000)) ∧ zl I 0 1985 [v0, v1, v2, v3, v4, v5, v6] (.int (xI u 2000000 (xix y1)) :: st) u P) := zl_Scr h0_1984
theorem h0_1985 : xcd2 I 0 1985 = oCalV 10 147 2 1988 := ch_43 (Nat.le_of_ble_eq_true rfl) rfl
theorem q0_1985 : zl I 0 1985 [v0, v1, v2, v3, v4, v5, v6] (.int y2 :: .int y1 :: .ref b8 :: st) u P = ((xIs u b8 10 ∧ xcat st ≤ 8) ∧ zl I 147 0 [.ref b8, .int y1, .int y2, .null, .null] [] u (fun r u2 => zl I 0 1988 [v0, v1, v2, v3, v4, v5, v6] (r.toList ++ st) u2 P)) := zl_CV h0_1985 rfl rfl rfl ⟨Nat.le_of_ble_eq_true rfl, Nat.succ_ne_zero _, by decide⟩ rfl
theorem h0_1988 : xcd2 I 0 1988 = oAl 2 1989 := ch_43 (Nat.le_of_ble_eq_true rfl) rfl
theorem q0_1988 : zl I 0 1988 [v0, v1, .ref a2, v3, v4, v5, v6] st u P = zl I 0 1989 [v0, v1, .ref a2, v3, v4, v5, v6] (.ref a2 :: st) u P := zl_Al h0_1988 rfl
theorem h0_1989 : xcd2 I 0 1989 = oAl 0 1990 := ch_43 (Nat.le_of_ble_eq_true rfl) rfl
theorem q0_1989 : zl I 0 1989 [.ref a0, v1, v2, v3, v4, v5, v6] st u P = zl I 0 1990 [.ref a0, v1, v2, v3, v4, v5, v6] (.ref a0 :: st) u P := zl_Al h0_1989 rfl
theorem h0_1990 : xcd2 I 0 1990 = oIl 4 1992 := ch_43 (Nat.le_of_ble_eq_true rfl) rfl
theorem q0_1990 : zl I 0 1990 [v0, v1, v2, v3, .int x4, v5, v6] st u P = zl I 0 1992 [v0, v1, v2, v3, .int x4, v5, v6] (.int x4 :: st) u P := zl_Il h0_1990 rfl
theorem h0_1992 : xcd2 I 0 1992 = oI 1 1993 := ch_44 (Nat.le_of_ble_eq_true rfl) rfl
theorem q0_1992 : zl I 0 1992 [v0, v1, v2, v3, v4, v5, v6] st u P = zl I 0 1993 [v0, v1, v2, v3, v4, v5, v6] (.int 1 :: st) u P := zl_I h0_1992
theorem h0_1993 : xcd2 I 0 1993 = oB (fun x y => x + y) 1994 := ch_44 (Nat.le_of_ble_eq_true rfl) rfl
theorem q0_1993 : zl I 0 1993 [v0, v1, v2, v3, v4, v5, v6] (.int y1 :: .int y2 :: st) u P = zl I 0 1994 [v0, v1, v2, v3, v4, v5, v6] (.int (y2 + y1) :: st) u P := zl_B h0_1993
theorem h0_1994 : xcd2 I 0 1994 = oScr 1995 := ch_44 (Nat.le_of_ble_eq_true rfl) rfl
theorem q0_1994 : zl I 0 1994 [v0, v1, v2, v3, v4, v5, v6] (.int y1 :: .ref b1 :: st) u P = ((b1 = 2000000 ∧ xinb y1 (xN u 2000000)) ∧ zl I 0 1995 [v0, v1, v2, v3, v4, v5, v6] (.int (xI u 2000000 (xix y1)) :: st) u P) := zl_Scr h0_1994
theorem h0_1995 : xcd2 I 0 1995 = oAl 0 1996 := ch_44 (Nat.le_of_ble_eq_true rfl) rfl
theorem q0_1995 : zl I 0 1995 [.ref a0, v1, v2, v3, v4, v5, v6] st u P = zl I 0 1996 [.ref a0, v1, v2, v3, v4, v5, v6] (.ref a0 :: st) u P := zl_Al h0_1995 rfl
theorem h0_1996 : xcd2 I 0 1996 = oIl 4 1998 := ch_44 (Nat.le_of_ble_eq_true rfl) rfl
theorem q0_1996 : zl I 0 1996 [v0, v1, v2, v3, .int x4, v5, v6] st u P = zl I 0 1998 [v0, v1, v2, v3, .int x4, v5, v6] (.int x4 :: st) u P := zl_Il h0_1996 rfl
theorem h0_1998 : xcd2 I 0 1998 = oI 2 1999 := ch_44 (Nat.le_of_ble_eq_true rfl) rfl
theorem q0_1998 : zl I 0 1998 [v0, v1, v2, v3, v4, v5, v6] st u P = zl I 0 1999 [v0, v1, v2, v3, v4, v5, v6] (.int 2 :: st) u P := zl_I h0_1998
theorem h0_1999 : xcd2 I 0 1999 = oB (fun x y => x + y) 2000 := ch_44 (Nat.le_of_ble_eq_true rfl) rfl
theorem q0_1999 : zl I 0 1999 [v0, v1, v2, v3, v4, v5, v6] (.int y1 :: .int y2 :: st) u P = zl I 0 2000 [v0, v1, v2, v3, v4, v5, v6] (.int (y2 + y1) :: st) u P := zl_B h0_1999
theorem h0_2000 : xcd2 I 0 2000 = oScr 2001 := ch_44 (Nat.le_of_ble_eq_true rfl) rfl
theorem q0_2000 : zl I 0 2000 [v0, v1, v2, v3, v4, v5, v6] (.int y1 :: .ref b1 :: st) u P = ((b1 = 2000000 ∧ xinb y1 (xN u 2000000)) ∧ zl I 0 2001 [v0, v1, v2, v3, v4, v5, v6] (.int (xI u 2000000 (xix y1)) :: st) u P) := zl_Scr h0_2000
theorem h0_2001 : xcd2 I 0 2001 = oCalV 11 291 2 2004 := ch_44 (Nat.le_of_ble_eq_true rfl) rfl
theorem q0_2001 : zl I 0 2001 [v0, v1, v2, v3, v4, v5, v6] (.int y2 :: .int y1 :: .ref b8 :: st) u P = ((xIs u b8 11 ∧ xcat st ≤ 8) ∧ zl I 291 0 [.ref b8, .int y1, .int y2, .null] [] u (fun r u2 => zl I 0 2004 [v0, v1, v2, v3, v4, v5, v6] (r.toList ++ st) u2 P)) := zl_CV h0_2001 rfl rfl rfl ⟨Nat.le_of_ble_eq_true rfl, Nat.succ_ne_zero _, by decide⟩ rfl
theorem h0_2004 : xcd2 I 0 2004 = oCmp (fun x y => decide (x = y)) 2238 2007 := ch_44 (Nat.le_of_ble_eq_true rfl) rfl
theorem q0_2004 : zl I 0 2004 [v0, v1, v2, v3, v4, v5, v6] (.int y1 :: .int y2 :: st) u P = (if y2 = y1 then zl I 0 2238 [v0, v1, v2, v3, v4, v5, v6] st u P else zl I 0 2007 [v0, v1, v2, v3, v4, v5, v6] st u P) := zl_Cmp h0_2004
theorem h0_2007 : xcd2 I 0 2007 = oI 0 2008 := ch_44 (Nat.le_of_ble_eq_true rfl) rfl
theorem q0_2007 : zl I 0 2007 [v0, v1, v2, v3, v4, v5, v6] st u P = zl I 0 2008 [v0, v1, v2, v3, v4, v5, v6] (.int 0 :: st) u P := zl_I h0_2007
theorem h0_2008 : xcd2 I 0 2008 = oRz 0 := ch_44 (Nat.le_of_ble_eq_true rfl) rfl
theorem q0_2008 : zl I 0 2008 [v0, v1, v2, v3, v4, v5, v6] [.int y1] u P = ((y1 = 0 ∨ y1 = 1) ∧ P (some (.int y1)) u) := zl_Rz h0_2008
theorem h0_2009 : xcd2 I 0 2009 = oAl 1 2010 := ch_44 (Nat.le_of_ble_eq_true rfl) rfl
theorem q0_2009 : zl I 0 2009 [v0, .ref a1, v2, v3, v4, v5, v6] st u P = zl I 0 2010 [v0, .ref a1, v2, v3, v4, v5, v6] (.ref a1 :: st) u P := zl_Al h0_2009 rfl
theorem h0_2010 : xcd2 I 0 2010 = oAl 0 2011 := ch_44 (Nat.le_of_ble_eq_true rfl) rfl
theorem q0_2010 : zl I 0 2010 [.ref a0, v1, v2, v3, v4, v5, v6] st u P = zl I 0 2011 [.ref a0, v1, v2, v3, v4, v5, v6] (.ref a0 :: st) u P := zl_Al h0_2010 rfl
theorem h0_2011 : xcd2 I 0 2011 = oIl 4 2013 := ch_44 (Nat.le_of_ble_eq_true rfl) rfl
theorem q0_2011 : zl I 0 2011 [v0, v1, v2, v3, .int x4, v5, v6] st u P = zl I 0 2013 [v0, v1, v2, v3, .int x4, v5, v6] (.int x4 :: st) u P := zl_Il h0_2011 rfl
theorem h0_2013 : xcd2 I 0 2013 = oI 1 2014 := ch_44 (Nat.le_of_ble_eq_true rfl) rfl
theorem q0_2013 : zl I 0 2013 [v0, v1, v2, v3, v4, v5, v6] st u P = zl I 0 2014 [v0, v1, v2, v3, v4, v5, v6] (.int 1 :: st) u P := zl_I h0_2013
theorem h0_2014 : xcd2 I 0 2014 = oB (fun x y => x + y) 2015 := ch_44 (Nat.le_of_ble_eq_true rfl) rfl
theorem q0_2014 : zl I 0 2014 [v0, v1, v2, v3, v4, v5, v6] (.int y1 :: .int y2 :: st) u P = zl I 0 2015 [v0, v1, v2, v3, v4, v5, v6] (.int (y2 + y1) :: st) u P := zl_B h0_2014
theorem h0_2015 : xcd2 I 0 2015 = oScr 2016 := ch_44 (Nat.le_of_ble_eq_true rfl) rfl
theorem q0_2015 : zl I 0 2015 [v0, v1, v2, v3, v4, v5, v6] (.int y1 :: .ref b1 :: st) u P = ((b1 = 2000000 ∧ xinb y1 (xN u 2000000)) ∧ zl I 0 2016 [v0, v1, v2, v3, v4, v5, v6] (.int (xI u 2000000 (xix y1)) :: st) u P) := zl_Scr h0_2015
theorem h0_2016 : xcd2 I 0 2016 = oAl 0 2017 := ch_44 (Nat.le_of_ble_eq_true rfl) rfl
theorem q0_2016 : zl I 0 2016 [.ref a0, v1, v2, v3, v4, v5, v6] st u P = zl I 0 2017 [.ref a0, v1, v2, v3, v4, v5, v6] (.ref a0 :: st) u P := zl_Al h0_2016 rfl
theorem h0_2017 : xcd2 I 0 2017 = oIl 4 2019 := ch_44 (Nat.le_of_ble_eq_true rfl) rfl
theorem q0_2017 : zl I 0 2017 [v0, v1, v2, v3, .int x4, v5, v6] st u P = zl I 0 2019 [v0, v1, v2, v3, .int x4, v5, v6] (.int x4 :: st) u P := zl_Il h0_2017 rfl
theorem h0_2019 : xcd2 I 0 2019 = oI 2 2020 := ch_44 (Nat.le_of_ble_eq_true rfl) rfl
theorem q0_2019 : zl I 0 2019 [v0, v1, v2, v3, v4, v5, v6] st u P = zl I 0 2020 [v0, v1, v2, v3, v4, v5, v6] (.int 2 :: st) u P := zl_I h0_2019
theorem h0_2020 : xcd2 I 0 2020 = oB (fun x y => x + y) 2021 := ch_44 (Nat.le_of_ble_eq_true rfl) rfl
theorem q0_2020 : zl I 0 2020 [v0, v1, v2, v3, v4, v5, v6] (.int y1 :: .int y2 :: st) u P = zl I 0 2021 [v0, v1, v2, v3, v4, v5, v6] (.int (y2 + y1) :: st) u P := zl_B h0_2020
theorem h0_2021 : xcd2 I 0 2021 = oScr 2022 := ch_44 (Nat.le_of_ble_eq_true rfl) rfl
theorem q0_2021 : zl I 0 2021 [v0, v1, v2, v3, v4, v5, v6] (.int y1 :: .ref b1 :: st) u P = ((b1 = 2000000 ∧ xinb y1 (xN u 2000000)) ∧ zl I 0 2022 [v0, v1, v2, v3, v4, v5, v6] (.int (xI u 2000000 (xix y1)) :: st) u P) := zl_Scr h0_2021
theorem h0_2022 : xcd2 I 0 2022 = oAl 0 2023 := ch_44 (Nat.le_of_ble_eq_true rfl) rfl
theorem q0_2022 : zl I 0 2022 [.ref a0, v1, v2, v3, v4, v5, v6] st u P = zl I 0 2023 [.ref a0, v1, v2, v3, v4, v5, v6] (.ref a0 :: st) u P := zl_Al h0_2022 rfl
theorem h0_2023 : xcd2 I 0 2023 = oIl 4 2025 := ch_44 (Nat.le_of_ble_eq_true rfl) rfl
theorem q0_2023 : zl I 0 2023 [v0, v1, v2, v3, .int x4, v5, v6] st u P = zl I 0 2025 [v0, v1, v2, v3, .int x4, v5, v6] (.int x4 :: st) u P := zl_Il h0_2023 rfl
theorem h0_2025 : xcd2 I 0 2025 = oI 3 2026 := ch_44 (Nat.le_of_ble_eq_true rfl) rfl
theorem q0_2025 : zl I 0 2025 [v0, v1, v2, v3, v4, v5, v6] st u P = zl I 0 2026 [v0, v1, v2, v3, v4, v5, v6] (.int 3 :: st) u P := zl_I h0_2025
theorem h0_2026 : xcd2 I 0 2026 = oB (fun x y => x + y) 2027 := ch_44 (Nat.le_of_ble_eq_true rfl) rfl
theorem q0_2026 : zl I 0 2026 [v0, v1, v2, v3, v4, v5, v6] (.int y1 :: .int y2 :: st) u P = zl I 0 2027 [v0, v1, v2, v3, v4, v5, v6] (.int (y2 + y1) :: st) u P := zl_B h0_2026
theorem h0_2027 : xcd2 I 0 2027 = oScr 2028 := ch_44 (Nat.le_of_ble_eq_true rfl) rfl
theorem q0_2027 : zl I 0 2027 [v0, v1, v2, v3, v4, v5, v6] (.int y1 :: .ref b1 :: st) u P = ((b1 = 2000000 ∧ xinb y1 (xN u 2000000)) ∧ zl I 0 2028 [v0, v1, v2, v3, v4, v5, v6] (.int (xI u 2000000 (xix y1)) :: st) u P) := zl_Scr h0_2027
theorem h0_2028 : xcd2 I 0 2028 = oAl 0 2029 := ch_44 (Nat.le_of_ble_eq_true rfl) rfl
theorem q0_2028 : zl I 0 2028 [.ref a0, v1, v2, v3, v4, v5, v6] st u P = zl I 0 2029 [.ref a0, v1, v2, v3, v4, v5, v6] (.ref a0 :: st) u P := zl_Al h0_2028 rfl
theorem h0_2029 : xcd2 I 0 2029 = oIl 4 2031 := ch_44 (Nat.le_of_ble_eq_true rfl) rfl
theorem q0_2029 : zl I 0 2029 [v0, v1, v2, v3, .int x4, v5, v6] st u P = zl I 0 2031 [v0, v1, v2, v3, .int x4, v5, v6] (.int x4 :: st) u P := zl_Il h0_2029 rfl
theorem h0_2031 : xcd2 I 0 2031 = oI 4 2032 := ch_45 (Nat.le_of_ble_eq_true rfl) rfl
theorem q0_2031 : zl I 0 2031 [v0, v1, v2, v3, v4, v5, v6] st u P = zl I 0 2032 [v0, v1, v2, v3, v4, v5, v6] (.int 4 :: st) u P := zl_I h0_2031
theorem h0_2032 : xcd2 I 0 2032 = oB (fun x y => x + y) 2033 := ch_45 (Nat.le_of_ble_eq_true rfl) rfl
theorem q0_2032 : zl I 0 2032 [v0, v1, v2, v3, v4, v5, v6] (.int y1 :: .int y2 :: st) u P = zl I 0 2033 [v0, v1, v2, v3, v4, v5, v6] (.int (y2 + y1) :: st) u P := zl_B h0_2032
theorem h0_2033 : xcd2 I 0 2033 = oScr 2034 := ch_45 (Nat.le_of_ble_eq_true rfl) rfl
theorem q0_2033 : zl I 0 2033 [v0, v1, v2, v3, v4, v5, v6] (.int y1 :: .ref b1 :: st) u P = ((b1 = 2000000 ∧ xinb y1 (xN u 2000000)) ∧ zl I 0 2034 [v0, v1, v2, v3, v4, v5, v6] (.int (xI u 2000000 (xix y1)) :: st) u P) := zl_Scr h0_2033
theorem h0_2034 : xcd2 I 0 2034 = oCalV 10 148 4 2037 := ch_45 (Nat.le_of_ble_eq_true rfl) rfl
theorem q0_2034 : zl I 0 2034 [v0, v1, v2, v3, v4, v5, v6] (.int y4 :: .int y3 :: .int y2 :: .int y1 :: .ref b8 :: st) u P = ((xIs u b8 10 ∧ xcat st ≤ 8) ∧ zl I 148 0 [.ref b8, .int y1, .int y2, .int y3, .int y4, .null, .null] [] u (fun r u2 => zl I 0 2037 [v0, v1, v2, v3, v4, v5, v6] (r.toList ++ st) u2 P)) := zl_CV h0_2034 rfl rfl rfl ⟨Nat.le_of_ble_eq_true rfl, Nat.succ_ne_zero _, by decide⟩ rfl
theorem h0_2037 : xcd2 I 0 2037 = oAl 2 2038 := ch_45 (Nat.le_of_ble_eq_true rfl) rfl
theorem q0_2037 : zl I 0 2037 [v0, v1, .ref a2, v3, v4, v5, v6] st u P = zl I 0 2038 [v0, v1, .ref a2, v3, v4, v5, v6] (.ref a2 :: st) u P := zl_Al h0_2037 rfl
theorem h0_2038 : xcd2 I 0 2038 = oAl 0 2039 := ch_45 (Nat.le_of_ble_eq_true rfl) rfl
theorem q0_2038 : zl I 0 2038 [.ref a0, v1, v2, v3, v4, v5, v6] st u P = zl I 0 2039 [.ref a0, v1, v2, v3, v4, v5, v6] (.ref a0 :: st) u P := zl_Al h0_2038 rfl
theorem h0_2039 : xcd2 I 0 2039 = oIl 4 2041 := ch_45 (Nat.le_of_ble_eq_true rfl) rfl
theorem q0_2039 : zl I 0 2039 [v0, v1, v2, v3, .int x4, v5, v6] st u P = zl I 0 2041 [v0, v1, v2, v3, .int x4, v5, v6] (.int x4 :: st) u P := zl_Il h0_2039 rfl
theorem h0_2041 : xcd2 I 0 2041 = oI 1 2042 := ch_45 (Nat.le_of_ble_eq_true rfl) rfl
theorem q0_2041 : zl I 0 2041 [v0, v1, v2, v3, v4, v5, v6] st u P = zl I 0 2042 [v0, v1, v2, v3, v4, v5, v6] (.int 1 :: st) u P := zl_I h0_2041
theorem h0_2042 : xcd2 I 0 2042 = oB (fun x y => x + y) 2043 := ch_45 (Nat.le_of_ble_eq_true rfl) rfl
theorem q0_2042 : zl I 0 2042 [v0, v1, v2, v3, v4, v5, v6] (.int y1 :: .int y2 :: st) u P = zl I 0 2043 [v0, v1, v2, v3, v4, v5, v6] (.int (y2 + y1) :: st) u P := zl_B h0_2042
theorem h0_2043 : xcd2 I 0 2043 = oScr 2044 := ch_45 (Nat.le_of_ble_eq_true rfl) rfl
theorem q0_2043 : zl I 0 2043 [v0, v1, v2, v3, v4, v5, v6] (.int y1 :: .ref b1 :: st) u P = ((b1 = 2000000 ∧ xinb y1 (xN u 2000000)) ∧ zl I 0 2044 [v0, v1, v2, v3, v4, v5, v6] (.int (xI u 2000000 (xix y1)) :: st) u P) := zl_Scr h0_2043
theorem h0_2044 : xcd2 I 0 2044 = oAl 0 2045 := ch_45 (Nat.le_of_ble_eq_true rfl) rfl
theorem q0_2044 : zl I 0 2044 [.ref a0, v1, v2, v3, v4, v5, v6] st u P = zl I 0 2045 [.ref a0, v1, v2, v3, v4, v5, v6] (.ref a0 :: st) u P := zl_Al h0_2044 rfl
theorem h0_2045 : xcd2 I 0 2045 = oIl 4 2047 := ch_45 (Nat.le_of_ble_eq_true rfl) rfl
theorem q0_2045 : zl I 0 2045 [v0, v1, v2, v3, .int x4, v5, v6] st u P = zl I 0 2047 [v0, v1, v2, v3, .int x4, v5, v6] (.int x4 :: st) u P := zl_Il h0_2045 rfl
theorem h0_2047 : xcd2 I 0 2047 = oI 2 2048 := ch_45 (Nat.le_of_ble_eq_true rfl) rfl
theorem q0_2047 : zl I 0 2047 [v0, v1, v2, v3, v4, v5, v6] st u P = zl I 0 2048 [v0, v1, v2, v3, v4, v5, v6] (.int 2 :: st) u P := zl_I h0_2047
theorem h0_2048 : xcd2 I 0 2048 = oB (fun x y => x + y) 2049 := ch_45 (Nat.le_of_ble_eq_true rfl) rfl
theorem q0_2048 : zl I 0 2048 [v0, v1, v2, v3, v4, v5, v6] (.int y1 :: .int y2 :: st) u P = zl I 0 2049 [v0, v1, v2, v3, v4, v5, v6] (.int (y2 + y1) :: st) u P := zl_B h0_2048
theorem h0_2049 : xcd2 I 0 2049 = oScr 2050 := ch_45 (Nat.le_of_ble_eq_true rfl) rfl
theorem q0_2049 : zl I 0 2049 [v0, v1, v2, v3, v4, v5, v6] (.int y1 :: .ref b1 :: st) u P = ((b1 = 2000000 ∧ xinb y1 (xN u 2000000)) ∧ zl I 0 2050 [v0, v1, v2, v3, v4, v5, v6] (.int (xI u 2000000 (xix y1)) :: st) u P) := zl_Scr h0_2049
theorem h0_2050 : xcd2 I 0 2050 = oAl 0 2051 := ch_45 (Nat.le_of_ble_eq_true rfl) rfl
theorem q0_2050 : zl I 0 2050 [.ref a0, v1, v2, v3, v4, v5, v6] st u P = zl I 0 2051 [.ref a0, v1, v2, v3, v4, v5, v6] (.ref a0 :: st) u P := zl_Al h0_2050 rfl
theorem h0_2051 : xcd2 I 0 2051 = oIl 4 2053 := ch_45 (Nat.le_of_ble_eq_true rfl) rfl
theorem q0_2051 : zl I 0 2051 [v0, v1, v2, v3, .int x4, v5, v6] st u P = zl I 0 2053 [v0, v1, v2, v3, .int x4, v5, v6] (.int x4 :: st) u P := zl_Il h0_2051 rfl
theorem h0_2053 : xcd2 I 0 2053 = oI 3 2054 := ch_45 (Nat.le_of_ble_eq_true rfl) rfl
theorem q0_2053 : zl I 0 2053 [v0, v1, v2, v3, v4, v5, v6] st u P = zl I 0 2054 [v0, v1, v2, v3, v4, v5, v6] (.int 3 :: st) u P := zl_I h0_2053
theorem h0_2054 : xcd2 I 0 2054 = oB (fun x y => x + y) 2055 := ch_45 (Nat.le_of_ble_eq_true rfl) rfl
theorem q0_2054 : zl I 0 2054 [v0, v1, v2, v3, v4, v5, v6] (.int y1 :: .int y2 :: st) u P = zl I 0 2055 [v0, v1, v2, v3, v4, v5, v6] (.int (y2 + y1) :: st) u P := zl_B h0_2054
theorem h0_2055 : xcd2 I 0 2055 = oScr 2056 := ch_45 (Nat.le_of_ble_eq_true rfl) rfl
theorem q0_2055 : zl I 0 2055 [v0, v1, v2, v3, v4, v5, v6] (.int y1 :: .ref b1 :: st) u P = ((b1 = 2000000 ∧ xinb y1 (xN u 2000000)) ∧ zl I 0 2056 [v0, v1, v2, v3, v4, v5, v6] (.int (xI u 2000000 (xix y1)) :: st) u P) := zl_Scr h0_2055
theorem h0_2056 : xcd2 I 0 2056 = oAl 0 2057 := ch_45 (Nat.le_of_ble_eq_true rfl) rfl
theorem q0_2056 : zl I 0 2056 [.ref a0, v1, v2, v3, v4, v5, v6] st u P = zl I 0 2057 [.ref a0, v1, v2, v3, v4, v5, v6] (.ref a0 :: st) u P := zl_Al h0_2056 rfl
theorem h0_2057 : xcd2 I 0 2057 = oIl 4 2059 := ch_45 (Nat.le_of_ble_eq_true rfl) rfl
theorem q0_2057 : zl I 0 2057 [v0, v1, v2, v3, .int x4, v5, v6] st u P = zl I 0 2059 [v0, v1, v2, v3, .int x4, v5, v6] (.int x4 :: st) u P := zl_Il h0_2057 rfl
theorem h0_2059 : xcd2 I 0 2059 = oI 4 2060 := ch_45 (Nat.le_of_ble_eq_true rfl) rfl
theorem q0_2059 : zl I 0 2059 [v0, v1, v2, v3, v4, v5, v6] st u P = zl I 0 2060 [v0, v1, v2, v3, v4, v5, v6] (.int 4 :: st) u P := zl_I h0_2059
theorem h0_2060 : xcd2 I 0 2060 = oB (fun x y => x + y) 2061 := ch_45 (Nat.le_of_ble_eq_true rfl) rfl
theorem q0_2060 : zl I 0 2060 [v0, v1, v2, v3, v4, v5, v6] (.int y1 :: .int y2 :: st) u P = zl I 0 2061 [v0, v1, v2, v3, v4, v5, v6] (.int (y2 + y1) :: st) u P := zl_B h0_2060
theorem h0_2061 : xcd2 I 0 2061 = oScr 2062 := ch_45 (Nat.le_of_ble_eq_true rfl) rfl
theorem q0_2061 : zl I 0 2061 [v0, v1, v2, v3, v4, v5, v6] (.int y1 :: .ref b1 :: st) u P = ((b1 = 2000000 ∧ xinb y1 (xN u 2000000)) ∧ zl I 0 2062 [v0, v1, v2, v3, v4, v5, v6] (.int (xI u 2000000 (xix y1)) :: st) u P) := zl_Scr h0_2061
theorem h0_2062 : xcd2 I 0 2062 = oCalV 11 293 4 2065 := ch_45 (Nat.le_of_ble_eq_true rfl) rfl
theorem q0_2062 : zl I 0 2062 [v0, v1, v2, v3, v4, v5, v6] (.int y4 :: .int y3 :: .int y2 :: .int y1 :: .ref b8 :: st) u P = ((xIs u b8 11 ∧ xcat st ≤ 8) ∧ zl I 293 0 [.ref b8, .int y1, .int y2, .int y3, .int y4, .null, .null, .null, .null, .null] [] u (fun r u2 => zl I 0 2065 [v0, v1, v2, v3, v4, v5, v6] (r.toList ++ st) u2 P)) := zl_CV h0_2062 rfl rfl rfl ⟨Nat.le_of_ble_eq_true rfl, Nat.succ_ne_zero _, by decide⟩ rfl
theorem h0_2065 : xcd2 I 0 2065 = oCmp (fun x y => decide (x = y)) 2238 2068 := ch_45 (Nat.le_of_ble_eq_true rfl) rfl
theorem q0_2065 : zl I 0 2065 [v0, v1, v2, v3, v4, v5, v6] (.int y1 :: .int y2 :: st) u P = (if y2 = y1 then zl I 0 2238 [v0, v1, v2, v3, v4, v5, v6] st u P else zl I 0 2068 [v0, v1, v2, v3, v4, v5, v6] st u P) := zl_Cmp h0_2065
theorem h0_2068 : xcd2 I 0 2068 = oI 0 2069 := ch_45 (Nat.le_of_ble_eq_true rfl) rfl
theorem q0_2068 : zl I 0 2068 [v0, v1, v2, v3, v4, v5, v6] st u P = zl I 0 2069 [v0, v1, v2, v3, v4, v5, v6] (.int 0 :: st) u P := zl_I h0_2068
theorem h0_2069 : xcd2 I 0 2069 = oRz 0 := ch_45 (Nat.le_of_ble_eq_true rfl) rfl
theorem q0_2069 : zl I 0 2069 [v0, v1, v2, v3, v4, v5, v6] [.int y1] u P = ((y1 = 0 ∨ y1 = 1) ∧ P (some (.int y1)) u) := zl_Rz h0_2069
theorem h0_2070 : xcd2 I 0 2070 = oAl 1 2071 := ch_45 (Nat.le_of_ble_eq_true rfl) rfl
theorem q0_2070 : zl I 0 2070 [v0, .ref a1, v2, v3, v4, v5, v6] st u P = zl I 0 2071 [v0, .ref a1, v2, v3, v4, v5, v6] (.ref a1 :: st) u P := zl_Al h0_2070 rfl
theorem h0_2071 : xcd2 I 0 2071 = oAl 0 2072 := ch_46 (Nat.le_of_ble_eq_true rfl) rfl
theorem q0_2071 : zl I 0 2071 [.ref a0, v1, v2, v3, v4, v5, v6] st u P = zl I 0 2072 [.ref a0, v1, v2, v3, v4, v5, v6] (.ref a0 :: st) u P := zl_Al h0_2071 rfl
theorem h0_2072 : xcd2 I 0 2072 = oIl 4 2074 := ch_46 (Nat.le_of_ble_eq_true rfl) rfl
theorem q0_2072 : zl I 0 2072 [v0, v1, v2, v3, .int x4, v5, v6] st u P = zl I 0 2074 [v0, v1, v2, v3, .int x4, v5, v6] (.int x4 :: st) u P := zl_Il h0_2072 rfl
theorem h0_2074 : xcd2 I 0 2074 = oI 1 2075 := ch_46 (Nat.le_of_ble_eq_true rfl) rfl
theorem q0_2074 : zl I 0 2074 [v0, v1, v2, v3, v4, v5, v6] st u P = zl I 0 2075 [v0, v1, v2, v3, v4, v5, v6] (.int 1 :: st) u P := zl_I h0_2074
theorem h0_2075 : xcd2 I 0 2075 = oB (fun x y => x + y) 2076 := ch_46 (Nat.le_of_ble_eq_true rfl) rfl
theorem q0_2075 : zl I 0 2075 [v0, v1, v2, v3, v4, v5, v6] (.int y1 :: .int y2 :: st) u P = zl I 0 2076 [v0, v1, v2, v3, v4, v5, v6] (.int (y2 + y1) :: st) u P := zl_B h0_2075
theorem h0_2076 : xcd2 I 0 2076 = oScr 2077 := ch_46 (Nat.le_of_ble_eq_true rfl) rfl
theorem q0_2076 : zl I 0 2076 [v0, v1, v2, v3, v4, v5, v6] (.int y1 :: .ref b1 :: st) u P = ((b1 = 2000000 ∧ xinb y1 (xN u 2000000)) ∧ zl I 0 2077 [v0, v1, v2, v3, v4, v5, v6] (.int (xI u 2000000 (xix y1)) :: st) u P) := zl_Scr h0_2076
theorem h0_2077 : xcd2 I 0 2077 = oAl 0 2078 := ch_46 (Nat.le_of_ble_eq_true rfl) rfl
theorem q0_2077 : zl I 0 2077 [.ref a0, v1, v2, v3, v4, v5, v6] st u P = zl I 0 2078 [.ref a0, v1, v2, v3, v4, v5, v6] (.ref a0 :: st) u P := zl_Al h0_2077 rfl
theorem h0_2078 : xcd2 I 0 2078 = oIl 4 2080 := ch_46 (Nat.le_of_ble_eq_true rfl) rfl
theorem q0_2078 : zl I 0 2078 [v0, v1, v2, v3, .int x4, v5, v6] st u P = zl I 0 2080 [v0, v1, v2, v3, .int x4, v5, v6] (.int x4 :: st) u P := zl_Il h0_2078 rfl
theorem h0_2080 : xcd2 I 0 2080 = oI 2 2081 := ch_46 (Nat.le_of_ble_eq_true rfl) rfl
theorem q0_2080 : zl I 0 2080 [v0, v1, v2, v3, v4, v5, v6] st u P = zl I 0 2081 [v0, v1, v2, v3, v4, v5, v6] (.int 2 :: st) u P := zl_I h0_2080
theorem h0_2081 : xcd2 I 0 2081 = oB (fun x y => x + y) 2082 := ch_46 (Nat.le_of_ble_eq_true rfl) rfl
theorem q0_2081 : zl I 0 2081 [v0, v1, v2, v3, v4, v5, v6] (.int y1 :: .int y2 :: st) u P = zl I 0 2082 [v0, v1, v2, v3, v4, v5, v6] (.int (y2 + y1) :: st) u P := zl_B h0_2081
theorem h0_2082 : xcd2 I 0 2082 = oScr 2083 := ch_46 (Nat.le_of_ble_eq_true rfl) rfl
theorem q0_2082 : zl I 0 2082 [v0, v1, v2, v3, v4, v5, v6] (.int y1 :: .ref b1 :: st) u P = ((b1 = 2000000 ∧ xinb y1 (xN u 2000000)) ∧ zl I 0 2083 [v0, v1, v2, v3, v4, v5, v6] (.int (xI u 2000000 (xix y1)) :: st) u P) := zl_Scr h0_2082
theorem h0_2083 : xcd2 I 0 2083 = oAl 0 2084 := ch_46 (Nat.le_of_ble_eq_true rfl) rfl
theorem q0_2083 : zl I 0 2083 [.ref a0, v1, v2, v3, v4, v5, v6] st u P = zl I 0 2084 [.ref a0, v1, v2, v3, v4, v5, v6] (.ref a0 :: st) u P := zl_Al h0_2083 rfl
theorem h0_2084 : xcd2 I 0 2084 = oIl 4 2086 := ch_46 (Nat.le_of_ble_eq_true rfl) rfl
theorem q0_2084 : zl I 0 2084 [v0, v1, v2, v3, .int x4, v5, v6] st u P = zl I 0 2086 [v0, v1, v2, v3, .int x4, v5, v6] (.int x4 :: st) u P := zl_Il h0_2084 rfl
theorem h0_2086 : xcd2 I 0 2086 = oI 3 2087 := ch_46 (Nat.le_of_ble_eq_true rfl) rfl
theorem q0_2086 : zl I 0 2086 [v0, v1, v2, v3, v4, v5, v6] st u P = zl I 0 2087 [v0, v1, v2, v3, v4, v5, v6] (.int 3 :: st) u P := zl_I h0_2086
theorem h0_2087 : xcd2 I 0 2087 = oB (fun x y => x + y) 2088 := ch_46 (Nat.le_of_ble_eq_true rfl) rfl
theorem q0_2087 : zl I 0 2087 [v0, v1, v2, v3, v4, v5, v6] (.int y1 :: .int y2 :: st) u P = zl I 0 2088 [v0, v1, v2, v3, v4, v5, v6] (.int (y2 + y1) :: st) u P := zl_B h0_2087
theorem h0_2088 : xcd2 I 0 2088 = oScr 2089 := ch_46 (Nat.le_of_ble_eq_true rfl) rfl
theorem q0_2088 : zl I 0 2088 [v0, v1, v2, v3, v4, v5, v6] (.int y1 :: .ref b1 :: st) u P = ((b1 = 2000000 ∧ xinb y1 (xN u 2000000)) ∧ zl I 0 2089 [v0, v1, v2, v3, v4, v5, v6] (.int (xI u 2000000 (xix y1)) :: st) u P) := zl_Scr h0_2088
theorem h0_2089 : xcd2 I 0 2089 = oAl 0 2090 := ch_46 (Nat.le_of_ble_eq_true rfl) rfl
theorem q0_2089 : zl I 0 2089 [.ref a0, v1, v2, v3, v4, v5, v6] st u P = zl I 0 2090 [.ref a0, v1, v2, v3, v4, v5, v6] (.ref a0 :: st) u P := zl_Al h0_2089 rfl
theorem h0_2090 : xcd2 I 0 2090 = oIl 4 2092 := ch_46 (Nat.le_of_ble_eq_true rfl) rfl
theorem q0_2090 : zl I 0 2090 [v0, v1, v2, v3, .int x4, v5, v6] st u P = zl I 0 2092 [v0, v1, v2, v3, .int x4, v5, v6] (.int x4 :: st) u P := zl_Il h0_2090 rfl
theorem h0_2092 : xcd2 I 0 2092 = oI 4 2093 := ch_46 (Nat.le_of_ble_eq_true rfl) rfl
theorem q0_2092 : zl I 0 2092 [v0, v1, v2, v3, v4, v5, v6] st u P = zl I 0 2093 [v0, v1, v2, v3, v4, v5, v6] (.int 4 :: st) u P := zl_I h0_2092
theorem h0_2093 : xcd2 I 0 2093 = oB (fun x y => x + y) 2094 := ch_46 (Nat.le_of_ble_eq_true rfl) rfl
theorem q0_2093 : zl I 0 2093 [v0, v1, v2, v3, v4, v5, v6] (.int y1 :: .int y2 :: st) u P = zl I 0 2094 [v0, v1, v2, v3, v4, v5, v6] (.int (y2 + y1) :: st) u P := zl_B h0_2093
theorem h0_2094 : xcd2 I 0 2094 = oScr 2095 := ch_46 (Nat.le_of_ble_eq_true rfl) rfl
theorem q0_2094 : zl I 0 2094 [v0, v1, v2, v3, v4, v5, v6] (.int y1 :: .ref b1 :: st) u P = ((b1 = 2000000 ∧ xinb y1 (xN u 2000000)) ∧ zl I 0 2095 [v0, v1, v2, v3, v4, v5, v6] (.int (xI u 2000000 (xix y1)) :: st) u P) := zl_Scr h0_2094
theorem h0_2095 : xcd2 I 0 2095 = oCalV 10 149 4 2098 := ch_46 (Nat.le_of_ble_eq_true rfl) rfl
theorem q0_2095 : zl I 0 2095 [v0, v1, v2, v3, v4, v5, v6] (.int y4 :: .int y3 :: .int y2 :: .int y1 :: .ref b8 :: st) u P = ((xIs u b8 10 ∧ xcat st ≤ 8) ∧ zl I 149 0 [.ref b8, .int y1, .int y2, .int y3, .int y4, .null] [] u (fun r u2 => zl I 0 2098 [v0, v1, v2, v3, v4, v5, v6] (r.toList ++ st) u2 P)) := zl_CV h0_2095 rfl rfl rfl ⟨Nat.le_of_ble_eq_true rfl, Nat.succ_ne_zero _, by decide⟩ rfl
theorem h0_2098 : xcd2 I 0 2098 = oAl 2 2099 := ch_46 (Nat.le_of_ble_eq_true rfl) rfl
theorem q0_2098 : zl I 0 2098 [v0, v1, .ref a2, v3, v4, v5, v6] st u P = zl I 0 2099 [v0, v1, .ref a2, v3, v4, v5, v6] (.ref a2 :: st) u P := zl_Al h0_2098 rfl
theorem h0_2099 : xcd2 I 0 2099 = oAl 0 2100 := ch_46 (Nat.le_of_ble_eq_true rfl) rfl
theorem q0_2099 : zl I 0 2099 [.ref a0, v1, v2, v3, v4, v5, v6] st u P = zl I 0 2100 [.ref a0, v1, v2, v3, v4, v5, v6] (.ref a0 :: st) u P := zl_Al h0_2099 rfl
theorem h0_2100 : xcd2 I 0 2100 = oIl 4 2102 := ch_46 (Nat.le_of_ble_eq_true rfl) rfl
theorem q0_2100 : zl I 0 2100 [v0, v1, v2, v3, .int x4, v5, v6] st u P = zl I 0 2102 [v0, v1, v2, v3, .int x4, v5, v6] (.int x4 :: st) u P := zl_Il h0_2100 rfl
theorem h0_2102 : xcd2 I 0 2102 = oI 1 2103 := ch_46 (Nat.le_of_ble_eq_true rfl) rfl
theorem q0_2102 : zl I 0 2102 [v0, v1, v2, v3, v4, v5, v6] st u P = zl I 0 2103 [v0, v1, v2, v3, v4, v5, v6] (.int 1 :: st) u P := zl_I h0_2102
theorem h0_2103 : xcd2 I 0 2103 = oB (fun x y => x + y) 2104 := ch_46 (Nat.le_of_ble_eq_true rfl) rfl
theorem q0_2103 : zl I 0 2103 [v0, v1, v2, v3, v4, v5, v6] (.int y1 :: .int y2 :: st) u P = zl I 0 2104 [v0, v1, v2, v3, v4, v5, v6] (.int (y2 + y1) :: st) u P := zl_B h0_2103
theorem h0_2104 : xcd2 I 0 2104 = oScr 2105 := ch_46 (Nat.le_of_ble_eq_true rfl) rfl
theorem q0_2104 : zl I 0 2104 [v0, v1, v2, v3, v4, v5, v6] (.int y1 :: .ref b1 :: st) u P = ((b1 = 2000000 ∧ xinb y1 (xN u 2000000)) ∧ zl I 0 2105 [v0, v1, v2, v3, v4, v5, v6] (.int (xI u 2000000 (xix y1)) :: st) u P) := zl_Scr h0_2104
theorem h0_2105 : xcd2 I 0 2105 = oAl 0 2106 := ch_46 (Nat.le_of_ble_eq_true rfl) rfl
theorem q0_2105 : zl I 0 2105 [.ref a0, v1, v2, v3, v4, v5, v6] st u P = zl I 0 2106 [.ref a0, v1, v2, v3, v4, v5, v6] (.ref a0 :: st) u P := zl_Al h0_2105 rfl
theorem h0_2106 : xcd2 I 0 2106 = oIl 4 2108 := ch_46 (Nat.le_of_ble_eq_true rfl) rfl
theorem q0_2106 : zl I 0 2106 [v0, v1, v2, v3, .int x4, v5, v6] st u P = zl I 0 2108 [v0, v1, v2, v3, .int x4, v5, v6] (.int x4 :: st) u P := zl_Il h0_2106 rfl
theorem h0_2108 : xcd2 I 0 2108 = oI 2 2109 := ch_46 (Nat.le_of_ble_eq_true rfl) rfl
theorem q0_2108 : zl I 0 2108 [v0, v1, v2, v3, v4, v5, v6] st u P = zl I 0 2109 [v0, v1, v2, v3, v4, v5, v6] (.int 2 :: st) u P := zl_I h0_2108
theorem h0_2109 : xcd2 I 0 2109 = oB (fun x y => x + y) 2110 := ch_47 (Nat.le_of_ble_eq_true rfl) rfl
theorem q0_2109 : zl I 0 2109 [v0, v1, v2, v3, v4, v5, v6] (.int y1 :: .int y2 :: st) u P = zl I 0 2110 [v0, v1, v2, v3, v4, v5, v6] (.int (y2 + y1) :: st) u P := zl_B h0_2109
theorem h0_2110 : xcd2 I 0 2110 = oScr 2111 := ch_47 (Nat.le_of_ble_eq_true rfl) rfl
theorem q0_2110 : zl I 0 2110 [v0, v1, v2, v3, v4, v5, v6] (.int y1 :: .ref b1 :: st) u P = ((b1 = 2000000 ∧ xinb y1 (xN u 2000000)) ∧ zl I 0 2111 [v0, v1, v2, v3, v4, v5, v6] (.int (xI u 2000000 (xix y1)) :: st) u P) := zl_Scr h0_2110
theorem h0_2111 : xcd2 I 0 2111 = oAl 0 2112 := ch_47 (Nat.le_of_ble_eq_true rfl) rfl
theorem q0_2111 : zl I 0 2111 [.ref a0, v1, v2, v3, v4, v5, v6] st u P = zl I 0 2112 [.ref a0, v1, v2, v3, v4, v5, v6] (.ref a0 :: st) u P := zl_Al h0_2111 rfl
theorem h0_2112 : xcd2 I 0 2112 = oIl 4 2114 := ch_47 (Nat.le_of_ble_eq_true rfl) rfl
theorem q0_2112 : zl I 0 2112 [v0, v1, v2, v3, .int x4, v5, v6] st u P = zl I 0 2114 [v0, v1, v2, v3, .int x4, v5, v6] (.int x4 :: st) u P := zl_Il h0_2112 rfl
theorem h0_2114 : xcd2 I 0 2114 = oI 3 2115 := ch_47 (Nat.le_of_ble_eq_true rfl) rfl
theorem q0_2114 : zl I 0 2114 [v0, v1, v2, v3, v4, v5, v6] st u P = zl I 0 2115 [v0, v1, v2, v3, v4, v5, v6] (.int 3 :: st) u P := zl_I h0_2114
theorem h0_2115 : xcd2 I 0 2115 = oB (fun x y => x + y) 2116 := ch_47 (Nat.le_of_ble_eq_true rfl) rfl
theorem q0_2115 : zl I 0 2115 [v0, v1, v2, v3, v4, v5, v6] (.int y1 :: .int y2 :: st) u P = zl I 0 2116 [v0, v1, v2, v3, v4, v5, v6] (.int (y2 + y1) :: st) u P := zl_B h0_2115
theorem h0_2116 : xcd2 I 0 2116 = oScr 2117 := ch_47 (Nat.le_of_ble_eq_true rfl) rfl
theorem q0_2116 : zl I 0 2116 [v0, v1, v2, v3, v4, v5, v6] (.int y1 :: .ref b1 :: st) u P = ((b1 = 2000000 ∧ xinb y1 (xN u 2000000)) ∧ zl I 0 2117 [v0, v1, v2, v3, v4, v5, v6] (.int (xI u 2000000 (xix y1)) :: st) u P) := zl_Scr h0_2116
theorem h0_2117 : xcd2 I 0 2117 = oAl 0 2118 := ch_47 (Nat.le_of_ble_eq_true rfl) rfl
theorem q0_2117 : zl I 0 2117 [.ref a0, v1, v2, v3, v4, v5, v6] st u P = zl I 0 2118 [.ref a0, v1, v2, v3, v4, v5, v6] (.ref a0 :: st) u P := zl_Al h0_2117 rfl
theorem h0_2118 : xcd2 I 0 2118 = oIl 4 2120 := ch_47 (Nat.le_of_ble_eq_true rfl) rfl
theorem q0_2118 : zl I 0 2118 [v0, v1, v2, v3, .int x4, v5, v6] st u P = zl I 0 2120 [v0, v1, v2, v3, .int x4, v5, v6] (.int x4 :: st) u P := zl_Il h0_2118 rfl
theorem h0_2120 : xcd2 I 0 2120 = oI 4 2121 := ch_47 (Nat.le_of_ble_eq_true rfl) rfl
theorem q0_2120 : zl I 0 2120 [v0, v1, v2, v3, v4, v5, v6] st u P = zl I 0 2121 [v0, v1, v2, v3, v4, v5, v6] (.int 4 :: st) u P := zl_I h0_2120
theorem h0_2121 : xcd2 I 0 2121 = oB (fun x y => x + y) 2122 := ch_47 (Nat.le_of_ble_eq_true rfl) rfl
theorem q0_2121 : zl I 0 2121 [v0, v1, v2, v3, v4, v5, v6] (.int y1 :: .int y2 :: st) u P = zl I 0 2122 [v0, v1, v2, v3, v4, v5, v6] (.int (y2 + y1) :: st) u P := zl_B h0_2121
theorem h0_2122 : xcd2 I 0 2122 = oScr 2123 := ch_47 (Nat.le_of_ble_eq_true rfl) rfl
theorem q0_2122 : zl I 0 2122 [v0, v1, v2, v3, v4, v5, v6] (.int y1 :: .ref b1 :: st) u P = ((b1 = 2000000 ∧ xinb y1 (xN u 2000000)) ∧ zl I 0 2123 [v0, v1, v2, v3, v4, v5, v6] (.int (xI u 2000000 (xix y1)) :: st) u P) := zl_Scr h0_2122
theorem h0_2123 : xcd2 I 0 2123 = oCalV 11 294 4 2126 := ch_47 (Nat.le_of_ble_eq_true rfl) rfl
theorem q0_2123 : zl I 0 2123 [v0, v1, v2, v3, v4, v5, v6] (.int y4 :: .int y3 :: .int y2 :: .int y1 :: .ref b8 :: st) u P = ((xIs u b8 11 ∧ xcat st ≤ 8) ∧ zl I 294 0 [.ref b8, .int y1, .int y2, .int y3, .int y4, .null, .null] [] u (fun r u2 => zl I 0 2126 [v0, v1, v2, v3, v4, v5, v6] (r.toList ++ st) u2 P)) := zl_CV h0_2123 rfl rfl rfl ⟨Nat.le_of_ble_eq_true rfl, Nat.succ_ne_zero _, by decide⟩ rfl
theorem h0_2126 : xcd2 I 0 2126 = oCmp (fun x y => decide (x = y)) 2238 2129 := ch_47 (Nat.le_of_ble_eq_true rfl) rfl
theorem q0_2126 : zl I 0 2126 [v0, v1, v2, v3, v4, v5, v6] (.int y1 :: .int y2 :: st) u P = (if y2 = y1 then zl I 0 2238 [v0, v1, v2, v3, v4, v5, v6] st u P else zl I 0 2129 [v0, v1, v2, v3, v4, v5, v6] st u P) := zl_Cmp h0_2126
theorem h0_2129 : xcd2 I 0 2129 = oI 0 2130 := ch_47 (Nat.le_of_ble_eq_true rfl) rfl
theorem q0_2129 : zl I 0 2129 [v0, v1, v2, v3, v4, v5, v6] st u P = zl I 0 2130 [v0, v1, v2, v3, v4, v5, v6] (.int 0 :: st) u P := zl_I h0_2129
theorem h0_2130 : xcd2 I 0 2130 = oRz 0 := ch_47 (Nat.le_of_ble_eq_true rfl) rfl
theorem q0_2130 : zl I 0 2130 [v0, v1, v2, v3, v4, v5, v6] [.int y1] u P = ((y1 = 0 ∨ y1 = 1) ∧ P (some (.int y1)) u) := zl_Rz h0_2130
theorem h0_2131 : xcd2 I 0 2131 = oAl 1 2132 := ch_47 (Nat.le_of_ble_eq_true rfl) rfl
theorem q0_2131 : zl I 0 2131 [v0, .ref a1, v2, v3, v4, v5, v6] st u P = zl I 0 2132 [v0, .ref a1, v2, v3, v4, v5, v6] (.ref a1 :: st) u P := zl_Al h0_2131 rfl
theorem h0_2132 : xcd2 I 0 2132 = oCalV 10 150 0 2135 := ch_47 (Nat.le_of_ble_eq_true rfl) rfl
theorem q0_2132 : zl I 0 2132 [v0, v1, v2, v3, v4, v5, v6] (.ref b8 :: st) u P = ((xIs u b8 10 ∧ xcat st ≤ 8) ∧ zl I 150 0 [.ref b8] [] u (fun r u2 => zl I 0 2135 [v0, v1, v2, v3, v4, v5, v6] (r.toList ++ st) u2 P)) := zl_CV h0_2132 rfl rfl rfl ⟨Nat.le_of_ble_eq_true rfl, Nat.succ_ne_zero _, by decide⟩ rfl
theorem h0_2135 : xcd2 I 0 2135 = oAl 2 2136 := ch_47 (Nat.le_of_ble_eq_true rfl) rfl
theorem q0_2135 : zl I 0 2135 [v0, v1, .ref a2, v3, v4, v5, v6] st u P = zl I 0 2136 [v0, v1, .ref a2, v3, v4, v5, v6] (.ref a2 :: st) u P := zl_Al h0_2135 rfl
theorem h0_2136 : xcd2 I 0 2136 = oCalV 11 295 0 2139 := ch_47 (Nat.le_of_ble_eq_true rfl) rfl
theorem q0_2136 : zl I 0 2136 [v0, v1, v2, v3, v4, v5, v6] (.ref b8 :: st) u P = ((xIs u b8 11 ∧ xcat st ≤ 8) ∧ zl I 295 0 [.ref b8] [] u (fun r u2 => zl I 0 2139 [v0, v1, v2, v3, v4, v5, v6] (r.toList ++ st) u2 P)) := zl_CV h0_2136 rfl rfl rfl ⟨Nat.le_of_ble_eq_true rfl, Nat.succ_ne_zero _, by decide⟩ rfl
theorem h0_2139 : xcd2 I 0 2139 = oCmp (fun x y => decide (x = y)) 2238 2142 := ch_47 (Nat.le_of_ble_eq_true rfl) rfl
theorem q0_2139 : zl I 0 2139 [v0, v1, v2, v3, v4, v5, v6] (.int y1 :: .int y2 :: st) u P = (if y2 = y1 then zl I 0 2238 [v0, v1, v2, v3, v4, v5, v6] st u P else zl I 0 2142 [v0, v1, v2, v3, v4, v5, v6] st u P) := zl_Cmp h0_2139
theorem h0_2142 : xcd2 I 0 2142 = oI 0 2143 := ch_47 (Nat.le_of_ble_eq_true rfl) rfl
theorem q0_2142 : zl I 0 2142 [v0, v1, v2, v3, v4, v5, v6] st u P = zl I 0 2143 [v0, v1, v2, v3, v4, v5, v6] (.int 0 :: st) u P := zl_I h0_2142
theorem h0_2143 : xcd2 I 0 2143 = oRz 0 := ch_47 (Nat.le_of_ble_eq_true rfl) rfl
theorem q0_2143 : zl I 0 2143 [v0, v1, v2, v3, v4, v5, v6] [.int y1] u P = ((y1 = 0 ∨ y1 = 1) ∧ P (some (.int y1)) u) := zl_Rz h0_2143
theorem h0_2144 : xcd2 I 0 2144 = oAl 1 2145 := ch_47 (Nat.le_of_ble_eq_true rfl) rfl
theorem q0_2144 : zl I 0 2144 [v0, .ref a1, v2, v3, v4, v5, v6] st u P = zl I 0 2145 [v0, .ref a1, v2, v3, v4, v5, v6] (.ref a1 :: st) u P := zl_Al h0_2144 rfl
theorem h0_2145 : xcd2 I 0 2145 = oAl 0 2146 := ch_47 (Nat.le_of_ble_eq_true rfl) rfl
theorem q0_2145 : zl I 0 2145 [.ref a0, v1, v2, v3, v4, v5, v6] st u P = zl I 0 2146 [.ref a0, v1, v2, v3, v4, v5, v6] (.ref a0 :: st) u P := zl_Al h0_2145 rfl
theorem h0_2146 : xcd2 I 0 2146 = oIl 4 2148 := ch_47 (Nat.le_of_ble_eq_true rfl) rfl
theorem q0_2146 : zl I 0 2146 [v0, v1, v2, v3, .int x4, v5, v6] st u P = zl I 0 2148 [v0, v1, v2, v3, .int x4, v5, v6] (.int x4 :: st) u P := zl_Il h0_2146 rfl
theorem h0_2148 : xcd2 I 0 2148 = oI 1 2149 := ch_47 (Nat.le_of_ble_eq_true rfl) rfl
theorem q0_2148 : zl I 0 2148 [v0, v1, v2, v3, v4, v5, v6] st u P = zl I 0 2149 [v0, v1, v2, v3, v4, v5, v6] (.int 1 :: st) u P := zl_I h0_2148
theorem h0_2149 : xcd2 I 0 2149 = oB (fun x y => x + y) 2150 := ch_47 (Nat.le_of_ble_eq_true rfl) rfl
theorem q0_2149 : zl I 0 2149 [v0, v1, v2, v3, v4, v5, v6] (.int y1 :: .int y2 :: st) u P = zl I 0 2150 [v0, v1, v2, v3, v4, v5, v6] (.int (y2 + y1) :: st) u P := zl_B h0_2149
theorem h0_2150 : xcd2 I 0 2150 = oScr 2151 := ch_47 (Nat.le_of_ble_eq_true rfl) rfl
theorem q0_2150 : zl I 0 2150 [v0, v1, v2, v3, v4, v5, v6] (.int y1 :: .ref b1 :: st) u P = ((b1 = 2000000 ∧ xinb y1 (xN u 2000000)) ∧ zl I 0 2151 [v0, v1, v2, v3, v4, v5, v6] (.int (xI u 2000000 (xix y1)) :: st) u P) := zl_Scr h0_2150
theorem h0_2151 : xcd2 I 0 2151 = oAl 3 2152 := ch_47 (Nat.le_of_ble_eq_true rfl) rfl
theorem q0_2151 : zl I 0 2151 [v0, v1, v2, .ref a3, v4, v5, v6] st u P = zl I 0 2152 [v0, v1, v2, .ref a3, v4, v5, v6] (.ref a3 :: st) u P := zl_Al h0_2151 rfl
theorem h0_2152 : xcd2 I 0 2152 = oCal 1 3 2155 := ch_48 (Nat.le_of_ble_eq_true rfl) rfl
theorem q0_2152 : zl I 0 2152 [v0, v1, v2, v3, v4, v5, v6] (.ref b3 :: .int y2 :: .ref b1 :: st) u P = (xcat st ≤ 8 ∧ zl I 1 0 [.ref b1, .int y2, .ref b3, .null, .null, .null] [] u (fun r u2 => zl I 0 2155 [v0, v1, v2, v3, v4, v5, v6] (r.toList ++ st) u2 P)) := zl_CS h0_2152 (Nat.le_add_left _ _) rfl rfl ⟨Nat.le_of_ble_eq_true rfl, Nat.succ_ne_zero _, by decide⟩ rfl
theorem h0_2155 : xcd2 I 0 2155 = oIs 5 2157 := ch_48 (Nat.le_of_ble_eq_true rfl) rfl
theorem q0_2155 : zl I 0 2155 [v0, v1, v2, v3, .int x4, v5, v6] (.int y1 :: st) u P = zl I 0 2157 [v0, v1, v2, v3, .int x4, .int y1, v6] st u P := zl_Is h0_2155 ⟨Nat.le_of_ble_eq_true rfl, rfl⟩
theorem h0_2157 : xcd2 I 0 2157 = oAl 2 2158 := ch_48 (Nat.le_of_ble_eq_true rfl) rfl
theorem q0_2157 : zl I 0 2157 [v0, v1, .ref a2, v3, v4, v5, v6] st u P = zl I 0 2158 [v0, v1, .ref a2, v3, v4, v5, v6] (.ref a2 :: st) u P := zl_Al h0_2157 rfl
theorem h0_2158 : xcd2 I 0 2158 = oAl 0 2159 := ch_48 (Nat.le_of_ble_eq_true rfl) rfl
theorem q0_2158 : zl I 0 2158 [.ref a0, v1, v2, v3, v4, v5, v6] st u P = zl I 0 2159 [.ref a0, v1, v2, v3, v4, v5, v6] (.ref a0 :: st) u P := zl_Al h0_2158 rfl
theorem h0_2159 : xcd2 I 0 2159 = oIl 4 2161 := ch_48 (Nat.le_of_ble_eq_true rfl) rfl
theorem q0_2159 : zl I 0 2159 [v0, v1, v2, v3, .int x4, v5, v6] st u P = zl I 0 2161 [v0, v1, v2, v3, .int x4, v5, v6] (.int x4 :: st) u P := zl_Il h0_2159 rfl
theorem h0_2161 : xcd2 I 0 2161 = oI 1 2162 := ch_48 (Nat.le_of_ble_eq_true rfl) rfl
theorem q0_2161 : zl I 0 2161 [v0, v1, v2, v3, v4, v5, v6] st u P = zl I 0 2162 [v0, v1, v2, v3, v4, v5, v6] (.int 1 :: st) u P := zl_I h0_2161
theorem h0_2162 : xcd2 I 0 2162 = oB (fun x y => x + y) 2163 := ch_48 (Nat.le_of_ble_eq_true rfl) rfl
theorem q0_2162 : zl I 0 2162 [v0, v1, v2, v3, v4, v5, v6] (.int y1 :: .int y2 :: st) u P = zl I 0 2163 [v0, v1, v2, v3, v4, v5, v6] (.int (y2 + y1) :: st) u P := zl_B h0_2162
theorem h0_2163 : xcd2 I 0 2163 = oScr 2164 := ch_48 (Nat.le_of_ble_eq_true rfl) rfl
theorem q0_2163 : zl I 0 2163 [v0, v1, v2, v3, v4, v5, v6] (.int y1 :: .ref b1 :: st) u P = ((b1 = 2000000 ∧ xinb y1 (xN u 2000000)) ∧ zl I 0 2164 [v0, v1, v2, v3, v4, v5, v6] (.int (xI u 2000000 (xix y1)) :: st) u P) := zl_Scr h0_2163
theorem h0_2164 : xcd2 I 0 2164 = oCalV 11 297 1 2167 := ch_48 (Nat.le_of_ble_eq_true rfl) rfl
theorem q0_2164 : zl I 0 2164 [v0, v1, v2, v3, v4, v5, v6] (.int y1 :: .ref b8 :: st) u P = ((xIs u b8 11 ∧ xcat st ≤ 8) ∧ zl I 297 0 [.ref b8, .int y1, .null, .null] [] u (fun r u2 => zl I 0 2167 [v0, v1, v2, v3, v4, v5, v6] (r.toList ++ st) u2 P)) := zl_CV h0_2164 rfl rfl rfl ⟨Nat.le_of_ble_eq_true rfl, Nat.succ_ne_zero _, by decide⟩ rfl
theorem h0_2167 : xcd2 I 0 2167 = oIs 6 2169 := ch_48 (Nat.le_of_ble_eq_true rfl) rfl
theorem q0_2167 : zl I 0 2167 [v0, v1, v2, v3, v4, .int x5, v6] (.int y1 :: st) u P = zl I 0 2169 [v0, v1, v2, v3, v4, .int x5, .int y1] st u P := zl_Is h0_2167 ⟨Nat.le_of_ble_eq_true rfl, rfl⟩
theorem h0_2169 : xcd2 I 0 2169 = oAl 2 2170 := ch_48 (Nat.le_of_ble_eq_true rfl) rfl
theorem q0_2169 : zl I 0 2169 [v0, v1, .ref a2, v3, v4, v5, v6] st u P = zl I 0 2170 [v0, v1, .ref a2, v3, v4, v5, v6] (.ref a2 :: st) u P := zl_Al h0_2169 rfl
theorem h0_2170 : xcd2 I 0 2170 = oCalV 11 171 0 2173 := ch_48 (Nat.le_of_ble_eq_true rfl) rfl
theorem q0_2170 : zl I 0 2170 [v0, v1, v2, v3, v4, v5, v6] (.ref b8 :: st) u P = ((xIs u b8 11 ∧ xcat st ≤ 8) ∧ zl I 171 0 [.ref b8] [] u (fun r u2 => zl I 0 2173 [v0, v1, v2, v3, v4, v5, v6] (r.toList ++ st) u2 P)) := zl_CV h0_2170 rfl rfl rfl ⟨Nat.le_of_ble_eq_true rfl, Nat.succ_ne_zero _, by decide⟩ rfl
theorem h0_2173 : xcd2 I 0 2173 = oIl 5 2175 := ch_48 (Nat.le_of_ble_eq_true rfl) rfl
theorem q0_2173 : zl I 0 2173 [v0, v1, v2, v3, v4, .int x5, v6] st u P = zl I 0 2175 [v0, v1, v2, v3, v4, .int x5, v6] (.int x5 :: st) u P := zl_Il h0_2173 rfl
theorem h0_2175 : xcd2 I 0 2175 = oCmp (fun x y => decide (x = y)) 2180 2178 := ch_48 (Nat.le_of_ble_eq_true rfl) rfl
theorem q0_2175 : zl I 0 2175 [v0, v1, v2, v3, v4, v5, v6] (.int y1 :: .int y2 :: st) u P = (if y2 = y1 then zl I 0 2180 [v0, v1, v2, v3, v4, v5, v6] st u P else zl I 0 2178 [v0, v1, v2, v3, v4, v5, v6] st u P) := zl_Cmp h0_2175
theorem h0_2178 : xcd2 I 0 2178 = oI 0 2179 := ch_48 (Nat.le_of_ble_eq_true rfl) rfl
theorem q0_2178 : zl I 0 2178 [v0, v1, v2, v3, v4, v5, v6] st u P = zl I 0 2179 [v0, v1, v2, v3, v4, v5, v6] (.int 0 :: st) u P := zl_I h0_2178
theorem h0_2179 : xcd2 I 0 2179 = oRz 0 := ch_48 (Nat.le_of_ble_eq_true rfl) rfl
theorem q0_2179 : zl I 0 2179 [v0, v1, v2, v3, v4, v5, v6] [.int y1] u P = ((y1 = 0 ∨ y1 = 1) ∧ P (some (.int y1)) u) := zl_Rz h0_2179
theorem h0_2180 : xcd2 I 0 2180 = oIl 5 2182 := ch_48 (Nat.le_of_ble_eq_true rfl) rfl
theorem q0_2180 : zl I 0 2180 [v0, v1, v2, v3, v4, .int x5, v6] st u P = zl I 0 2182 [v0, v1, v2, v3, v4, .int x5, v6] (.int x5 :: st) u P := zl_Il h0_2180 rfl
theorem h0_2182 : xcd2 I 0 2182 = oIf (fun x => decide (¬ x = 0)) 2197 2185 := ch_48 (Nat.le_of_ble_eq_true rfl) rfl
theorem q0_2182 : zl I 0 2182 [v0, v1, v2, v3, v4, v5, v6] (.int y1 :: st) u P = (if ¬ y1 = 0 then zl I 0 2197 [v0, v1, v2, v3, v4, v5, v6] st u P else zl I 0 2185 [v0, v1, v2, v3, v4, v5, v6] st u P) := zl_If h0_2182
theorem h0_2185 : xcd2 I 0 2185 = oAl 3 2186 := ch_48 (Nat.le_of_ble_eq_true rfl) rfl
theorem q0_2185 : zl I 0 2185 [v0, v1, v2, .ref a3, v4, v5, v6] st u P = zl I 0 2186 [v0, v1, v2, .ref a3, v4, v5, v6] (.ref a3 :: st) u P := zl_Al h0_2185 rfl
theorem h0_2186 : xcd2 I 0 2186 = oI 0 2187 := ch_48 (Nat.le_of_ble_eq_true rfl) rfl
theorem q0_2186 : zl I 0 2186 [v0, v1, v2, v3, v4, v5, v6] st u P = zl I 0 2187 [v0, v1, v2, v3, v4, v5, v6] (.int 0 :: st) u P := zl_I h0_2186
theorem h0_2187 : xcd2 I 0 2187 = oLdJ 2188 := ch_48 (Nat.le_of_ble_eq_true rfl) rfl
theorem q0_2187 : zl I 0 2187 [v0, v1, v2, v3, v4, v5, v6] (.int y1 :: .ref b1 :: st) u P = ((xIs u b1 14 ∧ xinb y1 (xN u b1)) ∧ zl I 0 2188 [v0, v1, v2, v3, v4, v5, v6] (.long (xJ u b1 (xix y1)) :: st) u P) := zl_LdJ h0_2187
theorem h0_2188 : xcd2 I 0 2188 = oIl 6 2190 := ch_48 (Nat.le_of_ble_eq_true rfl) rfl
theorem q0_2188 : zl I 0 2188 [v0, v1, v2, v3, v4, v5, .int x6] st u P = zl I 0 2190 [v0, v1, v2, v3, v4, v5, .int x6] (.int x6 :: st) u P := zl_Il h0_2188 rfl
theorem h0_2190 : xcd2 I 0 2190 = oI2l 2191 := ch_48 (Nat.le_of_ble_eq_true rfl) rfl
theorem q0_2190 : zl I 0 2190 [v0, v1, v2, v3, v4, v5, v6] (.int y1 :: st) u P = zl I 0 2191 [v0, v1, v2, v3, v4, v5, v6] (.long y1.toInt64 :: st) u P := zl_I2l h0_2190
theorem h0_2191 : xcd2 I 0 2191 = oLcmp 2192 := ch_48 (Nat.le_of_ble_eq_true rfl) rfl
theorem q0_2191 : zl I 0 2191 [v0, v1, v2, v3, v4, v5, v6] (.long w1 :: .long w2 :: st) u P = zl I 0 2192 [v0, v1, v2, v3, v4, v5, v6] (.int (lg_cmp w2 w1) :: st) u P := zl_Lcmp h0_2191
theorem h0_2192 : xcd2 I 0 2192 = oIf (fun x => decide (x = 0)) 2197 2195 := ch_48 (Nat.le_of_ble_eq_true rfl) rfl
theorem q0_2192 : zl I 0 2192 [v0, v1, v2, v3, v4, v5, v6] (.int y1 :: st) u P = (if y1 = 0 then zl I 0 2197 [v0, v1, v2, v3, v4, v5, v6] st u P else zl I 0 2195 [v0, v1, v2, v3, v4, v5, v6] st u P) := zl_If h0_2192
theorem h0_2195 : xcd2 I 0 2195 = oI 0 2196 := ch_48 (Nat.le_of_ble_eq_true rfl) rfl
theorem q0_2195 : zl I 0 2195 [v0, v1, v2, v3, v4, v5, v6] st u P = zl I 0 2196 [v0, v1, v2, v3, v4, v5, v6] (.int 0 :: st) u P := zl_I h0_2195
theorem h0_2196 : xcd2 I 0 2196 = oRz 0 := ch_48 (Nat.le_of_ble_eq_true rfl) rfl
theorem q0_2196 : zl I 0 2196 [v0, v1, v2, v3, v4, v5, v6] [.int y1] u P = ((y1 = 0 ∨ y1 = 1) ∧ P (some (.int y1)) u) := zl_Rz h0_2196
theorem h0_2197 : xcd2 I 0 2197 = oGoto 2238 := ch_48 (Nat.le_of_ble_eq_true rfl) rfl
theorem q0_2197 : zl I 0 2197 [v0, v1, v2, v3, v4, v5, v6] st u P = zl I 0 2238 [v0, v1, v2, v3, v4, v5, v6] st u P := zl_Goto h0_2197
theorem h0_2200 : xcd2 I 0 2200 = oAl 1 2201 := ch_48 (Nat.le_of_ble_eq_true rfl) rfl
theorem q0_2200 : zl I 0 2200 [v0, .ref a1, v2, v3, v4, v5, v6] st u P = zl I 0 2201 [v0, .ref a1, v2, v3, v4, v5, v6] (.ref a1 :: st) u P := zl_Al h0_2200 rfl
theorem h0_2201 : xcd2 I 0 2201 = oAl 0 2202 := ch_48 (Nat.le_of_ble_eq_true rfl) rfl
theorem q0_2201 : zl I 0 2201 [.ref a0, v1, v2, v3, v4, v5, v6] st u P = zl I 0 2202 [.ref a0, v1, v2, v3, v4, v5, v6] (.ref a0 :: st) u P := zl_Al h0_2201 rfl
theorem h0_2202 : xcd2 I 0 2202 = oIl 4 2204 := ch_49 (Nat.le_of_ble_eq_true rfl) rfl
theorem q0_2202 : zl I 0 2202 [v0, v1, v2, v3, .int x4, v5, v6] st u P = zl I 0 2204 [v0, v1, v2, v3, .int x4, v5, v6] (.int x4 :: st) u P := zl_Il h0_2202 rfl
theorem h0_2204 : xcd2 I 0 2204 = oI 1 2205 := ch_49 (Nat.le_of_ble_eq_true rfl) rfl
theorem q0_2204 : zl I 0 2204 [v0, v1, v2, v3, v4, v5, v6] st u P = zl I 0 2205 [v0, v1, v2, v3, v4, v5, v6] (.int 1 :: st) u P := zl_I h0_2204
theorem h0_2205 : xcd2 I 0 2205 = oB (fun x y => x + y) 2206 := ch_49 (Nat.le_of_ble_eq_true rfl) rfl
theorem q0_2205 : zl I 0 2205 [v0, v1, v2, v3, v4, v5, v6] (.int y1 :: .int y2 :: st) u P = zl I 0 2206 [v0, v1, v2, v3, v4, v5, v6] (.int (y2 + y1) :: st) u P := zl_B h0_2205
theorem h0_2206 : xcd2 I 0 2206 = oScr 2207 := ch_49 (Nat.le_of_ble_eq_true rfl) rfl
theorem q0_2206 : zl I 0 2206 [v0, v1, v2, v3, v4, v5, v6] (.int y1 :: .ref b1 :: st) u P = ((b1 = 2000000 ∧ xinb y1 (xN u 2000000)) ∧ zl I 0 2207 [v0, v1, v2, v3, v4, v5, v6] (.int (xI u 2000000 (xix y1)) :: st) u P) := zl_Scr h0_2206
theorem h0_2207 : xcd2 I 0 2207 = oCalV 10 151 1 2210 := ch_49 (Nat.le_of_ble_eq_true rfl) rfl
theorem q0_2207 : zl I 0 2207 [v0, v1, v2, v3, v4, v5, v6] (.int y1 :: .ref b8 :: st) u P = ((xIs u b8 10 ∧ xcat st ≤ 8) ∧ zl I 151 0 [.ref b8, .int y1] [] u (fun r u2 => zl I 0 2210 [v0, v1, v2, v3, v4, v5, v6] (r.toList ++ st) u2 P)) := zl_CV h0_2207 rfl rfl rfl ⟨Nat.le_of_ble_eq_true rfl, Nat.succ_ne_zero _, by decide⟩ rfl
theorem h0_2210 : xcd2 I 0 2210 = oAl 2 2211 := ch_49 (Nat.le_of_ble_eq_true rfl) rfl
theorem q0_2210 : zl I 0 2210 [v0, v1, .ref a2, v3, v4, v5, v6] st u P = zl I 0 2211 [v0, v1, .ref a2, v3, v4, v5, v6] (.ref a2 :: st) u P := zl_Al h0_2210 rfl
theorem h0_2211 : xcd2 I 0 2211 = oAl 0 2212 := ch_49 (Nat.le_of_ble_eq_true rfl) rfl
theorem q0_2211 : zl I 0 2211 [.ref a0, v1, v2, v3, v4, v5, v6] st u P = zl I 0 2212 [.ref a0, v1, v2, v3, v4, v5, v6] (.ref a0 :: st) u P := zl_Al h0_2211 rfl
theorem h0_2212 : xcd2 I 0 2212 = oIl 4 2214 := ch_49 (Nat.le_of_ble_eq_true rfl) rfl
theorem q0_2212 : zl I 0 2212 [v0, v1, v2, v3, .int x4, v5, v6] st u P = zl I 0 2214 [v0, v1, v2, v3, .int x4, v5, v6] (.int x4 :: st) u P := zl_Il h0_2212 rfl
theorem h0_2214 : xcd2 I 0 2214 = oI 1 2215 := ch_49 (Nat.le_of_ble_eq_true rfl) rfl
theorem q0_2214 : zl I 0 2214 [v0, v1, v2, v3, v4, v5, v6] st u P = zl I 0 2215 [v0, v1, v2, v3, v4, v5, v6] (.int 1 :: st) u P := zl_I h0_2214
theorem h0_2215 : xcd2 I 0 2215 = oB (fun x y => x + y) 2216 := ch_49 (Nat.le_of_ble_eq_true rfl) rfl
theorem q0_2215 : zl I 0 2215 [v0, v1, v2, v3, v4, v5, v6] (.int y1 :: .int y2 :: st) u P = zl I 0 2216 [v0, v1, v2, v3, v4, v5, v6] (.int (y2 + y1) :: st) u P := zl_B h0_2215
theorem h0_2216 : xcd2 I 0 2216 = oScr 2217 := ch_49 (Nat.le_of_ble_eq_true rfl) rfl
theorem q0_2216 : zl I 0 2216 [v0, v1, v2, v3, v4, v5, v6] (.int y1 :: .ref b1 :: st) u P = ((b1 = 2000000 ∧ xinb y1 (xN u 2000000)) ∧ zl I 0 2217 [v0, v1, v2, v3, v4, v5, v6] (.int (xI u 2000000 (xix y1)) :: st) u P) := zl_Scr h0_2216
theorem h0_2217 : xcd2 I 0 2217 = oCalV 11 299 1 2220 := ch_49 (Nat.le_of_ble_eq_true rfl) rfl
theorem q0_2217 : zl I 0 2217 [v0, v1, v2, v3, v4, v5, v6] (.int y1 :: .ref b8 :: st) u P = ((xIs u b8 11 ∧ xcat st ≤ 8) ∧ zl I 299 0 [.ref b8, .int y1] [] u (fun r u2 => zl I 0 2220 [v0, v1, v2, v3, v4, v5, v6] (r.toList ++ st) u2 P)) := zl_CV h0_2217 rfl rfl rfl ⟨Nat.le_of_ble_eq_true rfl, Nat.succ_ne_zero _, by decide⟩ rfl
theorem h0_2220 : xcd2 I 0 2220 = oCmp (fun x y => decide (x = y)) 2238 2223 := ch_49 (Nat.le_of_ble_eq_true rfl) rfl
theorem q0_2220 : zl I 0 2220 [v0, v1, v2, v3, v4, v5, v6] (.int y1 :: .int y2 :: st) u P = (if y2 = y1 then zl I 0 2238 [v0, v1, v2, v3, v4, v5, v6] st u P else zl I 0 2223 [v0, v1, v2, v3, v4, v5, v6] st u P) := zl_Cmp h0_2220
theorem h0_2223 : xcd2 I 0 2223 = oI 0 2224 := ch_49 (Nat.le_of_ble_eq_true rfl) rfl
theorem q0_2223 : zl I 0 2223 [v0, v1, v2, v3, v4, v5, v6] st u P = zl I 0 2224 [v0, v1, v2, v3, v4, v5, v6] (.int 0 :: st) u P := zl_I h0_2223
theorem h0_2224 : xcd2 I 0 2224 = oRz 0 := ch_49 (Nat.le_of_ble_eq_true rfl) rfl
theorem q0_2224 : zl I 0 2224 [v0, v1, v2, v3, v4, v5, v6] [.int y1] u P = ((y1 = 0 ∨ y1 = 1) ∧ P (some (.int y1)) u) := zl_Rz h0_2224
theorem h0_2225 : xcd2 I 0 2225 = oAl 1 2226 := ch_49 (Nat.le_of_ble_eq_true rfl) rfl
theorem q0_2225 : zl I 0 2225 [v0, .ref a1, v2, v3, v4, v5, v6] st u P = zl I 0 2226 [v0, .ref a1, v2, v3, v4, v5, v6] (.ref a1 :: st) u P := zl_Al h0_2225 rfl
theorem h0_2226 : xcd2 I 0 2226 = oCalV 10 152 0 2229 := ch_49 (Nat.le_of_ble_eq_true rfl) rfl
theorem q0_2226 : zl I 0 2226 [v0, v1, v2, v3, v4, v5, v6] (.ref b8 :: st) u P = ((xIs u b8 10 ∧ xcat st ≤ 8) ∧ zl I 152 0 [.ref b8] [] u (fun r u2 => zl I 0 2229 [v0, v1, v2, v3, v4, v5, v6] (r.toList ++ st) u2 P)) := zl_CV h0_2226 rfl rfl rfl ⟨Nat.le_of_ble_eq_true rfl, Nat.succ_ne_zero _, by decide⟩ rfl
theorem h0_2229 : xcd2 I 0 2229 = oAl 2 2230 := ch_49 (Nat.le_of_ble_eq_true rfl) rfl
theorem q0_2229 : zl I 0 2229 [v0, v1, .ref a2, v3, v4, v5, v6] st u P = zl I 0 2230 [v0, v1, .ref a2, v3, v4, v5, v6] (.ref a2 :: st) u P := zl_Al h0_2229 rfl
theorem h0_2230 : xcd2 I 0 2230 = oCalV 11 300 0 2233 := ch_49 (Nat.le_of_ble_eq_true rfl) rfl
theorem q0_2230 : zl I 0 2230 [v0, v1, v2, v3, v4, v5, v6] (.ref b8 :: st) u P = ((xIs u b8 11 ∧ xcat st ≤ 8) ∧ zl I 300 0 [.ref b8] [] u (fun r u2 => zl I 0 2233 [v0, v1, v2, v3, v4, v5, v6] (r.toList ++ st) u2 P)) := zl_CV h0_2230 rfl rfl rfl ⟨Nat.le_of_ble_eq_true rfl, Nat.succ_ne_zero _, by decide⟩ rfl
theorem h0_2233 : xcd2 I 0 2233 = oCmp (fun x y => decide (x = y)) 2238 2236 := ch_49 (Nat.le_of_ble_eq_true rfl) rfl
theorem q0_2233 : zl I 0 2233 [v0, v1, v2, v3, v4, v5, v6] (.int y1 :: .int y2 :: st) u P = (if y2 = y1 then zl I 0 2238 [v0, v1, v2, v3, v4, v5, v6] st u P else zl I 0 2236 [v0, v1, v2, v3, v4, v5, v6] st u P) := zl_Cmp h0_2233
theorem h0_2236 : xcd2 I 0 2236 = oI 0 2237 := ch_49 (Nat.le_of_ble_eq_true rfl) rfl
theorem q0_2236 : zl I 0 2236 [v0, v1, v2, v3, v4, v5, v6] st u P = zl I 0 2237 [v0, v1, v2, v3, v4, v5, v6] (.int 0 :: st) u P := zl_I h0_2236
theorem h0_2237 : xcd2 I 0 2237 = oRz 0 := ch_49 (Nat.le_of_ble_eq_true rfl) rfl
theorem q0_2237 : zl I 0 2237 [v0, v1, v2, v3, v4, v5, v6] [.int y1] u P = ((y1 = 0 ∨ y1 = 1) ∧ P (some (.int y1)) u) := zl_Rz h0_2237
theorem h0_2238 : xcd2 I 0 2238 = oInc 4 8 2241 := ch_49 (Nat.le_of_ble_eq_true rfl) rfl
theorem q0_2238 : zl I 0 2238 [v0, v1, v2, .ref a3, .int x4, v5, v6] st u P = zl I 0 2241 [v0, v1, v2, .ref a3, .int (x4 + 8), v5, v6] st u P := zl_Inc h0_2238 rfl rfl
theorem h0_2241 : xcd2 I 0 2241 = oGoto 23 := ch_49 (Nat.le_of_ble_eq_true rfl) rfl
theorem q0_2241 : zl I 0 2241 [v0, v1, v2, v3, v4, v5, v6] st u P = zl I 0 23 [v0, v1, v2, v3, v4, v5, v6] st u P := zl_Goto h0_2241
theorem h0_2244 : xcd2 I 0 2244 = oI 1 2245 := ch_49 (Nat.le_of_ble_eq_true rfl) rfl
theorem q0_2244 : zl I 0 2244 [v0, v1, v2, v3, v4, v5, v6] st u P = zl I 0 2245 [v0, v1, v2, v3, v4, v5, v6] (.int 1 :: st) u P := zl_I h0_2244
theorem h0_2245 : xcd2 I 0 2245 = oRz 0 := ch_49 (Nat.le_of_ble_eq_true rfl) rfl
theorem q0_2245 : zl I 0 2245 [v0, v1, v2, v3, v4, v5, v6] [.int y1] u P = ((y1 = 0 ∨ y1 = 1) ∧ P (some (.int y1)) u) := zl_Rz h0_2245
end
