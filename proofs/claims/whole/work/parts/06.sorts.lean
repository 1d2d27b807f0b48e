theorem in_X0 : ∀ x ∈ u_ws RX0 TX0 9, x ∈ gw_tbl := by
  intro x hx
  obtain ⟨k, hk, rfl⟩ := List.mem_map.mp hx
  have hk := List.mem_range.mp hk
  by_cases h4 : k < 4
  · skip
    by_cases h2 : k < 2
    · skip
      by_cases h1 : k < 1
      · skip
        obtain rfl : k = 0 := by omega
        exact wd_357
      · skip
        obtain rfl : k = 1 := by omega
        exact wd_359
    · skip
      by_cases h3 : k < 3
      · skip
        obtain rfl : k = 2 := by omega
        exact wd_361
      · skip
        obtain rfl : k = 3 := by omega
        exact wd_363
  · skip
    by_cases h6 : k < 6
    · skip
      by_cases h5 : k < 5
      · skip
        obtain rfl : k = 4 := by omega
        exact wd_365
      · skip
        obtain rfl : k = 5 := by omega
        exact wd_367
    · skip
      by_cases h7 : k < 7
      · skip
        obtain rfl : k = 6 := by omega
        exact wd_369
      · skip
        by_cases h8 : k < 8
        · skip
          obtain rfl : k = 7 := by omega
          exact wd_371
        · skip
          obtain rfl : k = 8 := by omega
          exact wd_373
theorem in_X1 : ∀ x ∈ u_ws RX1 TX1 7, x ∈ gw_tbl := by
  intro x hx
  obtain ⟨k, hk, rfl⟩ := List.mem_map.mp hx
  have hk := List.mem_range.mp hk
  by_cases h3 : k < 3
  · skip
    by_cases h1 : k < 1
    · skip
      obtain rfl : k = 0 := by omega
      exact wd_171
    · skip
      by_cases h2 : k < 2
      · skip
        obtain rfl : k = 1 := by omega
        exact wd_173
      · skip
        obtain rfl : k = 2 := by omega
        exact wd_175
  · skip
    by_cases h5 : k < 5
    · skip
      by_cases h4 : k < 4
      · skip
        obtain rfl : k = 3 := by omega
        exact wd_177
      · skip
        obtain rfl : k = 4 := by omega
        exact wd_179
    · skip
      by_cases h6 : k < 6
      · skip
        obtain rfl : k = 5 := by omega
        exact wd_181
      · skip
        obtain rfl : k = 6 := by omega
        exact wd_183
theorem in_X2 : ∀ x ∈ u_ws RX2 TX2 3, x ∈ gw_tbl := by
  intro x hx
  obtain ⟨k, hk, rfl⟩ := List.mem_map.mp hx
  have hk := List.mem_range.mp hk
  by_cases h1 : k < 1
  · skip
    obtain rfl : k = 0 := by omega
    exact wd_386
  · skip
    by_cases h2 : k < 2
    · skip
      obtain rfl : k = 1 := by omega
      exact wd_388
    · skip
      obtain rfl : k = 2 := by omega
      exact wd_390
theorem in_X3 : ∀ x ∈ u_ws RX3 TX3 15, x ∈ gw_tbl := by
  intro x hx
  obtain ⟨k, hk, rfl⟩ := List.mem_map.mp hx
  have hk := List.mem_range.mp hk
  by_cases h7 : k < 7
  · skip
    by_cases h3 : k < 3
    · skip
      by_cases h1 : k < 1
      · skip
        obtain rfl : k = 0 := by omega
        exact wd_117
      · skip
        by_cases h2 : k < 2
        · skip
          obtain rfl : k = 1 := by omega
          exact wd_119
        · skip
          obtain rfl : k = 2 := by omega
          exact wd_121
    · skip
      by_cases h5 : k < 5
      · skip
        by_cases h4 : k < 4
        · skip
          obtain rfl : k = 3 := by omega
          exact wd_123
        · skip
          obtain rfl : k = 4 := by omega
          exact wd_125
      · skip
        by_cases h6 : k < 6
        · skip
          obtain rfl : k = 5 := by omega
          exact wd_127
        · skip
          obtain rfl : k = 6 := by omega
          exact wd_129
  · skip
    by_cases h11 : k < 11
    · skip
      by_cases h9 : k < 9
      · skip
        by_cases h8 : k < 8
        · skip
          obtain rfl : k = 7 := by omega
          exact wd_131
        · skip
          obtain rfl : k = 8 := by omega
          exact wd_133
      · skip
        by_cases h10 : k < 10
        · skip
          obtain rfl : k = 9 := by omega
          exact wd_135
        · skip
          obtain rfl : k = 10 := by omega
          exact wd_137
    · skip
      by_cases h13 : k < 13
      · skip
        by_cases h12 : k < 12
        · skip
          obtain rfl : k = 11 := by omega
          exact wd_139
        · skip
          obtain rfl : k = 12 := by omega
          exact wd_141
      · skip
        by_cases h14 : k < 14
        · skip
          obtain rfl : k = 13 := by omega
          exact wd_143
        · skip
          obtain rfl : k = 14 := by omega
          exact wd_145
theorem in_X4 : ∀ x ∈ u_ws RX4 TX4 19, x ∈ gw_tbl := by
  intro x hx
  obtain ⟨k, hk, rfl⟩ := List.mem_map.mp hx
  have hk := List.mem_range.mp hk
  by_cases h9 : k < 9
  · skip
    by_cases h4 : k < 4
    · skip
      by_cases h2 : k < 2
      · skip
        by_cases h1 : k < 1
        · skip
          obtain rfl : k = 0 := by omega
          exact wd_235
        · skip
          obtain rfl : k = 1 := by omega
          exact wd_237
      · skip
        by_cases h3 : k < 3
        · skip
          obtain rfl : k = 2 := by omega
          exact wd_239
        · skip
          obtain rfl : k = 3 := by omega
          exact wd_241
    · skip
      by_cases h6 : k < 6
      · skip
        by_cases h5 : k < 5
        · skip
          obtain rfl : k = 4 := by omega
          exact wd_243
        · skip
          obtain rfl : k = 5 := by omega
          exact wd_245
      · skip
        by_cases h7 : k < 7
        · skip
          obtain rfl : k = 6 := by omega
          exact wd_247
        · skip
          by_cases h8 : k < 8
          · skip
            obtain rfl : k = 7 := by omega
            exact wd_249
          · skip
            obtain rfl : k = 8 := by omega
            exact wd_251
  · skip
    by_cases h14 : k < 14
    · skip
      by_cases h11 : k < 11
      · skip
        by_cases h10 : k < 10
        · skip
          obtain rfl : k = 9 := by omega
          exact wd_253
        · skip
          obtain rfl : k = 10 := by omega
          exact wd_255
      · skip
        by_cases h12 : k < 12
        · skip
          obtain rfl : k = 11 := by omega
          exact wd_257
        · skip
          by_cases h13 : k < 13
          · skip
            obtain rfl : k = 12 := by omega
            exact wd_259
          · skip
            obtain rfl : k = 13 := by omega
            exact wd_261
    · skip
      by_cases h16 : k < 16
      · skip
        by_cases h15 : k < 15
        · skip
          obtain rfl : k = 14 := by omega
          exact wd_263
        · skip
          obtain rfl : k = 15 := by omega
          exact wd_265
      · skip
        by_cases h17 : k < 17
        · skip
          obtain rfl : k = 16 := by omega
          exact wd_267
        · skip
          by_cases h18 : k < 18
          · skip
            obtain rfl : k = 17 := by omega
            exact wd_269
          · skip
            obtain rfl : k = 18 := by omega
            exact wd_271
theorem in_X5 : ∀ x ∈ u_ws RX5 TX5 16, x ∈ gw_tbl := by
  intro x hx
  obtain ⟨k, hk, rfl⟩ := List.mem_map.mp hx
  have hk := List.mem_range.mp hk
  by_cases h8 : k < 8
  · skip
    by_cases h4 : k < 4
    · skip
      by_cases h2 : k < 2
      · skip
        by_cases h1 : k < 1
        · skip
          obtain rfl : k = 0 := by omega
          exact wd_410
        · skip
          obtain rfl : k = 1 := by omega
          exact wd_412
      · skip
        by_cases h3 : k < 3
        · skip
          obtain rfl : k = 2 := by omega
          exact wd_414
        · skip
          obtain rfl : k = 3 := by omega
          exact wd_416
    · skip
      by_cases h6 : k < 6
      · skip
        by_cases h5 : k < 5
        · skip
          obtain rfl : k = 4 := by omega
          exact wd_418
        · skip
          obtain rfl : k = 5 := by omega
          exact wd_420
      · skip
        by_cases h7 : k < 7
        · skip
          obtain rfl : k = 6 := by omega
          exact wd_422
        · skip
          obtain rfl : k = 7 := by omega
          exact wd_424
  · skip
    by_cases h12 : k < 12
    · skip
      by_cases h10 : k < 10
      · skip
        by_cases h9 : k < 9
        · skip
          obtain rfl : k = 8 := by omega
          exact wd_426
        · skip
          obtain rfl : k = 9 := by omega
          exact wd_428
      · skip
        by_cases h11 : k < 11
        · skip
          obtain rfl : k = 10 := by omega
          exact wd_430
        · skip
          obtain rfl : k = 11 := by omega
          exact wd_432
    · skip
      by_cases h14 : k < 14
      · skip
        by_cases h13 : k < 13
        · skip
          obtain rfl : k = 12 := by omega
          exact wd_434
        · skip
          obtain rfl : k = 13 := by omega
          exact wd_436
      · skip
        by_cases h15 : k < 15
        · skip
          obtain rfl : k = 14 := by omega
          exact wd_438
        · skip
          obtain rfl : k = 15 := by omega
          exact wd_440
theorem in_X6 : ∀ x ∈ u_ws RX6 TX6 75, x ∈ gw_tbl := by
  intro x hx
  obtain ⟨k, hk, rfl⟩ := List.mem_map.mp hx
  have hk := List.mem_range.mp hk
  by_cases h37 : k < 37
  · skip
    by_cases h18 : k < 18
    · skip
      by_cases h9 : k < 9
      · skip
        by_cases h4 : k < 4
        · skip
          by_cases h2 : k < 2
          · skip
            by_cases h1 : k < 1
            · skip
              obtain rfl : k = 0 := by omega
              exact wd_1202
            · skip
              obtain rfl : k = 1 := by omega
              exact wd_1204
          · skip
            by_cases h3 : k < 3
            · skip
              obtain rfl : k = 2 := by omega
              exact wd_1206
            · skip
              obtain rfl : k = 3 := by omega
              exact wd_1208
        · skip
          by_cases h6 : k < 6
          · skip
            by_cases h5 : k < 5
            · skip
              obtain rfl : k = 4 := by omega
              exact wd_1210
            · skip
              obtain rfl : k = 5 := by omega
              exact wd_1212
          · skip
            by_cases h7 : k < 7
            · skip
              obtain rfl : k = 6 := by omega
              exact wd_1214
            · skip
              by_cases h8 : k < 8
              · skip
                obtain rfl : k = 7 := by omega
                exact wd_1216
              · skip
                obtain rfl : k = 8 := by omega
                exact wd_1218
      · skip
        by_cases h13 : k < 13
        · skip
          by_cases h11 : k < 11
          · skip
            by_cases h10 : k < 10
            · skip
              obtain rfl : k = 9 := by omega
              exact wd_1220
            · skip
              obtain rfl : k = 10 := by omega
              exact wd_1222
          · skip
            by_cases h12 : k < 12
            · skip
              obtain rfl : k = 11 := by omega
              exact wd_1224
            · skip
              obtain rfl : k = 12 := by omega
              exact wd_1226
        · skip
          by_cases h15 : k < 15
          · skip
            by_cases h14 : k < 14
            · skip
              obtain rfl : k = 13 := by omega
              exact wd_1228
            · skip
              obtain rfl : k = 14 := by omega
              exact wd_1230
          · skip
            by_cases h16 : k < 16
            · skip
              obtain rfl : k = 15 := by omega
              exact wd_1232
            · skip
              by_cases h17 : k < 17
              · skip
                obtain rfl : k = 16 := by omega
                exact wd_1234
              · skip
                obtain rfl : k = 17 := by omega
                exact wd_1236
    · skip
      by_cases h27 : k < 27
      · skip
        by_cases h22 : k < 22
        · skip
          by_cases h20 : k < 20
          · skip
            by_cases h19 : k < 19
            · skip
              obtain rfl : k = 18 := by omega
              exact wd_1238
            · skip
              obtain rfl : k = 19 := by omega
              exact wd_1240
          · skip
            by_cases h21 : k < 21
            · skip
              obtain rfl : k = 20 := by omega
              exact wd_1242
            · skip
              obtain rfl : k = 21 := by omega
              exact wd_1244
        · skip
          by_cases h24 : k < 24
          · skip
            by_cases h23 : k < 23
            · skip
              obtain rfl : k = 22 := by omega
              exact wd_1246
            · skip
              obtain rfl : k = 23 := by omega
              exact wd_1248
          · skip
            by_cases h25 : k < 25
            · skip
              obtain rfl : k = 24 := by omega
              exact wd_1250
            · skip
              by_cases h26 : k < 26
              · skip
                obtain rfl : k = 25 := by omega
                exact wd_1252
              · skip
                obtain rfl : k = 26 := by omega
                exact wd_1254
      · skip
        by_cases h32 : k < 32
        · skip
          by_cases h29 : k < 29
          · skip
            by_cases h28 : k < 28
            · skip
              obtain rfl : k = 27 := by omega
              exact wd_1256
            · skip
              obtain rfl : k = 28 := by omega
              exact wd_1258
          · skip
            by_cases h30 : k < 30
            · skip
              obtain rfl : k = 29 := by omega
              exact wd_1260
            · skip
              by_cases h31 : k < 31
              · skip
                obtain rfl : k = 30 := by omega
                exact wd_1262
              · skip
                obtain rfl : k = 31 := by omega
                exact wd_1264
        · skip
          by_cases h34 : k < 34
          · skip
            by_cases h33 : k < 33
            · skip
              obtain rfl : k = 32 := by omega
              exact wd_1266
            · skip
              obtain rfl : k = 33 := by omega
              exact wd_1268
          · skip
            by_cases h35 : k < 35
            · skip
              obtain rfl : k = 34 := by omega
              exact wd_1270
            · skip
              by_cases h36 : k < 36
              · skip
                obtain rfl : k = 35 := by omega
                exact wd_1272
              · skip
                obtain rfl : k = 36 := by omega
                exact wd_1274
  · skip
    by_cases h56 : k < 56
    · skip
      by_cases h46 : k < 46
      · skip
        by_cases h41 : k < 41
        · skip
          by_cases h39 : k < 39
          · skip
            by_cases h38 : k < 38
            · skip
              obtain rfl : k = 37 := by omega
              exact wd_1276
            · skip
              obtain rfl : k = 38 := by omega
              exact wd_1278
          · skip
            by_cases h40 : k < 40
            · skip
              obtain rfl : k = 39 := by omega
              exact wd_1280
            · skip
              obtain rfl : k = 40 := by omega
              exact wd_1282
        · skip
          by_cases h43 : k < 43
          · skip
            by_cases h42 : k < 42
            · skip
              obtain rfl : k = 41 := by omega
              exact wd_1284
            · skip
              obtain rfl : k = 42 := by omega
              exact wd_1286
          · skip
            by_cases h44 : k < 44
            · skip
              obtain rfl : k = 43 := by omega
              exact wd_1288
            · skip
              by_cases h45 : k < 45
              · skip
                obtain rfl : k = 44 := by omega
                exact wd_1290
              · skip
                obtain rfl : k = 45 := by omega
                exact wd_1292
      · skip
        by_cases h51 : k < 51
        · skip
          by_cases h48 : k < 48
          · skip
            by_cases h47 : k < 47
            · skip
              obtain rfl : k = 46 := by omega
              exact wd_1294
            · skip
              obtain rfl : k = 47 := by omega
              exact wd_1296
          · skip
            by_cases h49 : k < 49
            · skip
              obtain rfl : k = 48 := by omega
              exact wd_1298
            · skip
              by_cases h50 : k < 50
              · skip
                obtain rfl : k = 49 := by omega
                exact wd_1300
              · skip
                obtain rfl : k = 50 := by omega
                exact wd_1302
        · skip
          by_cases h53 : k < 53
          · skip
            by_cases h52 : k < 52
            · skip
              obtain rfl : k = 51 := by omega
              exact wd_1304
            · skip
              obtain rfl : k = 52 := by omega
              exact wd_1306
          · skip
            by_cases h54 : k < 54
            · skip
              obtain rfl : k = 53 := by omega
              exact wd_1308
            · skip
              by_cases h55 : k < 55
              · skip
                obtain rfl : k = 54 := by omega
                exact wd_1310
              · skip
                obtain rfl : k = 55 := by omega
                exact wd_1312
    · skip
      by_cases h65 : k < 65
      · skip
        by_cases h60 : k < 60
        · skip
          by_cases h58 : k < 58
          · skip
            by_cases h57 : k < 57
            · skip
              obtain rfl : k = 56 := by omega
              exact wd_1314
            · skip
              obtain rfl : k = 57 := by omega
              exact wd_1316
          · skip
            by_cases h59 : k < 59
            · skip
              obtain rfl : k = 58 := by omega
              exact wd_1318
            · skip
              obtain rfl : k = 59 := by omega
              exact wd_1320
        · skip
          by_cases h62 : k < 62
          · skip
            by_cases h61 : k < 61
            · skip
              obtain rfl : k = 60 := by omega
              exact wd_1322
            · skip
              obtain rfl : k = 61 := by omega
              exact wd_1324
          · skip
            by_cases h63 : k < 63
            · skip
              obtain rfl : k = 62 := by omega
              exact wd_1326
            · skip
              by_cases h64 : k < 64
              · skip
                obtain rfl : k = 63 := by omega
                exact wd_1328
              · skip
                obtain rfl : k = 64 := by omega
                exact wd_1330
      · skip
        by_cases h70 : k < 70
        · skip
          by_cases h67 : k < 67
          · skip
            by_cases h66 : k < 66
            · skip
              obtain rfl : k = 65 := by omega
              exact wd_1332
            · skip
              obtain rfl : k = 66 := by omega
              exact wd_1334
          · skip
            by_cases h68 : k < 68
            · skip
              obtain rfl : k = 67 := by omega
              exact wd_1336
            · skip
              by_cases h69 : k < 69
              · skip
                obtain rfl : k = 68 := by omega
                exact wd_1338
              · skip
                obtain rfl : k = 69 := by omega
                exact wd_1340
        · skip
          by_cases h72 : k < 72
          · skip
            by_cases h71 : k < 71
            · skip
              obtain rfl : k = 70 := by omega
              exact wd_1342
            · skip
              obtain rfl : k = 71 := by omega
              exact wd_1344
          · skip
            by_cases h73 : k < 73
            · skip
              obtain rfl : k = 72 := by omega
              exact wd_1346
            · skip
              by_cases h74 : k < 74
              · skip
                obtain rfl : k = 73 := by omega
                exact wd_1348
              · skip
                obtain rfl : k = 74 := by omega
                exact wd_1350
def ks_C : Nat → List Nat
  | 0 => [5, 0, 2, 2, 2, 2, 2, 2, 2]
  | 1 => [2, 2, 0, 2, 0, 2, 2]
  | 2 => [2, 0, 0]
  | 3 => [3, 2, 2, 3, 0, 0, 1, 2, 0, 0, 0, 0, 0, 0, 0]
  | 4 => [0, 0, 0, 0, 0, 0, 0, 2, 2, 2, 2, 2, 2, 3, 2, 0, 202, 0, 0]
  | 5 => [2, 0, 0, 101, 5, 5, 110, 111, 106, 4, 0, 2, 0, 2, 2, 2]
  | _ => []
def cl_C (k : Nat) : Nat := if k = 0 then 5 else if k = 1 then 3 else if k < 4 then 4 else if k < 6 then 1 else if k = 6 then 2 else 0
def lt_C : Nat → List Nat
  | 0 => [0, 0, 1800, 1800, 2400, 2400, 300, 8, 8]
  | 1 => [512, 512, 0, 64, 0, 64, 6]
  | 2 => [600, 0, 0]
  | 3 => [17, 400, 400, 400, 0, 0, 0, 8, 0, 0, 0, 0, 0, 0, 0]
  | 4 => [0, 0, 0, 0, 0, 0, 0, 24, 6, 6, 6, 8, 8, 22, 22, 0, 0, 0, 0]
  | 5 => [2000, 0, 0, 0, 0, 0, 0, 0, 0, 0, 0, 80, 0, 8, 8, 300]
  | _ => []
def ln_C (q : Nat) : Nat := (lt_C (cl_C (q / 100))).getD (q % 100) 0
def mo_C : List Int32 := [8, 12, 6, 1000, 8, 1000, 1000, 1000]
def so_C : List (Nat × String × List Int32) := [(35, "room door man goes mirror late breaks seed if then else minute here rank number ways with ", [114, 111, 111, 109, 32, 100, 111, 111, 114, 32, 109, 97, 110, 32, 103, 111, 101, 115, 32, 109, 105, 114, 114, 111, 114, 32, 108, 97, 116, 101, 32, 98, 114, 101, 97, 107, 115, 32, 115, 101, 101, 100, 32, 105, 102, 32, 116, 104, 101, 110, 32, 101, 108, 115, 101, 32, 109, 105, 110, 117, 116, 101, 32, 104, 101, 114, 101, 32, 114, 97, 110, 107, 32, 110, 117, 109, 98, 101, 114, 32, 119, 97, 121, 115, 32, 119, 105, 116, 104, 32]), (125, ";=+-*/<()", [59, 61, 43, 45, 42, 47, 60, 40, 41]), (137, "N;", [78, 59]), (139, "NN;", [78, 78, 59]), (141, "NIN;", [78, 73, 78, 59]), (143, "NL", [78, 76]), (145, "NNN;", [78, 78, 78, 59]), (147, "L", [76]), (149, "I;", [73, 59])]
def sl_C : List Nat := so_C.map (fun q => q.2.2.length)
def sb_C : List (List Int32) := so_C.map (fun q => q.2.2)
/-- beside the world: the nest words, the static array, the strings -/
def cs_C (g : GG) (A : Nat → Prop) (U : State) : Prop := (∀ x ∈ nw_tbl, va_Nw x U) ∧ va_Z RX3 "MOST" "[I" (.ref (gg_t g)) A U U.heap ∧ va_T .int (gg_t g) 8 (fun j => .int (mo_C.getD j 0)) A U U.heap ∧ va_Z "java/lang/String" "COMPACT_STRINGS" "Z" (.int 1) A U U.heap ∧ vk_S 9 sl_C sb_C (gg_k g) (gg_v g) A U U.heap ∧ (∀ (i : Nat) (q : Nat × String × List Int32), so_C[i]? = some q → vk_R RX3 q.1 q.2.1 (gg_k g i) U) ∧ va_Zq "jdk/internal/util/Preconditions" "SIOOBE_FORMATTER" "Ljava/util/function/BiFunction;" A U U.heap
def wd_C : WD := (cl_C, ks_C, ln_C, fun _ => .int, ln_C, fun j => 12 + j, cs_C)
def ks_M : Nat → List Nat
  | 6 => [0, 2, 0, 2, 0, 2, 2, 2, 3, 3, 0, 0, 0, 0, 0, 0, 0, 0, 0, 0, 0, 3, 2, 2, 2, 2, 2, 2, 2, 2, 2, 2, 2, 2, 2, 2, 2, 2, 0, 2, 2, 2, 2, 2, 0, 2, 2, 2, 0, 2, 2, 0, 2, 0, 2, 2, 2, 0, 2, 2, 0, 0, 2, 2, 2, 2, 2, 0, 2, 2, 2, 2, 2, 2, 2]
  | _ => []
def lt_M : List Nat := [0, 2000, 0, 2000, 0, 403, 403, 403, 403, 17, 0, 0, 0, 0, 0, 0, 0, 0, 0, 0, 0, 22, 22, 22, 2, 2, 24, 24, 2, 12, 12, 2, 16, 16, 2, 2, 14, 14, 0, 260, 260, 260, 260, 260, 0, 840, 840, 64, 0, 6, 400, 0, 10800, 0, 8, 8, 10800, 0, 8, 8, 0, 0, 1060, 2400, 2400, 300, 8, 0, 20, 20, 20, 20, 3, 32400, 51]
def ty_M (q : Nat) : FieldType := if q ∈ [1, 3] then .byte else if q ∈ [39, 63, 64, 71, 72] then .boolean else .int
def wd_M : WD := (fun _ => 6, ks_M, fun q => lt_M.getD q 0, ty_M, fun q => lt_M.getD q 0, fun j => j, fun _ _ _ => True)
abbrev isT (p : Nat) : Prop := p = 2 ∨ p = 3
def hT (g : GG) (k : Nat) : Prop := hs wd_C g k 4 ∧ hs wd_C g (k + 2) 1
def allT (g : GG) : Prop := hT g 2 ∧ hT g 3
theorem allT_at {g : GG} (h : allT g) {p : Nat} (hp : isT p) : hT g p := by
  rcases hp with rfl | rfl
  · exact h.1
  · exact h.2
def hAll (g : GG) : Prop := hs wd_C g 0 5 ∧ hs wd_C g 1 3 ∧ hs wd_C g 6 2 ∧ (∀ j, j < 5 → hs wd_C g (10 + j) 0) ∧ allT g
theorem hAll_q {g : GG} (h : hAll g) {i : Int32} (hi : ib i 3) : hs wd_C g (12 + i.toNatClampNeg) 0 := by
  have h1 := hi.1
  have h2 := hi.2
  have e : i.toNatClampNeg = i.toInt.toNat := rfl
  rw [show 12 + i.toNatClampNeg = 10 + (2 + i.toInt.toNat) by omega]
  exact h.2.2.2.1 _ (by omega)
section FW
variable {g : GG} {p : Program} {l : Launch} {e : Env} {R : Room} {s : State} {m : MethodId} {args : Array Value} {below : List Frame} {meth : Method} {c : Code} {H : Heap} {locs : List Loc} {cells slots : Nat} {Q : State → Prop}
variable {cc : ByteArray} {nL pc : Nat} {own : String} {ls : Array Slot} {rest : List Value} {S : St}
theorem f_bool {x : Int32} (h : isb x) : fits .boolean (.int x) = true := by
  rcases h with rfl | rfl
  · rfl
  · rfl
theorem nw_at (cx : CX wd_C g p s m args c cc nL own) : ∀ z ∈ nw_tbl, va_Nw z s := cx.2.2.2.2.2.2.1.1
theorem gf_X0_9 (cx : CX wd_C g p s m args c cc nL RX0) (hw : HH wd_C g s S H locs) {k : Nat} (hk : hs wd_C g k 0) (hdg : decode cc pc = .ok (.getfield 9, 3)) (kk : W p l e R s m args below meth c H locs cells slots Q (F0 m (pc + 3) ls (.ref (gg_a g (ky k 2)) :: rest))) : W p l e R s m args below meth c H locs cells slots Q (F0 m pc ls (.ref (gg_o g k) :: rest)) := r_get cx hw hk.2.1 hk.1 (C := RX0) (T := TX0) (N := 9) rfl in_X0 (f := 2) (by decide) wd_350 rfl (kd := 2) rfl rfl hdg kk
theorem gf_X0_15 (cx : CX wd_C g p s m args c cc nL RX0) (hw : HH wd_C g s S H locs) {k : Nat} (hk : hs wd_C g k 0) (hdg : decode cc pc = .ok (.getfield 15, 3)) (kk : W p l e R s m args below meth c H locs cells slots Q (F0 m (pc + 3) ls (.ref (gg_a g (ky k 3)) :: rest))) : W p l e R s m args below meth c H locs cells slots Q (F0 m pc ls (.ref (gg_o g k) :: rest)) := r_get cx hw hk.2.1 hk.1 (C := RX0) (T := TX0) (N := 9) rfl in_X0 (f := 3) (by decide) wd_351 rfl (kd := 2) rfl rfl hdg kk
theorem gf_X0_18 (cx : CX wd_C g p s m args c cc nL RX0) (hw : HH wd_C g s S H locs) {k : Nat} (hk : hs wd_C g k 0) (hdg : decode cc pc = .ok (.getfield 18, 3)) (kk : W p l e R s m args below meth c H locs cells slots Q (F0 m (pc + 3) ls (.ref (gg_a g (ky k 4)) :: rest))) : W p l e R s m args below meth c H locs cells slots Q (F0 m pc ls (.ref (gg_o g k) :: rest)) := r_get cx hw hk.2.1 hk.1 (C := RX0) (T := TX0) (N := 9) rfl in_X0 (f := 4) (by decide) wd_352 rfl (kd := 2) rfl rfl hdg kk
theorem gf_X0_21 (cx : CX wd_C g p s m args c cc nL RX0) (hw : HH wd_C g s S H locs) {k : Nat} (hk : hs wd_C g k 0) (hdg : decode cc pc = .ok (.getfield 21, 3)) (kk : W p l e R s m args below meth c H locs cells slots Q (F0 m (pc + 3) ls (.ref (gg_a g (ky k 5)) :: rest))) : W p l e R s m args below meth c H locs cells slots Q (F0 m pc ls (.ref (gg_o g k) :: rest)) := r_get cx hw hk.2.1 hk.1 (C := RX0) (T := TX0) (N := 9) rfl in_X0 (f := 5) (by decide) wd_353 rfl (kd := 2) rfl rfl hdg kk
theorem gf_X0_24 (cx : CX wd_C g p s m args c cc nL RX0) (hw : HH wd_C g s S H locs) {k : Nat} (hk : hs wd_C g k 0) (hdg : decode cc pc = .ok (.getfield 24, 3)) (kk : W p l e R s m args below meth c H locs cells slots Q (F0 m (pc + 3) ls (.ref (gg_a g (ky k 6)) :: rest))) : W p l e R s m args below meth c H locs cells slots Q (F0 m pc ls (.ref (gg_o g k) :: rest)) := r_get cx hw hk.2.1 hk.1 (C := RX0) (T := TX0) (N := 9) rfl in_X0 (f := 6) (by decide) wd_354 rfl (kd := 2) rfl rfl hdg kk
theorem gf_X0_27 (cx : CX wd_C g p s m args c cc nL RX0) (hw : HH wd_C g s S H locs) {k : Nat} (hk : hs wd_C g k 0) (hdg : decode cc pc = .ok (.getfield 27, 3)) (kk : W p l e R s m args below meth c H locs cells slots Q (F0 m (pc + 3) ls (.ref (gg_a g (ky k 7)) :: rest))) : W p l e R s m args below meth c H locs cells slots Q (F0 m pc ls (.ref (gg_o g k) :: rest)) := r_get cx hw hk.2.1 hk.1 (C := RX0) (T := TX0) (N := 9) rfl in_X0 (f := 7) (by decide) wd_355 rfl (kd := 2) rfl rfl hdg kk
theorem gf_X0_30 (cx : CX wd_C g p s m args c cc nL RX0) (hw : HH wd_C g s S H locs) {k : Nat} (hk : hs wd_C g k 0) (hdg : decode cc pc = .ok (.getfield 30, 3)) (kk : W p l e R s m args below meth c H locs cells slots Q (F0 m (pc + 3) ls (.ref (gg_a g (ky k 8)) :: rest))) : W p l e R s m args below meth c H locs cells slots Q (F0 m pc ls (.ref (gg_o g k) :: rest)) := r_get cx hw hk.2.1 hk.1 (C := RX0) (T := TX0) (N := 9) rfl in_X0 (f := 8) (by decide) wd_356 rfl (kd := 2) rfl rfl hdg kk
theorem gf_X0_33 (cx : CX wd_C g p s m args c cc nL RX0) (hw : HH wd_C g s S H locs) {k : Nat} (hk : hs wd_C g k 0) (hdg : decode cc pc = .ok (.getfield 33, 3)) (kk : W p l e R s m args below meth c H locs cells slots Q (F0 m (pc + 3) ls (.ref (gg_o g (st_P S (ky k 0))) :: rest))) : W p l e R s m args below meth c H locs cells slots Q (F0 m pc ls (.ref (gg_o g k) :: rest)) := r_get cx hw hk.2.1 hk.1 (C := RX0) (T := TX0) (N := 9) rfl in_X0 (f := 0) (by decide) wd_347 rfl (kd := 5) rfl rfl hdg kk
theorem pf_X0_33 {α β : Type} {A : St → Option α} {K : α → Option β} {r : β} (cx : CX wd_C g p s m args c cc nL RX0) (hw : HH wd_C g s S H locs) {k : Nat} (hk : hs wd_C g k 0) {x : Nat} (hf : (lt_v (up_P S (ky k 0) x) A).bind K = some r) (hdg : decode cc pc = .ok (.putfield 33, 3)) (kk : ∀ (S1 : St) (H1 : Heap) (locs1 : List Loc), HH wd_C g s S1 H1 locs1 → (A S1).bind K = some r → W p l e R s m args below meth c H1 locs1 cells slots Q (F0 m (pc + 3) ls rest)) : W p l e R s m args below meth c H locs cells slots Q (F0 m pc ls (.ref (gg_o g x) :: .ref (gg_o g k) :: rest)) := r_putP cx hw hk.2.1 hk.1 (C := RX0) (T := TX0) (N := 9) rfl in_X0 tyX0 tyX0_ok nmX0 (f := 0) (by decide) wd_347 rfl rfl (D := "LateMirrors$Text") (by decide +kernel) rfl hf hdg kk
theorem gf_X0_41 (cx : CX wd_C g p s m args c cc nL RX0) (hw : HH wd_C g s S H locs) {k : Nat} (hk : hs wd_C g k 0) (hdg : decode cc pc = .ok (.getfield 41, 3)) (kk : W p l e R s m args below meth c H locs cells slots Q (F0 m (pc + 3) ls (.int (st_I S (ky k 1)) :: rest))) : W p l e R s m args below meth c H locs cells slots Q (F0 m pc ls (.ref (gg_o g k) :: rest)) := r_get cx hw hk.2.1 hk.1 (C := RX0) (T := TX0) (N := 9) rfl in_X0 (f := 1) (by decide) wd_348 rfl (kd := 0) rfl rfl hdg kk
theorem pf_X0_41 {α β : Type} {A : St → Option α} {K : α → Option β} {r : β} (cx : CX wd_C g p s m args c cc nL RX0) (hw : HH wd_C g s S H locs) {k : Nat} (hk : hs wd_C g k 0) {x : Int32} (hf : (lt_v (up_I S (ky k 1) x) A).bind K = some r) (hdg : decode cc pc = .ok (.putfield 41, 3)) (kk : ∀ (S1 : St) (H1 : Heap) (locs1 : List Loc), HH wd_C g s S1 H1 locs1 → (A S1).bind K = some r → W p l e R s m args below meth c H1 locs1 cells slots Q (F0 m (pc + 3) ls rest)) : W p l e R s m args below meth c H locs cells slots Q (F0 m pc ls (.int x :: .ref (gg_o g k) :: rest)) := r_putI cx hw hk.2.1 hk.1 (C := RX0) (T := TX0) (N := 9) rfl in_X0 tyX0 tyX0_ok nmX0 (f := 1) (by decide) wd_348 rfl rfl (ty := .int) (by decide +kernel) rfl rfl rfl hf hdg kk
theorem gf_X0_45 (cx : CX wd_C g p s m args c cc nL RX0) (hw : HH wd_C g s S H locs) {k : Nat} (hk : hs wd_C g k 4) (hdg : decode cc pc = .ok (.getfield 45, 3)) (kk : W p l e R s m args below meth c H locs cells slots Q (F0 m (pc + 3) ls (.ref (gg_a g (ky k 9)) :: rest))) : W p l e R s m args below meth c H locs cells slots Q (F0 m pc ls (.ref (gg_o g k) :: rest)) := r_getN cx hw hk.2.1 hk.1 (C := RX4) (T := TX4) (N := 19) rfl in_X4 (f := 9) (by decide) (nw_at cx _ wd_221) rfl (kd := 2) rfl rfl hdg kk
theorem gf_X0_54 (cx : CX wd_C g p s m args c cc nL RX0) (hw : HH wd_C g s S H locs) {k : Nat} (hk : hs wd_C g k 4) (hdg : decode cc pc = .ok (.getfield 54, 3)) (kk : W p l e R s m args below meth c H locs cells slots Q (F0 m (pc + 3) ls (.ref (gg_a g (ky k 8)) :: rest))) : W p l e R s m args below meth c H locs cells slots Q (F0 m pc ls (.ref (gg_o g k) :: rest)) := r_getN cx hw hk.2.1 hk.1 (C := RX4) (T := TX4) (N := 19) rfl in_X4 (f := 8) (by decide) (nw_at cx _ wd_219) rfl (kd := 2) rfl rfl hdg kk
theorem gf_X0_57 (cx : CX wd_C g p s m args c cc nL RX0) (hw : HH wd_C g s S H locs) {k : Nat} (hk : hs wd_C g k 4) (hdg : decode cc pc = .ok (.getfield 57, 3)) (kk : W p l e R s m args below meth c H locs cells slots Q (F0 m (pc + 3) ls (.ref (gg_a g (ky k 11)) :: rest))) : W p l e R s m args below meth c H locs cells slots Q (F0 m pc ls (.ref (gg_o g k) :: rest)) := r_getN cx hw hk.2.1 hk.1 (C := RX4) (T := TX4) (N := 19) rfl in_X4 (f := 11) (by decide) (nw_at cx _ wd_225) rfl (kd := 2) rfl rfl hdg kk
theorem gf_X0_76 (cx : CX wd_C g p s m args c cc nL RX0) (hw : HH wd_C g s S H locs) {k : Nat} (hk : hs wd_C g k 4) (hdg : decode cc pc = .ok (.getfield 76, 3)) (kk : W p l e R s m args below meth c H locs cells slots Q (F0 m (pc + 3) ls (.int (st_I S (ky k 3)) :: rest))) : W p l e R s m args below meth c H locs cells slots Q (F0 m pc ls (.ref (gg_o g k) :: rest)) := r_getN cx hw hk.2.1 hk.1 (C := RX4) (T := TX4) (N := 19) rfl in_X4 (f := 3) (by decide) (nw_at cx _ wd_209) rfl (kd := 0) rfl rfl hdg kk
theorem gf_X0_82 (cx : CX wd_C g p s m args c cc nL RX0) (hw : HH wd_C g s S H locs) {k : Nat} (hk : hs wd_C g k 4) (hdg : decode cc pc = .ok (.getfield 82, 3)) (kk : W p l e R s m args below meth c H locs cells slots Q (F0 m (pc + 3) ls (.int (st_I S (ky k 2)) :: rest))) : W p l e R s m args below meth c H locs cells slots Q (F0 m pc ls (.ref (gg_o g k) :: rest)) := r_getN cx hw hk.2.1 hk.1 (C := RX4) (T := TX4) (N := 19) rfl in_X4 (f := 2) (by decide) (nw_at cx _ wd_206) rfl (kd := 0) rfl rfl hdg kk
theorem gf_X0_119 (cx : CX wd_C g p s m args c cc nL RX0) (hw : HH wd_C g s S H locs) {k : Nat} (hk : hs wd_C g k 4) (hdg : decode cc pc = .ok (.getfield 119, 3)) (kk : W p l e R s m args below meth c H locs cells slots Q (F0 m (pc + 3) ls (.ref (gg_o g (k + 2)) :: rest))) : W p l e R s m args below meth c H locs cells slots Q (F0 m pc ls (.ref (gg_o g k) :: rest)) := r_getN cx hw hk.2.1 hk.1 (C := RX4) (T := TX4) (N := 19) rfl in_X4 (f := 16) (by decide) (nw_at cx _ wd_231) rfl (kd := 202) rfl rfl hdg kk
theorem gf_X0_132 (cx : CX wd_C g p s m args c cc nL RX0) (hw : HH wd_C g s S H locs) {k : Nat} (hk : hs wd_C g k 4) (hdg : decode cc pc = .ok (.getfield 132, 3)) (kk : W p l e R s m args below meth c H locs cells slots Q (F0 m (pc + 3) ls (.int (st_I S (ky k 6)) :: rest))) : W p l e R s m args below meth c H locs cells slots Q (F0 m pc ls (.ref (gg_o g k) :: rest)) := r_getN cx hw hk.2.1 hk.1 (C := RX4) (T := TX4) (N := 19) rfl in_X4 (f := 6) (by decide) (nw_at cx _ wd_216) rfl (kd := 0) rfl rfl hdg kk
theorem gf_X0_149 (cx : CX wd_C g p s m args c cc nL RX0) (hw : HH wd_C g s S H locs) {k : Nat} (hk : hs wd_C g k 4) (hdg : decode cc pc = .ok (.getfield 149, 3)) (kk : W p l e R s m args below meth c H locs cells slots Q (F0 m (pc + 3) ls (.int (st_I S (ky k 5)) :: rest))) : W p l e R s m args below meth c H locs cells slots Q (F0 m pc ls (.ref (gg_o g k) :: rest)) := r_getN cx hw hk.2.1 hk.1 (C := RX4) (T := TX4) (N := 19) rfl in_X4 (f := 5) (by decide) (nw_at cx _ wd_213) rfl (kd := 0) rfl rfl hdg kk
theorem gf_X0_166 (cx : CX wd_C g p s m args c cc nL RX0) (hw : HH wd_C g s S H locs) {k : Nat} (hk : hs wd_C g k 4) (hdg : decode cc pc = .ok (.getfield 166, 3)) (kk : W p l e R s m args below meth c H locs cells slots Q (F0 m (pc + 3) ls (.ref (gg_a g (ky k 10)) :: rest))) : W p l e R s m args below meth c H locs cells slots Q (F0 m pc ls (.ref (gg_o g k) :: rest)) := r_getN cx hw hk.2.1 hk.1 (C := RX4) (T := TX4) (N := 19) rfl in_X4 (f := 10) (by decide) (nw_at cx _ wd_223) rfl (kd := 2) rfl rfl hdg kk
theorem gf_X1_9 (cx : CX wd_C g p s m args c cc nL RX1) (hw : HH wd_C g s S H locs) {k : Nat} (hk : hs wd_C g k 1) (hdg : decode cc pc = .ok (.getfield 9, 3)) (kk : W p l e R s m args below meth c H locs cells slots Q (F0 m (pc + 3) ls (.ref (gg_a g (ky k 0)) :: rest))) : W p l e R s m args below meth c H locs cells slots Q (F0 m pc ls (.ref (gg_o g k) :: rest)) := r_get cx hw hk.2.1 hk.1 (C := RX1) (T := TX1) (N := 7) rfl in_X1 (f := 0) (by decide) wd_163 rfl (kd := 2) rfl rfl hdg kk
theorem gf_X1_13 (cx : CX wd_C g p s m args c cc nL RX1) (hw : HH wd_C g s S H locs) {k : Nat} (hk : hs wd_C g k 1) (hdg : decode cc pc = .ok (.getfield 13, 3)) (kk : W p l e R s m args below meth c H locs cells slots Q (F0 m (pc + 3) ls (.ref (gg_a g (ky k 1)) :: rest))) : W p l e R s m args below meth c H locs cells slots Q (F0 m pc ls (.ref (gg_o g k) :: rest)) := r_get cx hw hk.2.1 hk.1 (C := RX1) (T := TX1) (N := 7) rfl in_X1 (f := 1) (by decide) wd_164 rfl (kd := 2) rfl rfl hdg kk
theorem gf_X1_16 (cx : CX wd_C g p s m args c cc nL RX1) (hw : HH wd_C g s S H locs) {k : Nat} (hk : hs wd_C g k 1) (hdg : decode cc pc = .ok (.getfield 16, 3)) (kk : W p l e R s m args below meth c H locs cells slots Q (F0 m (pc + 3) ls (.ref (gg_a g (ky k 3)) :: rest))) : W p l e R s m args below meth c H locs cells slots Q (F0 m pc ls (.ref (gg_o g k) :: rest)) := r_get cx hw hk.2.1 hk.1 (C := RX1) (T := TX1) (N := 7) rfl in_X1 (f := 3) (by decide) wd_167 rfl (kd := 2) rfl rfl hdg kk
theorem gf_X1_19 (cx : CX wd_C g p s m args c cc nL RX1) (hw : HH wd_C g s S H locs) {k : Nat} (hk : hs wd_C g k 1) (hdg : decode cc pc = .ok (.getfield 19, 3)) (kk : W p l e R s m args below meth c H locs cells slots Q (F0 m (pc + 3) ls (.ref (gg_a g (ky k 5)) :: rest))) : W p l e R s m args below meth c H locs cells slots Q (F0 m pc ls (.ref (gg_o g k) :: rest)) := r_get cx hw hk.2.1 hk.1 (C := RX1) (T := TX1) (N := 7) rfl in_X1 (f := 5) (by decide) wd_169 rfl (kd := 2) rfl rfl hdg kk
theorem gf_X1_22 (cx : CX wd_C g p s m args c cc nL RX1) (hw : HH wd_C g s S H locs) {k : Nat} (hk : hs wd_C g k 1) (hdg : decode cc pc = .ok (.getfield 22, 3)) (kk : W p l e R s m args below meth c H locs cells slots Q (F0 m (pc + 3) ls (.ref (gg_a g (ky k 6)) :: rest))) : W p l e R s m args below meth c H locs cells slots Q (F0 m pc ls (.ref (gg_o g k) :: rest)) := r_get cx hw hk.2.1 hk.1 (C := RX1) (T := TX1) (N := 7) rfl in_X1 (f := 6) (by decide) wd_170 rfl (kd := 2) rfl rfl hdg kk
theorem gf_X1_25 (cx : CX wd_C g p s m args c cc nL RX1) (hw : HH wd_C g s S H locs) {k : Nat} (hk : hs wd_C g k 1) (hdg : decode cc pc = .ok (.getfield 25, 3)) (kk : W p l e R s m args below meth c H locs cells slots Q (F0 m (pc + 3) ls (.int (st_I S (ky k 2)) :: rest))) : W p l e R s m args below meth c H locs cells slots Q (F0 m pc ls (.ref (gg_o g k) :: rest)) := r_get cx hw hk.2.1 hk.1 (C := RX1) (T := TX1) (N := 7) rfl in_X1 (f := 2) (by decide) wd_165 rfl (kd := 0) rfl rfl hdg kk
theorem pf_X1_25 {α β : Type} {A : St → Option α} {K : α → Option β} {r : β} (cx : CX wd_C g p s m args c cc nL RX1) (hw : HH wd_C g s S H locs) {k : Nat} (hk : hs wd_C g k 1) {x : Int32} (hf : (lt_v (up_I S (ky k 2) x) A).bind K = some r) (hdg : decode cc pc = .ok (.putfield 25, 3)) (kk : ∀ (S1 : St) (H1 : Heap) (locs1 : List Loc), HH wd_C g s S1 H1 locs1 → (A S1).bind K = some r → W p l e R s m args below meth c H1 locs1 cells slots Q (F0 m (pc + 3) ls rest)) : W p l e R s m args below meth c H locs cells slots Q (F0 m pc ls (.int x :: .ref (gg_o g k) :: rest)) := r_putI cx hw hk.2.1 hk.1 (C := RX1) (T := TX1) (N := 7) rfl in_X1 tyX1 tyX1_ok nmX1 (f := 2) (by decide) wd_165 rfl rfl (ty := .int) (by decide +kernel) rfl rfl rfl hf hdg kk
theorem gf_X1_39 (cx : CX wd_C g p s m args c cc nL RX1) (hw : HH wd_C g s S H locs) {k : Nat} (hk : hs wd_C g k 1) (hdg : decode cc pc = .ok (.getfield 39, 3)) (kk : W p l e R s m args below meth c H locs cells slots Q (F0 m (pc + 3) ls (.int (st_I S (ky k 4)) :: rest))) : W p l e R s m args below meth c H locs cells slots Q (F0 m pc ls (.ref (gg_o g k) :: rest)) := r_get cx hw hk.2.1 hk.1 (C := RX1) (T := TX1) (N := 7) rfl in_X1 (f := 4) (by decide) wd_168 rfl (kd := 0) rfl rfl hdg kk
theorem pf_X1_39 {α β : Type} {A : St → Option α} {K : α → Option β} {r : β} (cx : CX wd_C g p s m args c cc nL RX1) (hw : HH wd_C g s S H locs) {k : Nat} (hk : hs wd_C g k 1) {x : Int32} (hf : (lt_v (up_I S (ky k 4) x) A).bind K = some r) (hdg : decode cc pc = .ok (.putfield 39, 3)) (kk : ∀ (S1 : St) (H1 : Heap) (locs1 : List Loc), HH wd_C g s S1 H1 locs1 → (A S1).bind K = some r → W p l e R s m args below meth c H1 locs1 cells slots Q (F0 m (pc + 3) ls rest)) : W p l e R s m args below meth c H locs cells slots Q (F0 m pc ls (.int x :: .ref (gg_o g k) :: rest)) := r_putI cx hw hk.2.1 hk.1 (C := RX1) (T := TX1) (N := 7) rfl in_X1 tyX1 tyX1_ok nmX1 (f := 4) (by decide) wd_168 rfl rfl (ty := .int) (by decide +kernel) rfl rfl rfl hf hdg kk
theorem gf_X1_42 (cx : CX wd_C g p s m args c cc nL RX1) (hw : HH wd_C g s S H locs) {k : Nat} (hk : hs wd_C g k 3) (hdg : decode cc pc = .ok (.getfield 42, 3)) (kk : W p l e R s m args below meth c H locs cells slots Q (F0 m (pc + 3) ls (.int (st_I S (ky k 4)) :: rest))) : W p l e R s m args below meth c H locs cells slots Q (F0 m pc ls (.ref (gg_o g k) :: rest)) := r_getN cx hw hk.2.1 hk.1 (C := RX3) (T := TX3) (N := 15) rfl in_X3 (f := 4) (by decide) (nw_at cx _ wd_104) rfl (kd := 0) rfl rfl hdg kk
theorem gf_X1_45 (cx : CX wd_C g p s m args c cc nL RX1) (hw : HH wd_C g s S H locs) {k : Nat} (hk : hs wd_C g k 3) (hdg : decode cc pc = .ok (.getfield 45, 3)) (kk : W p l e R s m args below meth c H locs cells slots Q (F0 m (pc + 3) ls (.ref (gg_a g (ky k 1)) :: rest))) : W p l e R s m args below meth c H locs cells slots Q (F0 m pc ls (.ref (gg_o g k) :: rest)) := r_getN cx hw hk.2.1 hk.1 (C := RX3) (T := TX3) (N := 15) rfl in_X3 (f := 1) (by decide) (nw_at cx _ wd_97) rfl (kd := 2) rfl rfl hdg kk
theorem gf_X1_52 (cx : CX wd_C g p s m args c cc nL RX1) (hw : HH wd_C g s S H locs) {k : Nat} (hk : hs wd_C g k 3) (hdg : decode cc pc = .ok (.getfield 52, 3)) (kk : W p l e R s m args below meth c H locs cells slots Q (F0 m (pc + 3) ls (.ref (gg_l g (ky k 3)) :: rest))) : W p l e R s m args below meth c H locs cells slots Q (F0 m pc ls (.ref (gg_o g k) :: rest)) := r_getN cx hw hk.2.1 hk.1 (C := RX3) (T := TX3) (N := 15) rfl in_X3 (f := 3) (by decide) (nw_at cx _ wd_101) rfl (kd := 3) rfl rfl hdg kk
theorem gf_X2_11 (cx : CX wd_C g p s m args c cc nL RX2) (hw : HH wd_C g s S H locs) {k : Nat} (hk : hs wd_C g k 2) (hdg : decode cc pc = .ok (.getfield 11, 3)) (kk : W p l e R s m args below meth c H locs cells slots Q (F0 m (pc + 3) ls (.ref (gg_a g (ky k 0)) :: rest))) : W p l e R s m args below meth c H locs cells slots Q (F0 m pc ls (.ref (gg_o g k) :: rest)) := r_get cx hw hk.2.1 hk.1 (C := RX2) (T := TX2) (N := 3) rfl in_X2 (f := 0) (by decide) wd_382 rfl (kd := 2) rfl rfl hdg kk
theorem gf_X2_17 (cx : CX wd_C g p s m args c cc nL RX2) (hw : HH wd_C g s S H locs) {k : Nat} (hk : hs wd_C g k 2) (hdg : decode cc pc = .ok (.getfield 17, 3)) (kk : W p l e R s m args below meth c H locs cells slots Q (F0 m (pc + 3) ls (.int (st_I S (ky k 2)) :: rest))) : W p l e R s m args below meth c H locs cells slots Q (F0 m pc ls (.ref (gg_o g k) :: rest)) := r_get cx hw hk.2.1 hk.1 (C := RX2) (T := TX2) (N := 3) rfl in_X2 (f := 2) (by decide) wd_384 rfl (kd := 0) rfl rfl hdg kk
theorem pf_X2_17 {α β : Type} {A : St → Option α} {K : α → Option β} {r : β} (cx : CX wd_C g p s m args c cc nL RX2) (hw : HH wd_C g s S H locs) {k : Nat} (hk : hs wd_C g k 2) {x : Int32} (hf : (lt_v (up_I S (ky k 2) x) A).bind K = some r) (hdg : decode cc pc = .ok (.putfield 17, 3)) (kk : ∀ (S1 : St) (H1 : Heap) (locs1 : List Loc), HH wd_C g s S1 H1 locs1 → (A S1).bind K = some r → W p l e R s m args below meth c H1 locs1 cells slots Q (F0 m (pc + 3) ls rest)) : W p l e R s m args below meth c H locs cells slots Q (F0 m pc ls (.int x :: .ref (gg_o g k) :: rest)) := r_putI cx hw hk.2.1 hk.1 (C := RX2) (T := TX2) (N := 3) rfl in_X2 tyX2 tyX2_ok nmX2 (f := 2) (by decide) wd_384 rfl rfl (ty := .int) (by decide +kernel) rfl rfl rfl hf hdg kk
theorem gf_X2_21 (cx : CX wd_C g p s m args c cc nL RX2) (hw : HH wd_C g s S H locs) {k : Nat} (hk : hs wd_C g k 2) (hdg : decode cc pc = .ok (.getfield 21, 3)) (kk : W p l e R s m args below meth c H locs cells slots Q (F0 m (pc + 3) ls (.int (st_I S (ky k 1)) :: rest))) : W p l e R s m args below meth c H locs cells slots Q (F0 m pc ls (.ref (gg_o g k) :: rest)) := r_get cx hw hk.2.1 hk.1 (C := RX2) (T := TX2) (N := 3) rfl in_X2 (f := 1) (by decide) wd_383 rfl (kd := 0) rfl rfl hdg kk
theorem pf_X2_21 {α β : Type} {A : St → Option α} {K : α → Option β} {r : β} (cx : CX wd_C g p s m args c cc nL RX2) (hw : HH wd_C g s S H locs) {k : Nat} (hk : hs wd_C g k 2) {x : Int32} (hf : (lt_v (up_I S (ky k 1) x) A).bind K = some r) (hdg : decode cc pc = .ok (.putfield 21, 3)) (kk : ∀ (S1 : St) (H1 : Heap) (locs1 : List Loc), HH wd_C g s S1 H1 locs1 → (A S1).bind K = some r → W p l e R s m args below meth c H1 locs1 cells slots Q (F0 m (pc + 3) ls rest)) : W p l e R s m args below meth c H locs cells slots Q (F0 m pc ls (.int x :: .ref (gg_o g k) :: rest)) := r_putI cx hw hk.2.1 hk.1 (C := RX2) (T := TX2) (N := 3) rfl in_X2 tyX2 tyX2_ok nmX2 (f := 1) (by decide) wd_383 rfl rfl (ty := .int) (by decide +kernel) rfl rfl rfl hf hdg kk
theorem gf_X3_11 (cx : CX wd_C g p s m args c cc nL RX3) (hw : HH wd_C g s S H locs) {k : Nat} (hk : hs wd_C g k 3) (hdg : decode cc pc = .ok (.getfield 11, 3)) (kk : W p l e R s m args below meth c H locs cells slots Q (F0 m (pc + 3) ls (.ref (gg_l g (ky k 0)) :: rest))) : W p l e R s m args below meth c H locs cells slots Q (F0 m pc ls (.ref (gg_o g k) :: rest)) := r_get cx hw hk.2.1 hk.1 (C := RX3) (T := TX3) (N := 15) rfl in_X3 (f := 0) (by decide) wd_94 rfl (kd := 3) rfl rfl hdg kk
theorem gf_X3_15 (cx : CX wd_C g p s m args c cc nL RX3) (hw : HH wd_C g s S H locs) {k : Nat} (hk : hs wd_C g k 3) (hdg : decode cc pc = .ok (.getfield 15, 3)) (kk : W p l e R s m args below meth c H locs cells slots Q (F0 m (pc + 3) ls (.ref (gg_a g (ky k 1)) :: rest))) : W p l e R s m args below meth c H locs cells slots Q (F0 m pc ls (.ref (gg_o g k) :: rest)) := r_get cx hw hk.2.1 hk.1 (C := RX3) (T := TX3) (N := 15) rfl in_X3 (f := 1) (by decide) wd_95 rfl (kd := 2) rfl rfl hdg kk
theorem gf_X3_19 (cx : CX wd_C g p s m args c cc nL RX3) (hw : HH wd_C g s S H locs) {k : Nat} (hk : hs wd_C g k 3) (hdg : decode cc pc = .ok (.getfield 19, 3)) (kk : W p l e R s m args below meth c H locs cells slots Q (F0 m (pc + 3) ls (.ref (gg_a g (ky k 2)) :: rest))) : W p l e R s m args below meth c H locs cells slots Q (F0 m pc ls (.ref (gg_o g k) :: rest)) := r_get cx hw hk.2.1 hk.1 (C := RX3) (T := TX3) (N := 15) rfl in_X3 (f := 2) (by decide) wd_98 rfl (kd := 2) rfl rfl hdg kk
theorem gf_X3_22 (cx : CX wd_C g p s m args c cc nL RX3) (hw : HH wd_C g s S H locs) {k : Nat} (hk : hs wd_C g k 3) (hdg : decode cc pc = .ok (.getfield 22, 3)) (kk : W p l e R s m args below meth c H locs cells slots Q (F0 m (pc + 3) ls (.ref (gg_l g (ky k 3)) :: rest))) : W p l e R s m args below meth c H locs cells slots Q (F0 m pc ls (.ref (gg_o g k) :: rest)) := r_get cx hw hk.2.1 hk.1 (C := RX3) (T := TX3) (N := 15) rfl in_X3 (f := 3) (by decide) wd_100 rfl (kd := 3) rfl rfl hdg kk
theorem pf_X3_25 {α β : Type} {A : St → Option α} {K : α → Option β} {r : β} (cx : CX wd_C g p s m args c cc nL RX3) (hw : HH wd_C g s S H locs) {k : Nat} (hk : hs wd_C g k 3) {x : Int32} (hf : (lt_v (up_I S (ky k 5) x) A).bind K = some r) (hdg : decode cc pc = .ok (.putfield 25, 3)) (kk : ∀ (S1 : St) (H1 : Heap) (locs1 : List Loc), HH wd_C g s S1 H1 locs1 → (A S1).bind K = some r → W p l e R s m args below meth c H1 locs1 cells slots Q (F0 m (pc + 3) ls rest)) : W p l e R s m args below meth c H locs cells slots Q (F0 m pc ls (.int x :: .ref (gg_o g k) :: rest)) := r_putI cx hw hk.2.1 hk.1 (C := RX3) (T := TX3) (N := 15) rfl in_X3 tyX3 tyX3_ok nmX3 (f := 5) (by decide) wd_106 rfl rfl (ty := .int) (by decide +kernel) rfl rfl rfl hf hdg kk
theorem gf_X3_32 (cx : CX wd_C g p s m args c cc nL RX3) (hw : HH wd_C g s S H locs) {k : Nat} (hk : hs wd_C g k 3) (hdg : decode cc pc = .ok (.getfield 32, 3)) (kk : W p l e R s m args below meth c H locs cells slots Q (F0 m (pc + 3) ls (.ref (gg_a g (ky k 7)) :: rest))) : W p l e R s m args below meth c H locs cells slots Q (F0 m pc ls (.ref (gg_o g k) :: rest)) := r_get cx hw hk.2.1 hk.1 (C := RX3) (T := TX3) (N := 15) rfl in_X3 (f := 7) (by decide) wd_109 rfl (kd := 2) rfl rfl hdg kk
theorem gf_X3_95 (cx : CX wd_C g p s m args c cc nL RX3) (hw : HH wd_C g s S H locs) {k : Nat} (hk : hs wd_C g k 3) (hdg : decode cc pc = .ok (.getfield 95, 3)) (kk : W p l e R s m args below meth c H locs cells slots Q (F0 m (pc + 3) ls (.int (st_I S (ky k 8)) :: rest))) : W p l e R s m args below meth c H locs cells slots Q (F0 m pc ls (.ref (gg_o g k) :: rest)) := r_get cx hw hk.2.1 hk.1 (C := RX3) (T := TX3) (N := 15) rfl in_X3 (f := 8) (by decide) wd_110 rfl (kd := 0) rfl rfl hdg kk
theorem pf_X3_95 {α β : Type} {A : St → Option α} {K : α → Option β} {r : β} (cx : CX wd_C g p s m args c cc nL RX3) (hw : HH wd_C g s S H locs) {k : Nat} (hk : hs wd_C g k 3) {x : Int32} (hf : (lt_v (up_I S (ky k 8) x) A).bind K = some r) (hdg : decode cc pc = .ok (.putfield 95, 3)) (kk : ∀ (S1 : St) (H1 : Heap) (locs1 : List Loc), HH wd_C g s S1 H1 locs1 → (A S1).bind K = some r → W p l e R s m args below meth c H1 locs1 cells slots Q (F0 m (pc + 3) ls rest)) : W p l e R s m args below meth c H locs cells slots Q (F0 m pc ls (.int x :: .ref (gg_o g k) :: rest)) := r_putI cx hw hk.2.1 hk.1 (C := RX3) (T := TX3) (N := 15) rfl in_X3 tyX3 tyX3_ok nmX3 (f := 8) (by decide) wd_110 rfl rfl (ty := .int) (by decide +kernel) rfl rfl rfl hf hdg kk
theorem gf_X3_98 (cx : CX wd_C g p s m args c cc nL RX3) (hw : HH wd_C g s S H locs) {k : Nat} (hk : hs wd_C g k 3) (hdg : decode cc pc = .ok (.getfield 98, 3)) (kk : W p l e R s m args below meth c H locs cells slots Q (F0 m (pc + 3) ls (.int (st_I S (ky k 4)) :: rest))) : W p l e R s m args below meth c H locs cells slots Q (F0 m pc ls (.ref (gg_o g k) :: rest)) := r_get cx hw hk.2.1 hk.1 (C := RX3) (T := TX3) (N := 15) rfl in_X3 (f := 4) (by decide) wd_105 rfl (kd := 0) rfl rfl hdg kk
theorem pf_X3_98 {α β : Type} {A : St → Option α} {K : α → Option β} {r : β} (cx : CX wd_C g p s m args c cc nL RX3) (hw : HH wd_C g s S H locs) {k : Nat} (hk : hs wd_C g k 3) {x : Int32} (hf : (lt_v (up_I S (ky k 4) x) A).bind K = some r) (hdg : decode cc pc = .ok (.putfield 98, 3)) (kk : ∀ (S1 : St) (H1 : Heap) (locs1 : List Loc), HH wd_C g s S1 H1 locs1 → (A S1).bind K = some r → W p l e R s m args below meth c H1 locs1 cells slots Q (F0 m (pc + 3) ls rest)) : W p l e R s m args below meth c H locs cells slots Q (F0 m pc ls (.int x :: .ref (gg_o g k) :: rest)) := r_putI cx hw hk.2.1 hk.1 (C := RX3) (T := TX3) (N := 15) rfl in_X3 tyX3 tyX3_ok nmX3 (f := 4) (by decide) wd_105 rfl rfl (ty := .int) (by decide +kernel) rfl rfl rfl hf hdg kk
theorem gf_X3_105 (cx : CX wd_C g p s m args c cc nL RX3) (hw : HH wd_C g s S H locs) {k : Nat} (hk : hs wd_C g k 3) (hdg : decode cc pc = .ok (.getfield 105, 3)) (kk : W p l e R s m args below meth c H locs cells slots Q (F0 m (pc + 3) ls (.long (st_J S (ky k 6)) :: rest))) : W p l e R s m args below meth c H locs cells slots Q (F0 m pc ls (.ref (gg_o g k) :: rest)) := r_get cx hw hk.2.1 hk.1 (C := RX3) (T := TX3) (N := 15) rfl in_X3 (f := 6) (by decide) wd_108 rfl (kd := 1) rfl rfl hdg kk
theorem pf_X3_105 {α β : Type} {A : St → Option α} {K : α → Option β} {r : β} (cx : CX wd_C g p s m args c cc nL RX3) (hw : HH wd_C g s S H locs) {k : Nat} (hk : hs wd_C g k 3) {x : Int64} (hf : (lt_v (up_J S (ky k 6) x) A).bind K = some r) (hdg : decode cc pc = .ok (.putfield 105, 3)) (kk : ∀ (S1 : St) (H1 : Heap) (locs1 : List Loc), HH wd_C g s S1 H1 locs1 → (A S1).bind K = some r → W p l e R s m args below meth c H1 locs1 cells slots Q (F0 m (pc + 3) ls rest)) : W p l e R s m args below meth c H locs cells slots Q (F0 m pc ls (.long x :: .ref (gg_o g k) :: rest)) := r_putJ cx hw hk.2.1 hk.1 (C := RX3) (T := TX3) (N := 15) rfl in_X3 tyX3 tyX3_ok nmX3 (f := 6) (by decide) wd_108 rfl rfl (by decide +kernel) rfl hf hdg kk
theorem gf_X3_158 (cx : CX wd_C g p s m args c cc nL RX3) (hw : HH wd_C g s S H locs) {k : Nat} (hk : hs wd_C g k 3) (hdg : decode cc pc = .ok (.getfield 158, 3)) (kk : W p l e R s m args below meth c H locs cells slots Q (F0 m (pc + 3) ls (.int (st_I S (ky k 9)) :: rest))) : W p l e R s m args below meth c H locs cells slots Q (F0 m pc ls (.ref (gg_o g k) :: rest)) := r_get cx hw hk.2.1 hk.1 (C := RX3) (T := TX3) (N := 15) rfl in_X3 (f := 9) (by decide) wd_111 rfl (kd := 0) rfl rfl hdg kk
theorem pf_X3_158 {α β : Type} {A : St → Option α} {K : α → Option β} {r : β} (cx : CX wd_C g p s m args c cc nL RX3) (hw : HH wd_C g s S H locs) {k : Nat} (hk : hs wd_C g k 3) {x : Int32} (hf : (lt_v (up_I S (ky k 9) x) A).bind K = some r) (hdg : decode cc pc = .ok (.putfield 158, 3)) (kk : ∀ (S1 : St) (H1 : Heap) (locs1 : List Loc), HH wd_C g s S1 H1 locs1 → (A S1).bind K = some r → W p l e R s m args below meth c H1 locs1 cells slots Q (F0 m (pc + 3) ls rest)) : W p l e R s m args below meth c H locs cells slots Q (F0 m pc ls (.int x :: .ref (gg_o g k) :: rest)) := r_putI cx hw hk.2.1 hk.1 (C := RX3) (T := TX3) (N := 15) rfl in_X3 tyX3 tyX3_ok nmX3 (f := 9) (by decide) wd_111 rfl rfl (ty := .int) (by decide +kernel) rfl rfl rfl hf hdg kk
theorem gf_X3_168 (cx : CX wd_C g p s m args c cc nL RX3) (hw : HH wd_C g s S H locs) {k : Nat} (hk : hs wd_C g k 3) (hdg : decode cc pc = .ok (.getfield 168, 3)) (kk : W p l e R s m args below meth c H locs cells slots Q (F0 m (pc + 3) ls (.int (st_I S (ky k 10)) :: rest))) : W p l e R s m args below meth c H locs cells slots Q (F0 m pc ls (.ref (gg_o g k) :: rest)) := r_get cx hw hk.2.1 hk.1 (C := RX3) (T := TX3) (N := 15) rfl in_X3 (f := 10) (by decide) wd_112 rfl (kd := 0) rfl rfl hdg kk
theorem pf_X3_168 {α β : Type} {A : St → Option α} {K : α → Option β} {r : β} (cx : CX wd_C g p s m args c cc nL RX3) (hw : HH wd_C g s S H locs) {k : Nat} (hk : hs wd_C g k 3) {x : Int32} (hf : (lt_v (up_I S (ky k 10) x) A).bind K = some r) (hdg : decode cc pc = .ok (.putfield 168, 3)) (kk : ∀ (S1 : St) (H1 : Heap) (locs1 : List Loc), HH wd_C g s S1 H1 locs1 → (A S1).bind K = some r → W p l e R s m args below meth c H1 locs1 cells slots Q (F0 m (pc + 3) ls rest)) : W p l e R s m args below meth c H locs cells slots Q (F0 m pc ls (.int x :: .ref (gg_o g k) :: rest)) := r_putI cx hw hk.2.1 hk.1 (C := RX3) (T := TX3) (N := 15) rfl in_X3 tyX3 tyX3_ok nmX3 (f := 10) (by decide) wd_112 rfl rfl (ty := .int) (by decide +kernel) rfl rfl rfl hf hdg kk
theorem gf_X3_171 (cx : CX wd_C g p s m args c cc nL RX3) (hw : HH wd_C g s S H locs) {k : Nat} (hk : hs wd_C g k 3) (hdg : decode cc pc = .ok (.getfield 171, 3)) (kk : W p l e R s m args below meth c H locs cells slots Q (F0 m (pc + 3) ls (.int (st_I S (ky k 13)) :: rest))) : W p l e R s m args below meth c H locs cells slots Q (F0 m pc ls (.ref (gg_o g k) :: rest)) := r_get cx hw hk.2.1 hk.1 (C := RX3) (T := TX3) (N := 15) rfl in_X3 (f := 13) (by decide) wd_115 rfl (kd := 0) rfl rfl hdg kk
theorem pf_X3_171 {α β : Type} {A : St → Option α} {K : α → Option β} {r : β} (cx : CX wd_C g p s m args c cc nL RX3) (hw : HH wd_C g s S H locs) {k : Nat} (hk : hs wd_C g k 3) {x : Int32} (hf : (lt_v (up_I S (ky k 13) x) A).bind K = some r) (hdg : decode cc pc = .ok (.putfield 171, 3)) (kk : ∀ (S1 : St) (H1 : Heap) (locs1 : List Loc), HH wd_C g s S1 H1 locs1 → (A S1).bind K = some r → W p l e R s m args below meth c H1 locs1 cells slots Q (F0 m (pc + 3) ls rest)) : W p l e R s m args below meth c H locs cells slots Q (F0 m pc ls (.int x :: .ref (gg_o g k) :: rest)) := r_putI cx hw hk.2.1 hk.1 (C := RX3) (T := TX3) (N := 15) rfl in_X3 tyX3 tyX3_ok nmX3 (f := 13) (by decide) wd_115 rfl rfl (ty := .int) (by decide +kernel) rfl rfl rfl hf hdg kk
theorem gf_X3_174 (cx : CX wd_C g p s m args c cc nL RX3) (hw : HH wd_C g s S H locs) {k : Nat} (hk : hs wd_C g k 3) (hdg : decode cc pc = .ok (.getfield 174, 3)) (kk : W p l e R s m args below meth c H locs cells slots Q (F0 m (pc + 3) ls (.int (st_I S (ky k 14)) :: rest))) : W p l e R s m args below meth c H locs cells slots Q (F0 m pc ls (.ref (gg_o g k) :: rest)) := r_get cx hw hk.2.1 hk.1 (C := RX3) (T := TX3) (N := 15) rfl in_X3 (f := 14) (by decide) wd_116 rfl (kd := 0) rfl rfl hdg kk
theorem pf_X3_174 {α β : Type} {A : St → Option α} {K : α → Option β} {r : β} (cx : CX wd_C g p s m args c cc nL RX3) (hw : HH wd_C g s S H locs) {k : Nat} (hk : hs wd_C g k 3) {x : Int32} (hf : (lt_v (up_I S (ky k 14) x) A).bind K = some r) (hdg : decode cc pc = .ok (.putfield 174, 3)) (kk : ∀ (S1 : St) (H1 : Heap) (locs1 : List Loc), HH wd_C g s S1 H1 locs1 → (A S1).bind K = some r → W p l e R s m args below meth c H1 locs1 cells slots Q (F0 m (pc + 3) ls rest)) : W p l e R s m args below meth c H locs cells slots Q (F0 m pc ls (.int x :: .ref (gg_o g k) :: rest)) := r_putI cx hw hk.2.1 hk.1 (C := RX3) (T := TX3) (N := 15) rfl in_X3 tyX3 tyX3_ok nmX3 (f := 14) (by decide) wd_116 rfl rfl (ty := .int) (by decide +kernel) rfl rfl rfl hf hdg kk
theorem gf_X3_181 (cx : CX wd_C g p s m args c cc nL RX3) (hw : HH wd_C g s S H locs) {k : Nat} (hk : hs wd_C g k 3) (hdg : decode cc pc = .ok (.getfield 181, 3)) (kk : W p l e R s m args below meth c H locs cells slots Q (F0 m (pc + 3) ls (.int (st_I S (ky k 11)) :: rest))) : W p l e R s m args below meth c H locs cells slots Q (F0 m pc ls (.ref (gg_o g k) :: rest)) := r_get cx hw hk.2.1 hk.1 (C := RX3) (T := TX3) (N := 15) rfl in_X3 (f := 11) (by decide) wd_113 rfl (kd := 0) rfl rfl hdg kk
theorem pf_X3_181 {α β : Type} {A : St → Option α} {K : α → Option β} {r : β} (cx : CX wd_C g p s m args c cc nL RX3) (hw : HH wd_C g s S H locs) {k : Nat} (hk : hs wd_C g k 3) {x : Int32} (hz : isb x) (hf : (lt_v (up_I S (ky k 11) x) A).bind K = some r) (hdg : decode cc pc = .ok (.putfield 181, 3)) (kk : ∀ (S1 : St) (H1 : Heap) (locs1 : List Loc), HH wd_C g s S1 H1 locs1 → (A S1).bind K = some r → W p l e R s m args below meth c H1 locs1 cells slots Q (F0 m (pc + 3) ls rest)) : W p l e R s m args below meth c H locs cells slots Q (F0 m pc ls (.int x :: .ref (gg_o g k) :: rest)) := r_putI cx hw hk.2.1 hk.1 (C := RX3) (T := TX3) (N := 15) rfl in_X3 tyX3 tyX3_ok nmX3 (f := 11) (by decide) wd_113 rfl rfl (ty := .boolean) (by decide +kernel) (n_bool hz) (f_bool hz) rfl hf hdg kk
theorem gf_X3_191 (cx : CX wd_C g p s m args c cc nL RX3) (hw : HH wd_C g s S H locs) {k : Nat} (hk : hs wd_C g k 3) (hdg : decode cc pc = .ok (.getfield 191, 3)) (kk : W p l e R s m args below meth c H locs cells slots Q (F0 m (pc + 3) ls (.int (st_I S (ky k 12)) :: rest))) : W p l e R s m args below meth c H locs cells slots Q (F0 m pc ls (.ref (gg_o g k) :: rest)) := r_get cx hw hk.2.1 hk.1 (C := RX3) (T := TX3) (N := 15) rfl in_X3 (f := 12) (by decide) wd_114 rfl (kd := 0) rfl rfl hdg kk
theorem pf_X3_191 {α β : Type} {A : St → Option α} {K : α → Option β} {r : β} (cx : CX wd_C g p s m args c cc nL RX3) (hw : HH wd_C g s S H locs) {k : Nat} (hk : hs wd_C g k 3) {x : Int32} (hz : isb x) (hf : (lt_v (up_I S (ky k 12) x) A).bind K = some r) (hdg : decode cc pc = .ok (.putfield 191, 3)) (kk : ∀ (S1 : St) (H1 : Heap) (locs1 : List Loc), HH wd_C g s S1 H1 locs1 → (A S1).bind K = some r → W p l e R s m args below meth c H1 locs1 cells slots Q (F0 m (pc + 3) ls rest)) : W p l e R s m args below meth c H locs cells slots Q (F0 m pc ls (.int x :: .ref (gg_o g k) :: rest)) := r_putI cx hw hk.2.1 hk.1 (C := RX3) (T := TX3) (N := 15) rfl in_X3 tyX3 tyX3_ok nmX3 (f := 12) (by decide) wd_114 rfl rfl (ty := .boolean) (by decide +kernel) (n_bool hz) (f_bool hz) rfl hf hdg kk
theorem gf_X4_9 (cx : CX wd_C g p s m args c cc nL RX4) (hw : HH wd_C g s S H locs) {k : Nat} (hk : hs wd_C g k 4) (hdg : decode cc pc = .ok (.getfield 9, 3)) (kk : W p l e R s m args below meth c H locs cells slots Q (F0 m (pc + 3) ls (.ref (gg_a g (ky k 7)) :: rest))) : W p l e R s m args below meth c H locs cells slots Q (F0 m pc ls (.ref (gg_o g k) :: rest)) := r_get cx hw hk.2.1 hk.1 (C := RX4) (T := TX4) (N := 19) rfl in_X4 (f := 7) (by decide) wd_217 rfl (kd := 2) rfl rfl hdg kk
theorem gf_X4_15 (cx : CX wd_C g p s m args c cc nL RX4) (hw : HH wd_C g s S H locs) {k : Nat} (hk : hs wd_C g k 4) (hdg : decode cc pc = .ok (.getfield 15, 3)) (kk : W p l e R s m args below meth c H locs cells slots Q (F0 m (pc + 3) ls (.ref (gg_a g (ky k 8)) :: rest))) : W p l e R s m args below meth c H locs cells slots Q (F0 m pc ls (.ref (gg_o g k) :: rest)) := r_get cx hw hk.2.1 hk.1 (C := RX4) (T := TX4) (N := 19) rfl in_X4 (f := 8) (by decide) wd_218 rfl (kd := 2) rfl rfl hdg kk
theorem gf_X4_18 (cx : CX wd_C g p s m args c cc nL RX4) (hw : HH wd_C g s S H locs) {k : Nat} (hk : hs wd_C g k 4) (hdg : decode cc pc = .ok (.getfield 18, 3)) (kk : W p l e R s m args below meth c H locs cells slots Q (F0 m (pc + 3) ls (.ref (gg_a g (ky k 9)) :: rest))) : W p l e R s m args below meth c H locs cells slots Q (F0 m pc ls (.ref (gg_o g k) :: rest)) := r_get cx hw hk.2.1 hk.1 (C := RX4) (T := TX4) (N := 19) rfl in_X4 (f := 9) (by decide) wd_220 rfl (kd := 2) rfl rfl hdg kk
theorem gf_X4_21 (cx : CX wd_C g p s m args c cc nL RX4) (hw : HH wd_C g s S H locs) {k : Nat} (hk : hs wd_C g k 4) (hdg : decode cc pc = .ok (.getfield 21, 3)) (kk : W p l e R s m args below meth c H locs cells slots Q (F0 m (pc + 3) ls (.ref (gg_a g (ky k 10)) :: rest))) : W p l e R s m args below meth c H locs cells slots Q (F0 m pc ls (.ref (gg_o g k) :: rest)) := r_get cx hw hk.2.1 hk.1 (C := RX4) (T := TX4) (N := 19) rfl in_X4 (f := 10) (by decide) wd_222 rfl (kd := 2) rfl rfl hdg kk
theorem gf_X4_24 (cx : CX wd_C g p s m args c cc nL RX4) (hw : HH wd_C g s S H locs) {k : Nat} (hk : hs wd_C g k 4) (hdg : decode cc pc = .ok (.getfield 24, 3)) (kk : W p l e R s m args below meth c H locs cells slots Q (F0 m (pc + 3) ls (.ref (gg_a g (ky k 11)) :: rest))) : W p l e R s m args below meth c H locs cells slots Q (F0 m pc ls (.ref (gg_o g k) :: rest)) := r_get cx hw hk.2.1 hk.1 (C := RX4) (T := TX4) (N := 19) rfl in_X4 (f := 11) (by decide) wd_224 rfl (kd := 2) rfl rfl hdg kk
theorem gf_X4_27 (cx : CX wd_C g p s m args c cc nL RX4) (hw : HH wd_C g s S H locs) {k : Nat} (hk : hs wd_C g k 4) (hdg : decode cc pc = .ok (.getfield 27, 3)) (kk : W p l e R s m args below meth c H locs cells slots Q (F0 m (pc + 3) ls (.ref (gg_a g (ky k 12)) :: rest))) : W p l e R s m args below meth c H locs cells slots Q (F0 m pc ls (.ref (gg_o g k) :: rest)) := r_get cx hw hk.2.1 hk.1 (C := RX4) (T := TX4) (N := 19) rfl in_X4 (f := 12) (by decide) wd_226 rfl (kd := 2) rfl rfl hdg kk
theorem gf_X4_30 (cx : CX wd_C g p s m args c cc nL RX4) (hw : HH wd_C g s S H locs) {k : Nat} (hk : hs wd_C g k 4) (hdg : decode cc pc = .ok (.getfield 30, 3)) (kk : W p l e R s m args below meth c H locs cells slots Q (F0 m (pc + 3) ls (.ref (gg_l g (ky k 13)) :: rest))) : W p l e R s m args below meth c H locs cells slots Q (F0 m pc ls (.ref (gg_o g k) :: rest)) := r_get cx hw hk.2.1 hk.1 (C := RX4) (T := TX4) (N := 19) rfl in_X4 (f := 13) (by decide) wd_227 rfl (kd := 3) rfl rfl hdg kk
theorem gf_X4_34 (cx : CX wd_C g p s m args c cc nL RX4) (hw : HH wd_C g s S H locs) {k : Nat} (hk : hs wd_C g k 4) (hdg : decode cc pc = .ok (.getfield 34, 3)) (kk : W p l e R s m args below meth c H locs cells slots Q (F0 m (pc + 3) ls (.ref (gg_a g (ky k 14)) :: rest))) : W p l e R s m args below meth c H locs cells slots Q (F0 m pc ls (.ref (gg_o g k) :: rest)) := r_get cx hw hk.2.1 hk.1 (C := RX4) (T := TX4) (N := 19) rfl in_X4 (f := 14) (by decide) wd_228 rfl (kd := 2) rfl rfl hdg kk
theorem gf_X4_40 (cx : CX wd_C g p s m args c cc nL RX4) (hw : HH wd_C g s S H locs) {k : Nat} (hk : hs wd_C g k 4) (hdg : decode cc pc = .ok (.getfield 40, 3)) (kk : W p l e R s m args below meth c H locs cells slots Q (F0 m (pc + 3) ls (.ref (gg_o g (k + 2)) :: rest))) : W p l e R s m args below meth c H locs cells slots Q (F0 m pc ls (.ref (gg_o g k) :: rest)) := r_get cx hw hk.2.1 hk.1 (C := RX4) (T := TX4) (N := 19) rfl in_X4 (f := 16) (by decide) wd_230 rfl (kd := 202) rfl rfl hdg kk
theorem pf_X4_44 {α β : Type} {A : St → Option α} {K : α → Option β} {r : β} (cx : CX wd_C g p s m args c cc nL RX4) (hw : HH wd_C g s S H locs) {k : Nat} (hk : hs wd_C g k 4) {x : Int32} (hf : (lt_v (up_I S (ky k 18) x) A).bind K = some r) (hdg : decode cc pc = .ok (.putfield 44, 3)) (kk : ∀ (S1 : St) (H1 : Heap) (locs1 : List Loc), HH wd_C g s S1 H1 locs1 → (A S1).bind K = some r → W p l e R s m args below meth c H1 locs1 cells slots Q (F0 m (pc + 3) ls rest)) : W p l e R s m args below meth c H locs cells slots Q (F0 m pc ls (.int x :: .ref (gg_o g k) :: rest)) := r_putI cx hw hk.2.1 hk.1 (C := RX4) (T := TX4) (N := 19) rfl in_X4 tyX4 tyX4_ok nmX4 (f := 18) (by decide) wd_233 rfl rfl (ty := .int) (by decide +kernel) rfl rfl rfl hf hdg kk
theorem gf_X4_51 (cx : CX wd_C g p s m args c cc nL RX4) (hw : HH wd_C g s S H locs) {k : Nat} (hk : hs wd_C g k 4) (hdg : decode cc pc = .ok (.getfield 51, 3)) (kk : W p l e R s m args below meth c H locs cells slots Q (F0 m (pc + 3) ls (.int (st_I S (ky k 0)) :: rest))) : W p l e R s m args below meth c H locs cells slots Q (F0 m pc ls (.ref (gg_o g k) :: rest)) := r_get cx hw hk.2.1 hk.1 (C := RX4) (T := TX4) (N := 19) rfl in_X4 (f := 0) (by decide) wd_201 rfl (kd := 0) rfl rfl hdg kk
theorem pf_X4_51 {α β : Type} {A : St → Option α} {K : α → Option β} {r : β} (cx : CX wd_C g p s m args c cc nL RX4) (hw : HH wd_C g s S H locs) {k : Nat} (hk : hs wd_C g k 4) {x : Int32} (hf : (lt_v (up_I S (ky k 0) x) A).bind K = some r) (hdg : decode cc pc = .ok (.putfield 51, 3)) (kk : ∀ (S1 : St) (H1 : Heap) (locs1 : List Loc), HH wd_C g s S1 H1 locs1 → (A S1).bind K = some r → W p l e R s m args below meth c H1 locs1 cells slots Q (F0 m (pc + 3) ls rest)) : W p l e R s m args below meth c H locs cells slots Q (F0 m pc ls (.int x :: .ref (gg_o g k) :: rest)) := r_putI cx hw hk.2.1 hk.1 (C := RX4) (T := TX4) (N := 19) rfl in_X4 tyX4 tyX4_ok nmX4 (f := 0) (by decide) wd_201 rfl rfl (ty := .int) (by decide +kernel) rfl rfl rfl hf hdg kk
theorem gf_X4_54 (cx : CX wd_C g p s m args c cc nL RX4) (hw : HH wd_C g s S H locs) {k : Nat} (hk : hs wd_C g k 4) (hdg : decode cc pc = .ok (.getfield 54, 3)) (kk : W p l e R s m args below meth c H locs cells slots Q (F0 m (pc + 3) ls (.int (st_I S (ky k 1)) :: rest))) : W p l e R s m args below meth c H locs cells slots Q (F0 m pc ls (.ref (gg_o g k) :: rest)) := r_get cx hw hk.2.1 hk.1 (C := RX4) (T := TX4) (N := 19) rfl in_X4 (f := 1) (by decide) wd_203 rfl (kd := 0) rfl rfl hdg kk
theorem pf_X4_54 {α β : Type} {A : St → Option α} {K : α → Option β} {r : β} (cx : CX wd_C g p s m args c cc nL RX4) (hw : HH wd_C g s S H locs) {k : Nat} (hk : hs wd_C g k 4) {x : Int32} (hf : (lt_v (up_I S (ky k 1) x) A).bind K = some r) (hdg : decode cc pc = .ok (.putfield 54, 3)) (kk : ∀ (S1 : St) (H1 : Heap) (locs1 : List Loc), HH wd_C g s S1 H1 locs1 → (A S1).bind K = some r → W p l e R s m args below meth c H1 locs1 cells slots Q (F0 m (pc + 3) ls rest)) : W p l e R s m args below meth c H locs cells slots Q (F0 m pc ls (.int x :: .ref (gg_o g k) :: rest)) := r_putI cx hw hk.2.1 hk.1 (C := RX4) (T := TX4) (N := 19) rfl in_X4 tyX4 tyX4_ok nmX4 (f := 1) (by decide) wd_203 rfl rfl (ty := .int) (by decide +kernel) rfl rfl rfl hf hdg kk
theorem gf_X4_57 (cx : CX wd_C g p s m args c cc nL RX4) (hw : HH wd_C g s S H locs) {k : Nat} (hk : hs wd_C g k 4) (hdg : decode cc pc = .ok (.getfield 57, 3)) (kk : W p l e R s m args below meth c H locs cells slots Q (F0 m (pc + 3) ls (.int (st_I S (ky k 2)) :: rest))) : W p l e R s m args below meth c H locs cells slots Q (F0 m pc ls (.ref (gg_o g k) :: rest)) := r_get cx hw hk.2.1 hk.1 (C := RX4) (T := TX4) (N := 19) rfl in_X4 (f := 2) (by decide) wd_205 rfl (kd := 0) rfl rfl hdg kk
theorem pf_X4_57 {α β : Type} {A : St → Option α} {K : α → Option β} {r : β} (cx : CX wd_C g p s m args c cc nL RX4) (hw : HH wd_C g s S H locs) {k : Nat} (hk : hs wd_C g k 4) {x : Int32} (hf : (lt_v (up_I S (ky k 2) x) A).bind K = some r) (hdg : decode cc pc = .ok (.putfield 57, 3)) (kk : ∀ (S1 : St) (H1 : Heap) (locs1 : List Loc), HH wd_C g s S1 H1 locs1 → (A S1).bind K = some r → W p l e R s m args below meth c H1 locs1 cells slots Q (F0 m (pc + 3) ls rest)) : W p l e R s m args below meth c H locs cells slots Q (F0 m pc ls (.int x :: .ref (gg_o g k) :: rest)) := r_putI cx hw hk.2.1 hk.1 (C := RX4) (T := TX4) (N := 19) rfl in_X4 tyX4 tyX4_ok nmX4 (f := 2) (by decide) wd_205 rfl rfl (ty := .int) (by decide +kernel) rfl rfl rfl hf hdg kk
theorem gf_X4_60 (cx : CX wd_C g p s m args c cc nL RX4) (hw : HH wd_C g s S H locs) {k : Nat} (hk : hs wd_C g k 4) (hdg : decode cc pc = .ok (.getfield 60, 3)) (kk : W p l e R s m args below meth c H locs cells slots Q (F0 m (pc + 3) ls (.int (st_I S (ky k 3)) :: rest))) : W p l e R s m args below meth c H locs cells slots Q (F0 m pc ls (.ref (gg_o g k) :: rest)) := r_get cx hw hk.2.1 hk.1 (C := RX4) (T := TX4) (N := 19) rfl in_X4 (f := 3) (by decide) wd_208 rfl (kd := 0) rfl rfl hdg kk
theorem pf_X4_60 {α β : Type} {A : St → Option α} {K : α → Option β} {r : β} (cx : CX wd_C g p s m args c cc nL RX4) (hw : HH wd_C g s S H locs) {k : Nat} (hk : hs wd_C g k 4) {x : Int32} (hf : (lt_v (up_I S (ky k 3) x) A).bind K = some r) (hdg : decode cc pc = .ok (.putfield 60, 3)) (kk : ∀ (S1 : St) (H1 : Heap) (locs1 : List Loc), HH wd_C g s S1 H1 locs1 → (A S1).bind K = some r → W p l e R s m args below meth c H1 locs1 cells slots Q (F0 m (pc + 3) ls rest)) : W p l e R s m args below meth c H locs cells slots Q (F0 m pc ls (.int x :: .ref (gg_o g k) :: rest)) := r_putI cx hw hk.2.1 hk.1 (C := RX4) (T := TX4) (N := 19) rfl in_X4 tyX4 tyX4_ok nmX4 (f := 3) (by decide) wd_208 rfl rfl (ty := .int) (by decide +kernel) rfl rfl rfl hf hdg kk
theorem gf_X4_63 (cx : CX wd_C g p s m args c cc nL RX4) (hw : HH wd_C g s S H locs) {k : Nat} (hk : hs wd_C g k 4) (hdg : decode cc pc = .ok (.getfield 63, 3)) (kk : W p l e R s m args below meth c H locs cells slots Q (F0 m (pc + 3) ls (.int (st_I S (ky k 4)) :: rest))) : W p l e R s m args below meth c H locs cells slots Q (F0 m pc ls (.ref (gg_o g k) :: rest)) := r_get cx hw hk.2.1 hk.1 (C := RX4) (T := TX4) (N := 19) rfl in_X4 (f := 4) (by decide) wd_211 rfl (kd := 0) rfl rfl hdg kk
theorem pf_X4_63 {α β : Type} {A : St → Option α} {K : α → Option β} {r : β} (cx : CX wd_C g p s m args c cc nL RX4) (hw : HH wd_C g s S H locs) {k : Nat} (hk : hs wd_C g k 4) {x : Int32} (hf : (lt_v (up_I S (ky k 4) x) A).bind K = some r) (hdg : decode cc pc = .ok (.putfield 63, 3)) (kk : ∀ (S1 : St) (H1 : Heap) (locs1 : List Loc), HH wd_C g s S1 H1 locs1 → (A S1).bind K = some r → W p l e R s m args below meth c H1 locs1 cells slots Q (F0 m (pc + 3) ls rest)) : W p l e R s m args below meth c H locs cells slots Q (F0 m pc ls (.int x :: .ref (gg_o g k) :: rest)) := r_putI cx hw hk.2.1 hk.1 (C := RX4) (T := TX4) (N := 19) rfl in_X4 tyX4 tyX4_ok nmX4 (f := 4) (by decide) wd_211 rfl rfl (ty := .int) (by decide +kernel) rfl rfl rfl hf hdg kk
theorem pf_X4_66 {α β : Type} {A : St → Option α} {K : α → Option β} {r : β} (cx : CX wd_C g p s m args c cc nL RX4) (hw : HH wd_C g s S H locs) {k : Nat} (hk : hs wd_C g k 4) {x : Int32} (hf : (lt_v (up_I S (ky k 5) x) A).bind K = some r) (hdg : decode cc pc = .ok (.putfield 66, 3)) (kk : ∀ (S1 : St) (H1 : Heap) (locs1 : List Loc), HH wd_C g s S1 H1 locs1 → (A S1).bind K = some r → W p l e R s m args below meth c H1 locs1 cells slots Q (F0 m (pc + 3) ls rest)) : W p l e R s m args below meth c H locs cells slots Q (F0 m pc ls (.int x :: .ref (gg_o g k) :: rest)) := r_putI cx hw hk.2.1 hk.1 (C := RX4) (T := TX4) (N := 19) rfl in_X4 tyX4 tyX4_ok nmX4 (f := 5) (by decide) wd_212 rfl rfl (ty := .int) (by decide +kernel) rfl rfl rfl hf hdg kk
theorem pf_X4_69 {α β : Type} {A : St → Option α} {K : α → Option β} {r : β} (cx : CX wd_C g p s m args c cc nL RX4) (hw : HH wd_C g s S H locs) {k : Nat} (hk : hs wd_C g k 4) {x : Int32} (hf : (lt_v (up_I S (ky k 6) x) A).bind K = some r) (hdg : decode cc pc = .ok (.putfield 69, 3)) (kk : ∀ (S1 : St) (H1 : Heap) (locs1 : List Loc), HH wd_C g s S1 H1 locs1 → (A S1).bind K = some r → W p l e R s m args below meth c H1 locs1 cells slots Q (F0 m (pc + 3) ls rest)) : W p l e R s m args below meth c H locs cells slots Q (F0 m pc ls (.int x :: .ref (gg_o g k) :: rest)) := r_putI cx hw hk.2.1 hk.1 (C := RX4) (T := TX4) (N := 19) rfl in_X4 tyX4 tyX4_ok nmX4 (f := 6) (by decide) wd_215 rfl rfl (ty := .int) (by decide +kernel) rfl rfl rfl hf hdg kk
theorem gf_X4_72 (cx : CX wd_C g p s m args c cc nL RX4) (hw : HH wd_C g s S H locs) {k : Nat} (hk : hs wd_C g k 4) (hdg : decode cc pc = .ok (.getfield 72, 3)) (kk : W p l e R s m args below meth c H locs cells slots Q (F0 m (pc + 3) ls (.int (st_I S (ky k 15)) :: rest))) : W p l e R s m args below meth c H locs cells slots Q (F0 m pc ls (.ref (gg_o g k) :: rest)) := r_get cx hw hk.2.1 hk.1 (C := RX4) (T := TX4) (N := 19) rfl in_X4 (f := 15) (by decide) wd_229 rfl (kd := 0) rfl rfl hdg kk
theorem pf_X4_72 {α β : Type} {A : St → Option α} {K : α → Option β} {r : β} (cx : CX wd_C g p s m args c cc nL RX4) (hw : HH wd_C g s S H locs) {k : Nat} (hk : hs wd_C g k 4) {x : Int32} (hf : (lt_v (up_I S (ky k 15) x) A).bind K = some r) (hdg : decode cc pc = .ok (.putfield 72, 3)) (kk : ∀ (S1 : St) (H1 : Heap) (locs1 : List Loc), HH wd_C g s S1 H1 locs1 → (A S1).bind K = some r → W p l e R s m args below meth c H1 locs1 cells slots Q (F0 m (pc + 3) ls rest)) : W p l e R s m args below meth c H locs cells slots Q (F0 m pc ls (.int x :: .ref (gg_o g k) :: rest)) := r_putI cx hw hk.2.1 hk.1 (C := RX4) (T := TX4) (N := 19) rfl in_X4 tyX4 tyX4_ok nmX4 (f := 15) (by decide) wd_229 rfl rfl (ty := .int) (by decide +kernel) rfl rfl rfl hf hdg kk
theorem gf_X4_75 (cx : CX wd_C g p s m args c cc nL RX4) (hw : HH wd_C g s S H locs) {k : Nat} (hk : hs wd_C g k 4) (hdg : decode cc pc = .ok (.getfield 75, 3)) (kk : W p l e R s m args below meth c H locs cells slots Q (F0 m (pc + 3) ls (.int (st_I S (ky k 17)) :: rest))) : W p l e R s m args below meth c H locs cells slots Q (F0 m pc ls (.ref (gg_o g k) :: rest)) := r_get cx hw hk.2.1 hk.1 (C := RX4) (T := TX4) (N := 19) rfl in_X4 (f := 17) (by decide) wd_232 rfl (kd := 0) rfl rfl hdg kk
theorem pf_X4_75 {α β : Type} {A : St → Option α} {K : α → Option β} {r : β} (cx : CX wd_C g p s m args c cc nL RX4) (hw : HH wd_C g s S H locs) {k : Nat} (hk : hs wd_C g k 4) {x : Int32} (hf : (lt_v (up_I S (ky k 17) x) A).bind K = some r) (hdg : decode cc pc = .ok (.putfield 75, 3)) (kk : ∀ (S1 : St) (H1 : Heap) (locs1 : List Loc), HH wd_C g s S1 H1 locs1 → (A S1).bind K = some r → W p l e R s m args below meth c H1 locs1 cells slots Q (F0 m (pc + 3) ls rest)) : W p l e R s m args below meth c H locs cells slots Q (F0 m pc ls (.int x :: .ref (gg_o g k) :: rest)) := r_putI cx hw hk.2.1 hk.1 (C := RX4) (T := TX4) (N := 19) rfl in_X4 tyX4 tyX4_ok nmX4 (f := 17) (by decide) wd_232 rfl rfl (ty := .int) (by decide +kernel) rfl rfl rfl hf hdg kk
theorem gf_X4_79 (cx : CX wd_C g p s m args c cc nL RX4) (hw : HH wd_C g s S H locs) {k : Nat} (hk : hs wd_C g k 3) (hdg : decode cc pc = .ok (.getfield 79, 3)) (kk : W p l e R s m args below meth c H locs cells slots Q (F0 m (pc + 3) ls (.int (st_I S (ky k 4)) :: rest))) : W p l e R s m args below meth c H locs cells slots Q (F0 m pc ls (.ref (gg_o g k) :: rest)) := r_getN cx hw hk.2.1 hk.1 (C := RX3) (T := TX3) (N := 15) rfl in_X3 (f := 4) (by decide) (nw_at cx _ wd_103) rfl (kd := 0) rfl rfl hdg kk
theorem gf_X4_88 (cx : CX wd_C g p s m args c cc nL RX4) (hw : HH wd_C g s S H locs) {k : Nat} (hk : hs wd_C g k 3) (hdg : decode cc pc = .ok (.getfield 88, 3)) (kk : W p l e R s m args below meth c H locs cells slots Q (F0 m (pc + 3) ls (.ref (gg_a g (ky k 1)) :: rest))) : W p l e R s m args below meth c H locs cells slots Q (F0 m pc ls (.ref (gg_o g k) :: rest)) := r_getN cx hw hk.2.1 hk.1 (C := RX3) (T := TX3) (N := 15) rfl in_X3 (f := 1) (by decide) (nw_at cx _ wd_96) rfl (kd := 2) rfl rfl hdg kk
theorem gf_X4_110 (cx : CX wd_C g p s m args c cc nL RX4) (hw : HH wd_C g s S H locs) {k : Nat} (hk : hs wd_C g k 1) (hdg : decode cc pc = .ok (.getfield 110, 3)) (kk : W p l e R s m args below meth c H locs cells slots Q (F0 m (pc + 3) ls (.int (st_I S (ky k 2)) :: rest))) : W p l e R s m args below meth c H locs cells slots Q (F0 m pc ls (.ref (gg_o g k) :: rest)) := r_getN cx hw hk.2.1 hk.1 (C := RX1) (T := TX1) (N := 7) rfl in_X1 (f := 2) (by decide) (nw_at cx _ wd_166) rfl (kd := 0) rfl rfl hdg kk
theorem gf_X4_128 (cx : CX wd_C g p s m args c cc nL RX4) (hw : HH wd_C g s S H locs) {k : Nat} (hk : hs wd_C g k 3) (hdg : decode cc pc = .ok (.getfield 128, 3)) (kk : W p l e R s m args below meth c H locs cells slots Q (F0 m (pc + 3) ls (.ref (gg_a g (ky k 2)) :: rest))) : W p l e R s m args below meth c H locs cells slots Q (F0 m pc ls (.ref (gg_o g k) :: rest)) := r_getN cx hw hk.2.1 hk.1 (C := RX3) (T := TX3) (N := 15) rfl in_X3 (f := 2) (by decide) (nw_at cx _ wd_99) rfl (kd := 2) rfl rfl hdg kk
theorem gf_X4_131 (cx : CX wd_C g p s m args c cc nL RX4) (hw : HH wd_C g s S H locs) {k : Nat} (hk : hs wd_C g k 3) (hdg : decode cc pc = .ok (.getfield 131, 3)) (kk : W p l e R s m args below meth c H locs cells slots Q (F0 m (pc + 3) ls (.ref (gg_l g (ky k 3)) :: rest))) : W p l e R s m args below meth c H locs cells slots Q (F0 m pc ls (.ref (gg_o g k) :: rest)) := r_getN cx hw hk.2.1 hk.1 (C := RX3) (T := TX3) (N := 15) rfl in_X3 (f := 3) (by decide) (nw_at cx _ wd_102) rfl (kd := 3) rfl rfl hdg kk
theorem gf_X5_9 (cx : CX wd_C g p s m args c cc nL RX5) (hw : HH wd_C g s S H locs) {k : Nat} (hk : hs wd_C g k 5) (hdg : decode cc pc = .ok (.getfield 9, 3)) (kk : W p l e R s m args below meth c H locs cells slots Q (F0 m (pc + 3) ls (.ref (gg_a g (ky k 0)) :: rest))) : W p l e R s m args below meth c H locs cells slots Q (F0 m pc ls (.ref (gg_o g k) :: rest)) := r_get cx hw hk.2.1 hk.1 (C := RX5) (T := TX5) (N := 16) rfl in_X5 (f := 0) (by decide) wd_394 rfl (kd := 2) rfl rfl hdg kk
theorem gf_X5_13 (cx : CX wd_C g p s m args c cc nL RX5) (hw : HH wd_C g s S H locs) {k : Nat} (hk : hs wd_C g k 5) (hdg : decode cc pc = .ok (.getfield 13, 3)) (kk : W p l e R s m args below meth c H locs cells slots Q (F0 m (pc + 3) ls (.int (st_I S (ky k 2)) :: rest))) : W p l e R s m args below meth c H locs cells slots Q (F0 m pc ls (.ref (gg_o g k) :: rest)) := r_get cx hw hk.2.1 hk.1 (C := RX5) (T := TX5) (N := 16) rfl in_X5 (f := 2) (by decide) wd_396 rfl (kd := 0) rfl rfl hdg kk
theorem pf_X5_13 {α β : Type} {A : St → Option α} {K : α → Option β} {r : β} (cx : CX wd_C g p s m args c cc nL RX5) (hw : HH wd_C g s S H locs) {k : Nat} (hk : hs wd_C g k 5) {x : Int32} (hf : (lt_v (up_I S (ky k 2) x) A).bind K = some r) (hdg : decode cc pc = .ok (.putfield 13, 3)) (kk : ∀ (S1 : St) (H1 : Heap) (locs1 : List Loc), HH wd_C g s S1 H1 locs1 → (A S1).bind K = some r → W p l e R s m args below meth c H1 locs1 cells slots Q (F0 m (pc + 3) ls rest)) : W p l e R s m args below meth c H locs cells slots Q (F0 m pc ls (.int x :: .ref (gg_o g k) :: rest)) := r_putI cx hw hk.2.1 hk.1 (C := RX5) (T := TX5) (N := 16) rfl in_X5 tyX5 tyX5_ok nmX5 (f := 2) (by decide) wd_396 rfl rfl (ty := .int) (by decide +kernel) rfl rfl rfl hf hdg kk
theorem gf_X5_20 (cx : CX wd_C g p s m args c cc nL RX5) (hw : HH wd_C g s S H locs) {k : Nat} (hk : hs wd_C g k 5) (hdg : decode cc pc = .ok (.getfield 20, 3)) (kk : W p l e R s m args below meth c H locs cells slots Q (F0 m (pc + 3) ls (.ref (gg_o g 1) :: rest))) : W p l e R s m args below meth c H locs cells slots Q (F0 m pc ls (.ref (gg_o g k) :: rest)) := r_get cx hw hk.2.1 hk.1 (C := RX5) (T := TX5) (N := 16) rfl in_X5 (f := 3) (by decide) wd_397 rfl (kd := 101) rfl rfl hdg kk
theorem gf_X5_27 (cx : CX wd_C g p s m args c cc nL RX5) (hw : HH wd_C g s S H locs) {k : Nat} (hk : hs wd_C g k 5) (hdg : decode cc pc = .ok (.getfield 27, 3)) (kk : W p l e R s m args below meth c H locs cells slots Q (F0 m (pc + 3) ls (.ref (gg_o g (st_P S (ky k 4))) :: rest))) : W p l e R s m args below meth c H locs cells slots Q (F0 m pc ls (.ref (gg_o g k) :: rest)) := r_get cx hw hk.2.1 hk.1 (C := RX5) (T := TX5) (N := 16) rfl in_X5 (f := 4) (by decide) wd_398 rfl (kd := 5) rfl rfl hdg kk
theorem pf_X5_27 {α β : Type} {A : St → Option α} {K : α → Option β} {r : β} (cx : CX wd_C g p s m args c cc nL RX5) (hw : HH wd_C g s S H locs) {k : Nat} (hk : hs wd_C g k 5) {x : Nat} (hf : (lt_v (up_P S (ky k 4) x) A).bind K = some r) (hdg : decode cc pc = .ok (.putfield 27, 3)) (kk : ∀ (S1 : St) (H1 : Heap) (locs1 : List Loc), HH wd_C g s S1 H1 locs1 → (A S1).bind K = some r → W p l e R s m args below meth c H1 locs1 cells slots Q (F0 m (pc + 3) ls rest)) : W p l e R s m args below meth c H locs cells slots Q (F0 m pc ls (.ref (gg_o g x) :: .ref (gg_o g k) :: rest)) := r_putP cx hw hk.2.1 hk.1 (C := RX5) (T := TX5) (N := 16) rfl in_X5 tyX5 tyX5_ok nmX5 (f := 4) (by decide) wd_398 rfl rfl (D := "LateMirrors$Text") (by decide +kernel) rfl hf hdg kk
theorem gf_X5_31 (cx : CX wd_C g p s m args c cc nL RX5) (hw : HH wd_C g s S H locs) {k : Nat} (hk : hs wd_C g k 5) (hdg : decode cc pc = .ok (.getfield 31, 3)) (kk : W p l e R s m args below meth c H locs cells slots Q (F0 m (pc + 3) ls (.ref (gg_o g (st_P S (ky k 5))) :: rest))) : W p l e R s m args below meth c H locs cells slots Q (F0 m pc ls (.ref (gg_o g k) :: rest)) := r_get cx hw hk.2.1 hk.1 (C := RX5) (T := TX5) (N := 16) rfl in_X5 (f := 5) (by decide) wd_399 rfl (kd := 5) rfl rfl hdg kk
theorem pf_X5_31 {α β : Type} {A : St → Option α} {K : α → Option β} {r : β} (cx : CX wd_C g p s m args c cc nL RX5) (hw : HH wd_C g s S H locs) {k : Nat} (hk : hs wd_C g k 5) {x : Nat} (hf : (lt_v (up_P S (ky k 5) x) A).bind K = some r) (hdg : decode cc pc = .ok (.putfield 31, 3)) (kk : ∀ (S1 : St) (H1 : Heap) (locs1 : List Loc), HH wd_C g s S1 H1 locs1 → (A S1).bind K = some r → W p l e R s m args below meth c H1 locs1 cells slots Q (F0 m (pc + 3) ls rest)) : W p l e R s m args below meth c H locs cells slots Q (F0 m pc ls (.ref (gg_o g x) :: .ref (gg_o g k) :: rest)) := r_putP cx hw hk.2.1 hk.1 (C := RX5) (T := TX5) (N := 16) rfl in_X5 tyX5 tyX5_ok nmX5 (f := 5) (by decide) wd_399 rfl rfl (D := "LateMirrors$Text") (by decide +kernel) rfl hf hdg kk
theorem gf_X5_39 (cx : CX wd_C g p s m args c cc nL RX5) (hw : HH wd_C g s S H locs) {k : Nat} (hk : hs wd_C g k 5) (hdg : decode cc pc = .ok (.getfield 39, 3)) (kk : W p l e R s m args below meth c H locs cells slots Q (F0 m (pc + 3) ls (.ref (gg_o g 10) :: rest))) : W p l e R s m args below meth c H locs cells slots Q (F0 m pc ls (.ref (gg_o g k) :: rest)) := r_get cx hw hk.2.1 hk.1 (C := RX5) (T := TX5) (N := 16) rfl in_X5 (f := 6) (by decide) wd_400 rfl (kd := 110) rfl rfl hdg kk
theorem gf_X5_43 (cx : CX wd_C g p s m args c cc nL RX5) (hw : HH wd_C g s S H locs) {k : Nat} (hk : hs wd_C g k 5) (hdg : decode cc pc = .ok (.getfield 43, 3)) (kk : W p l e R s m args below meth c H locs cells slots Q (F0 m (pc + 3) ls (.ref (gg_o g 11) :: rest))) : W p l e R s m args below meth c H locs cells slots Q (F0 m pc ls (.ref (gg_o g k) :: rest)) := r_get cx hw hk.2.1 hk.1 (C := RX5) (T := TX5) (N := 16) rfl in_X5 (f := 7) (by decide) wd_401 rfl (kd := 111) rfl rfl hdg kk
theorem gf_X5_49 (cx : CX wd_C g p s m args c cc nL RX5) (hw : HH wd_C g s S H locs) {k : Nat} (hk : hs wd_C g k 5) (hdg : decode cc pc = .ok (.getfield 49, 3)) (kk : W p l e R s m args below meth c H locs cells slots Q (F0 m (pc + 3) ls (.ref (gg_o g 6) :: rest))) : W p l e R s m args below meth c H locs cells slots Q (F0 m pc ls (.ref (gg_o g k) :: rest)) := r_get cx hw hk.2.1 hk.1 (C := RX5) (T := TX5) (N := 16) rfl in_X5 (f := 8) (by decide) wd_402 rfl (kd := 106) rfl rfl hdg kk
theorem gf_X5_53 (cx : CX wd_C g p s m args c cc nL RX5) (hw : HH wd_C g s S H locs) {k : Nat} (hk : hs wd_C g k 5) (hdg : decode cc pc = .ok (.getfield 53, 3)) (kk : W p l e R s m args below meth c H locs cells slots Q (F0 m (pc + 3) ls (.ref (gg_q g) :: rest))) : W p l e R s m args below meth c H locs cells slots Q (F0 m pc ls (.ref (gg_o g k) :: rest)) := r_get cx hw hk.2.1 hk.1 (C := RX5) (T := TX5) (N := 16) rfl in_X5 (f := 9) (by decide) wd_403 rfl (kd := 4) rfl rfl hdg kk
theorem gf_X5_57 (cx : CX wd_C g p s m args c cc nL RX5) (hw : HH wd_C g s S H locs) {k : Nat} (hk : hs wd_C g k 5) (hdg : decode cc pc = .ok (.getfield 57, 3)) (kk : W p l e R s m args below meth c H locs cells slots Q (F0 m (pc + 3) ls (.ref (gg_a g (ky k 11)) :: rest))) : W p l e R s m args below meth c H locs cells slots Q (F0 m pc ls (.ref (gg_o g k) :: rest)) := r_get cx hw hk.2.1 hk.1 (C := RX5) (T := TX5) (N := 16) rfl in_X5 (f := 11) (by decide) wd_405 rfl (kd := 2) rfl rfl hdg kk
theorem gf_X5_60 (cx : CX wd_C g p s m args c cc nL RX5) (hw : HH wd_C g s S H locs) {k : Nat} (hk : hs wd_C g k 5) (hdg : decode cc pc = .ok (.getfield 60, 3)) (kk : W p l e R s m args below meth c H locs cells slots Q (F0 m (pc + 3) ls (.ref (gg_a g (ky k 13)) :: rest))) : W p l e R s m args below meth c H locs cells slots Q (F0 m pc ls (.ref (gg_o g k) :: rest)) := r_get cx hw hk.2.1 hk.1 (C := RX5) (T := TX5) (N := 16) rfl in_X5 (f := 13) (by decide) wd_407 rfl (kd := 2) rfl rfl hdg kk
theorem gf_X5_63 (cx : CX wd_C g p s m args c cc nL RX5) (hw : HH wd_C g s S H locs) {k : Nat} (hk : hs wd_C g k 5) (hdg : decode cc pc = .ok (.getfield 63, 3)) (kk : W p l e R s m args below meth c H locs cells slots Q (F0 m (pc + 3) ls (.ref (gg_a g (ky k 14)) :: rest))) : W p l e R s m args below meth c H locs cells slots Q (F0 m pc ls (.ref (gg_o g k) :: rest)) := r_get cx hw hk.2.1 hk.1 (C := RX5) (T := TX5) (N := 16) rfl in_X5 (f := 14) (by decide) wd_408 rfl (kd := 2) rfl rfl hdg kk
theorem gf_X5_66 (cx : CX wd_C g p s m args c cc nL RX5) (hw : HH wd_C g s S H locs) {k : Nat} (hk : hs wd_C g k 5) (hdg : decode cc pc = .ok (.getfield 66, 3)) (kk : W p l e R s m args below meth c H locs cells slots Q (F0 m (pc + 3) ls (.ref (gg_a g (ky k 15)) :: rest))) : W p l e R s m args below meth c H locs cells slots Q (F0 m pc ls (.ref (gg_o g k) :: rest)) := r_get cx hw hk.2.1 hk.1 (C := RX5) (T := TX5) (N := 16) rfl in_X5 (f := 15) (by decide) wd_409 rfl (kd := 2) rfl rfl hdg kk
theorem gf_X5_69 (cx : CX wd_C g p s m args c cc nL RX5) (hw : HH wd_C g s S H locs) {k : Nat} (hk : hs wd_C g k 5) (hdg : decode cc pc = .ok (.getfield 69, 3)) (kk : W p l e R s m args below meth c H locs cells slots Q (F0 m (pc + 3) ls (.int (st_I S (ky k 1)) :: rest))) : W p l e R s m args below meth c H locs cells slots Q (F0 m pc ls (.ref (gg_o g k) :: rest)) := r_get cx hw hk.2.1 hk.1 (C := RX5) (T := TX5) (N := 16) rfl in_X5 (f := 1) (by decide) wd_395 rfl (kd := 0) rfl rfl hdg kk
theorem pf_X5_69 {α β : Type} {A : St → Option α} {K : α → Option β} {r : β} (cx : CX wd_C g p s m args c cc nL RX5) (hw : HH wd_C g s S H locs) {k : Nat} (hk : hs wd_C g k 5) {x : Int32} (hf : (lt_v (up_I S (ky k 1) x) A).bind K = some r) (hdg : decode cc pc = .ok (.putfield 69, 3)) (kk : ∀ (S1 : St) (H1 : Heap) (locs1 : List Loc), HH wd_C g s S1 H1 locs1 → (A S1).bind K = some r → W p l e R s m args below meth c H1 locs1 cells slots Q (F0 m (pc + 3) ls rest)) : W p l e R s m args below meth c H locs cells slots Q (F0 m pc ls (.int x :: .ref (gg_o g k) :: rest)) := r_putI cx hw hk.2.1 hk.1 (C := RX5) (T := TX5) (N := 16) rfl in_X5 tyX5 tyX5_ok nmX5 (f := 1) (by decide) wd_395 rfl rfl (ty := .int) (by decide +kernel) rfl rfl rfl hf hdg kk
theorem gf_X5_84 (cx : CX wd_C g p s m args c cc nL RX5) (hw : HH wd_C g s S H locs) {k : Nat} (hk : hs wd_C g k 3) (hdg : decode cc pc = .ok (.getfield 84, 3)) (kk : W p l e R s m args below meth c H locs cells slots Q (F0 m (pc + 3) ls (.int (st_I S (ky k 5)) :: rest))) : W p l e R s m args below meth c H locs cells slots Q (F0 m pc ls (.ref (gg_o g k) :: rest)) := r_getN cx hw hk.2.1 hk.1 (C := RX3) (T := TX3) (N := 15) rfl in_X3 (f := 5) (by decide) (nw_at cx _ wd_107) rfl (kd := 0) rfl rfl hdg kk
theorem gf_X5_89 (cx : CX wd_C g p s m args c cc nL RX5) (hw : HH wd_C g s S H locs) {k : Nat} (hk : hs wd_C g k 4) (hdg : decode cc pc = .ok (.getfield 89, 3)) (kk : W p l e R s m args below meth c H locs cells slots Q (F0 m (pc + 3) ls (.int (st_I S (ky k 18)) :: rest))) : W p l e R s m args below meth c H locs cells slots Q (F0 m pc ls (.ref (gg_o g k) :: rest)) := r_getN cx hw hk.2.1 hk.1 (C := RX4) (T := TX4) (N := 19) rfl in_X4 (f := 18) (by decide) (nw_at cx _ wd_234) rfl (kd := 0) rfl rfl hdg kk
theorem gf_X5_99 (cx : CX wd_C g p s m args c cc nL RX5) (hw : HH wd_C g s S H locs) {k : Nat} (hk : hs wd_C g k 5) (hdg : decode cc pc = .ok (.getfield 99, 3)) (kk : W p l e R s m args below meth c H locs cells slots Q (F0 m (pc + 3) ls (.int (st_I S (ky k 10)) :: rest))) : W p l e R s m args below meth c H locs cells slots Q (F0 m pc ls (.ref (gg_o g k) :: rest)) := r_get cx hw hk.2.1 hk.1 (C := RX5) (T := TX5) (N := 16) rfl in_X5 (f := 10) (by decide) wd_404 rfl (kd := 0) rfl rfl hdg kk
theorem pf_X5_99 {α β : Type} {A : St → Option α} {K : α → Option β} {r : β} (cx : CX wd_C g p s m args c cc nL RX5) (hw : HH wd_C g s S H locs) {k : Nat} (hk : hs wd_C g k 5) {x : Int32} (hf : (lt_v (up_I S (ky k 10) x) A).bind K = some r) (hdg : decode cc pc = .ok (.putfield 99, 3)) (kk : ∀ (S1 : St) (H1 : Heap) (locs1 : List Loc), HH wd_C g s S1 H1 locs1 → (A S1).bind K = some r → W p l e R s m args below meth c H1 locs1 cells slots Q (F0 m (pc + 3) ls rest)) : W p l e R s m args below meth c H locs cells slots Q (F0 m pc ls (.int x :: .ref (gg_o g k) :: rest)) := r_putI cx hw hk.2.1 hk.1 (C := RX5) (T := TX5) (N := 16) rfl in_X5 tyX5 tyX5_ok nmX5 (f := 10) (by decide) wd_404 rfl rfl (ty := .int) (by decide +kernel) rfl rfl rfl hf hdg kk
theorem gf_X5_102 (cx : CX wd_C g p s m args c cc nL RX5) (hw : HH wd_C g s S H locs) {k : Nat} (hk : hs wd_C g k 5) (hdg : decode cc pc = .ok (.getfield 102, 3)) (kk : W p l e R s m args below meth c H locs cells slots Q (F0 m (pc + 3) ls (.int (st_I S (ky k 12)) :: rest))) : W p l e R s m args below meth c H locs cells slots Q (F0 m pc ls (.ref (gg_o g k) :: rest)) := r_get cx hw hk.2.1 hk.1 (C := RX5) (T := TX5) (N := 16) rfl in_X5 (f := 12) (by decide) wd_406 rfl (kd := 0) rfl rfl hdg kk
theorem pf_X5_102 {α β : Type} {A : St → Option α} {K : α → Option β} {r : β} (cx : CX wd_C g p s m args c cc nL RX5) (hw : HH wd_C g s S H locs) {k : Nat} (hk : hs wd_C g k 5) {x : Int32} (hf : (lt_v (up_I S (ky k 12) x) A).bind K = some r) (hdg : decode cc pc = .ok (.putfield 102, 3)) (kk : ∀ (S1 : St) (H1 : Heap) (locs1 : List Loc), HH wd_C g s S1 H1 locs1 → (A S1).bind K = some r → W p l e R s m args below meth c H1 locs1 cells slots Q (F0 m (pc + 3) ls rest)) : W p l e R s m args below meth c H locs cells slots Q (F0 m pc ls (.int x :: .ref (gg_o g k) :: rest)) := r_putI cx hw hk.2.1 hk.1 (C := RX5) (T := TX5) (N := 16) rfl in_X5 tyX5 tyX5_ok nmX5 (f := 12) (by decide) wd_406 rfl rfl (ty := .int) (by decide +kernel) rfl rfl rfl hf hdg kk
theorem gf_X5_147 (cx : CX wd_C g p s m args c cc nL RX5) (hw : HH wd_C g s S H locs) {k : Nat} (hk : hs wd_C g k 0) (hdg : decode cc pc = .ok (.getfield 147, 3)) (kk : W p l e R s m args below meth c H locs cells slots Q (F0 m (pc + 3) ls (.int (st_I S (ky k 1)) :: rest))) : W p l e R s m args below meth c H locs cells slots Q (F0 m pc ls (.ref (gg_o g k) :: rest)) := r_getN cx hw hk.2.1 hk.1 (C := RX0) (T := TX0) (N := 9) rfl in_X0 (f := 1) (by decide) (nw_at cx _ wd_349) rfl (kd := 0) rfl rfl hdg kk
theorem gf_X5_206 (cx : CX wd_C g p s m args c cc nL RX5) (hw : HH wd_C g s S H locs) {k : Nat} (hk : hs wd_C g k 4) (hdg : decode cc pc = .ok (.getfield 206, 3)) (kk : W p l e R s m args below meth c H locs cells slots Q (F0 m (pc + 3) ls (.int (st_I S (ky k 3)) :: rest))) : W p l e R s m args below meth c H locs cells slots Q (F0 m pc ls (.ref (gg_o g k) :: rest)) := r_getN cx hw hk.2.1 hk.1 (C := RX4) (T := TX4) (N := 19) rfl in_X4 (f := 3) (by decide) (nw_at cx _ wd_210) rfl (kd := 0) rfl rfl hdg kk
theorem gf_X5_231 (cx : CX wd_C g p s m args c cc nL RX5) (hw : HH wd_C g s S H locs) {k : Nat} (hk : hs wd_C g k 4) (hdg : decode cc pc = .ok (.getfield 231, 3)) (kk : W p l e R s m args below meth c H locs cells slots Q (F0 m (pc + 3) ls (.int (st_I S (ky k 2)) :: rest))) : W p l e R s m args below meth c H locs cells slots Q (F0 m pc ls (.ref (gg_o g k) :: rest)) := r_getN cx hw hk.2.1 hk.1 (C := RX4) (T := TX4) (N := 19) rfl in_X4 (f := 2) (by decide) (nw_at cx _ wd_207) rfl (kd := 0) rfl rfl hdg kk
theorem gf_X5_234 (cx : CX wd_C g p s m args c cc nL RX5) (hw : HH wd_C g s S H locs) {k : Nat} (hk : hs wd_C g k 4) (hdg : decode cc pc = .ok (.getfield 234, 3)) (kk : W p l e R s m args below meth c H locs cells slots Q (F0 m (pc + 3) ls (.int (st_I S (ky k 0)) :: rest))) : W p l e R s m args below meth c H locs cells slots Q (F0 m pc ls (.ref (gg_o g k) :: rest)) := r_getN cx hw hk.2.1 hk.1 (C := RX4) (T := TX4) (N := 19) rfl in_X4 (f := 0) (by decide) (nw_at cx _ wd_202) rfl (kd := 0) rfl rfl hdg kk
theorem gf_X5_270 (cx : CX wd_C g p s m args c cc nL RX5) (hw : HH wd_C g s S H locs) {k : Nat} (hk : hs wd_C g k 4) (hdg : decode cc pc = .ok (.getfield 270, 3)) (kk : W p l e R s m args below meth c H locs cells slots Q (F0 m (pc + 3) ls (.int (st_I S (ky k 5)) :: rest))) : W p l e R s m args below meth c H locs cells slots Q (F0 m pc ls (.ref (gg_o g k) :: rest)) := r_getN cx hw hk.2.1 hk.1 (C := RX4) (T := TX4) (N := 19) rfl in_X4 (f := 5) (by decide) (nw_at cx _ wd_214) rfl (kd := 0) rfl rfl hdg kk
theorem gf_X5_287 (cx : CX wd_C g p s m args c cc nL RX5) (hw : HH wd_C g s S H locs) {k : Nat} (hk : hs wd_C g k 4) (hdg : decode cc pc = .ok (.getfield 287, 3)) (kk : W p l e R s m args below meth c H locs cells slots Q (F0 m (pc + 3) ls (.int (st_I S (ky k 1)) :: rest))) : W p l e R s m args below meth c H locs cells slots Q (F0 m pc ls (.ref (gg_o g k) :: rest)) := r_getN cx hw hk.2.1 hk.1 (C := RX4) (T := TX4) (N := 19) rfl in_X4 (f := 1) (by decide) (nw_at cx _ wd_204) rfl (kd := 0) rfl rfl hdg kk
theorem gf_X5_308 (cx : CX wd_C g p s m args c cc nL RX5) (hw : HH wd_C g s S H locs) {k : Nat} (hk : hs wd_C g k 2) (hdg : decode cc pc = .ok (.getfield 308, 3)) (kk : W p l e R s m args below meth c H locs cells slots Q (F0 m (pc + 3) ls (.int (st_I S (ky k 2)) :: rest))) : W p l e R s m args below meth c H locs cells slots Q (F0 m pc ls (.ref (gg_o g k) :: rest)) := r_getN cx hw hk.2.1 hk.1 (C := RX2) (T := TX2) (N := 3) rfl in_X2 (f := 2) (by decide) (nw_at cx _ wd_385) rfl (kd := 0) rfl rfl hdg kk
theorem gf_X6_13 (cx : CX wd_M g p s m args c cc nL RX6) (hw : HH wd_M g s S H locs) {k : Nat} (hk : hs wd_M g k 6) (hdg : decode cc pc = .ok (.getfield 13, 3)) (kk : W p l e R s m args below meth c H locs cells slots Q (F0 m (pc + 3) ls (.ref (gg_a g (ky k 1)) :: rest))) : W p l e R s m args below meth c H locs cells slots Q (F0 m pc ls (.ref (gg_o g k) :: rest)) := r_get cx hw hk.2.1 hk.1 (C := RX6) (T := TX6) (N := 75) rfl in_X6 (f := 1) (by decide) wd_1128 rfl (kd := 2) rfl rfl hdg kk
theorem gf_X6_17 (cx : CX wd_M g p s m args c cc nL RX6) (hw : HH wd_M g s S H locs) {k : Nat} (hk : hs wd_M g k 6) (hdg : decode cc pc = .ok (.getfield 17, 3)) (kk : W p l e R s m args below meth c H locs cells slots Q (F0 m (pc + 3) ls (.ref (gg_a g (ky k 3)) :: rest))) : W p l e R s m args below meth c H locs cells slots Q (F0 m pc ls (.ref (gg_o g k) :: rest)) := r_get cx hw hk.2.1 hk.1 (C := RX6) (T := TX6) (N := 75) rfl in_X6 (f := 3) (by decide) wd_1130 rfl (kd := 2) rfl rfl hdg kk
theorem gf_X6_20 (cx : CX wd_M g p s m args c cc nL RX6) (hw : HH wd_M g s S H locs) {k : Nat} (hk : hs wd_M g k 6) (hdg : decode cc pc = .ok (.getfield 20, 3)) (kk : W p l e R s m args below meth c H locs cells slots Q (F0 m (pc + 3) ls (.ref (gg_a g (ky k 5)) :: rest))) : W p l e R s m args below meth c H locs cells slots Q (F0 m pc ls (.ref (gg_o g k) :: rest)) := r_get cx hw hk.2.1 hk.1 (C := RX6) (T := TX6) (N := 75) rfl in_X6 (f := 5) (by decide) wd_1132 rfl (kd := 2) rfl rfl hdg kk
theorem gf_X6_24 (cx : CX wd_M g p s m args c cc nL RX6) (hw : HH wd_M g s S H locs) {k : Nat} (hk : hs wd_M g k 6) (hdg : decode cc pc = .ok (.getfield 24, 3)) (kk : W p l e R s m args below meth c H locs cells slots Q (F0 m (pc + 3) ls (.ref (gg_a g (ky k 6)) :: rest))) : W p l e R s m args below meth c H locs cells slots Q (F0 m pc ls (.ref (gg_o g k) :: rest)) := r_get cx hw hk.2.1 hk.1 (C := RX6) (T := TX6) (N := 75) rfl in_X6 (f := 6) (by decide) wd_1133 rfl (kd := 2) rfl rfl hdg kk
theorem gf_X6_27 (cx : CX wd_M g p s m args c cc nL RX6) (hw : HH wd_M g s S H locs) {k : Nat} (hk : hs wd_M g k 6) (hdg : decode cc pc = .ok (.getfield 27, 3)) (kk : W p l e R s m args below meth c H locs cells slots Q (F0 m (pc + 3) ls (.ref (gg_a g (ky k 7)) :: rest))) : W p l e R s m args below meth c H locs cells slots Q (F0 m pc ls (.ref (gg_o g k) :: rest)) := r_get cx hw hk.2.1 hk.1 (C := RX6) (T := TX6) (N := 75) rfl in_X6 (f := 7) (by decide) wd_1134 rfl (kd := 2) rfl rfl hdg kk
theorem gf_X6_30 (cx : CX wd_M g p s m args c cc nL RX6) (hw : HH wd_M g s S H locs) {k : Nat} (hk : hs wd_M g k 6) (hdg : decode cc pc = .ok (.getfield 30, 3)) (kk : W p l e R s m args below meth c H locs cells slots Q (F0 m (pc + 3) ls (.ref (gg_l g (ky k 8)) :: rest))) : W p l e R s m args below meth c H locs cells slots Q (F0 m pc ls (.ref (gg_o g k) :: rest)) := r_get cx hw hk.2.1 hk.1 (C := RX6) (T := TX6) (N := 75) rfl in_X6 (f := 8) (by decide) wd_1135 rfl (kd := 3) rfl rfl hdg kk
theorem gf_X6_34 (cx : CX wd_M g p s m args c cc nL RX6) (hw : HH wd_M g s S H locs) {k : Nat} (hk : hs wd_M g k 6) (hdg : decode cc pc = .ok (.getfield 34, 3)) (kk : W p l e R s m args below meth c H locs cells slots Q (F0 m (pc + 3) ls (.ref (gg_l g (ky k 9)) :: rest))) : W p l e R s m args below meth c H locs cells slots Q (F0 m pc ls (.ref (gg_o g k) :: rest)) := r_get cx hw hk.2.1 hk.1 (C := RX6) (T := TX6) (N := 75) rfl in_X6 (f := 9) (by decide) wd_1136 rfl (kd := 3) rfl rfl hdg kk
theorem gf_X6_37 (cx : CX wd_M g p s m args c cc nL RX6) (hw : HH wd_M g s S H locs) {k : Nat} (hk : hs wd_M g k 6) (hdg : decode cc pc = .ok (.getfield 37, 3)) (kk : W p l e R s m args below meth c H locs cells slots Q (F0 m (pc + 3) ls (.int (st_I S (ky k 17)) :: rest))) : W p l e R s m args below meth c H locs cells slots Q (F0 m pc ls (.ref (gg_o g k) :: rest)) := r_get cx hw hk.2.1 hk.1 (C := RX6) (T := TX6) (N := 75) rfl in_X6 (f := 17) (by decide) wd_1144 rfl (kd := 0) rfl rfl hdg kk
theorem pf_X6_37 {α β : Type} {A : St → Option α} {K : α → Option β} {r : β} (cx : CX wd_M g p s m args c cc nL RX6) (hw : HH wd_M g s S H locs) {k : Nat} (hk : hs wd_M g k 6) {x : Int32} (hf : (lt_v (up_I S (ky k 17) x) A).bind K = some r) (hdg : decode cc pc = .ok (.putfield 37, 3)) (kk : ∀ (S1 : St) (H1 : Heap) (locs1 : List Loc), HH wd_M g s S1 H1 locs1 → (A S1).bind K = some r → W p l e R s m args below meth c H1 locs1 cells slots Q (F0 m (pc + 3) ls rest)) : W p l e R s m args below meth c H locs cells slots Q (F0 m pc ls (.int x :: .ref (gg_o g k) :: rest)) := r_putI cx hw hk.2.1 hk.1 (C := RX6) (T := TX6) (N := 75) rfl in_X6 tyX6 tyX6_ok nmX6 (f := 17) (by decide) wd_1144 rfl rfl (ty := .int) (by decide +kernel) rfl rfl rfl hf hdg kk
theorem gf_X6_40 (cx : CX wd_M g p s m args c cc nL RX6) (hw : HH wd_M g s S H locs) {k : Nat} (hk : hs wd_M g k 6) (hdg : decode cc pc = .ok (.getfield 40, 3)) (kk : W p l e R s m args below meth c H locs cells slots Q (F0 m (pc + 3) ls (.ref (gg_l g (ky k 21)) :: rest))) : W p l e R s m args below meth c H locs cells slots Q (F0 m pc ls (.ref (gg_o g k) :: rest)) := r_get cx hw hk.2.1 hk.1 (C := RX6) (T := TX6) (N := 75) rfl in_X6 (f := 21) (by decide) wd_1148 rfl (kd := 3) rfl rfl hdg kk
theorem gf_X6_43 (cx : CX wd_M g p s m args c cc nL RX6) (hw : HH wd_M g s S H locs) {k : Nat} (hk : hs wd_M g k 6) (hdg : decode cc pc = .ok (.getfield 43, 3)) (kk : W p l e R s m args below meth c H locs cells slots Q (F0 m (pc + 3) ls (.ref (gg_a g (ky k 22)) :: rest))) : W p l e R s m args below meth c H locs cells slots Q (F0 m pc ls (.ref (gg_o g k) :: rest)) := r_get cx hw hk.2.1 hk.1 (C := RX6) (T := TX6) (N := 75) rfl in_X6 (f := 22) (by decide) wd_1149 rfl (kd := 2) rfl rfl hdg kk
theorem gf_X6_46 (cx : CX wd_M g p s m args c cc nL RX6) (hw : HH wd_M g s S H locs) {k : Nat} (hk : hs wd_M g k 6) (hdg : decode cc pc = .ok (.getfield 46, 3)) (kk : W p l e R s m args below meth c H locs cells slots Q (F0 m (pc + 3) ls (.ref (gg_a g (ky k 23)) :: rest))) : W p l e R s m args below meth c H locs cells slots Q (F0 m pc ls (.ref (gg_o g k) :: rest)) := r_get cx hw hk.2.1 hk.1 (C := RX6) (T := TX6) (N := 75) rfl in_X6 (f := 23) (by decide) wd_1150 rfl (kd := 2) rfl rfl hdg kk
theorem gf_X6_49 (cx : CX wd_M g p s m args c cc nL RX6) (hw : HH wd_M g s S H locs) {k : Nat} (hk : hs wd_M g k 6) (hdg : decode cc pc = .ok (.getfield 49, 3)) (kk : W p l e R s m args below meth c H locs cells slots Q (F0 m (pc + 3) ls (.ref (gg_a g (ky k 24)) :: rest))) : W p l e R s m args below meth c H locs cells slots Q (F0 m pc ls (.ref (gg_o g k) :: rest)) := r_get cx hw hk.2.1 hk.1 (C := RX6) (T := TX6) (N := 75) rfl in_X6 (f := 24) (by decide) wd_1151 rfl (kd := 2) rfl rfl hdg kk
theorem gf_X6_52 (cx : CX wd_M g p s m args c cc nL RX6) (hw : HH wd_M g s S H locs) {k : Nat} (hk : hs wd_M g k 6) (hdg : decode cc pc = .ok (.getfield 52, 3)) (kk : W p l e R s m args below meth c H locs cells slots Q (F0 m (pc + 3) ls (.ref (gg_a g (ky k 25)) :: rest))) : W p l e R s m args below meth c H locs cells slots Q (F0 m pc ls (.ref (gg_o g k) :: rest)) := r_get cx hw hk.2.1 hk.1 (C := RX6) (T := TX6) (N := 75) rfl in_X6 (f := 25) (by decide) wd_1152 rfl (kd := 2) rfl rfl hdg kk
theorem gf_X6_55 (cx : CX wd_M g p s m args c cc nL RX6) (hw : HH wd_M g s S H locs) {k : Nat} (hk : hs wd_M g k 6) (hdg : decode cc pc = .ok (.getfield 55, 3)) (kk : W p l e R s m args below meth c H locs cells slots Q (F0 m (pc + 3) ls (.ref (gg_a g (ky k 26)) :: rest))) : W p l e R s m args below meth c H locs cells slots Q (F0 m pc ls (.ref (gg_o g k) :: rest)) := r_get cx hw hk.2.1 hk.1 (C := RX6) (T := TX6) (N := 75) rfl in_X6 (f := 26) (by decide) wd_1153 rfl (kd := 2) rfl rfl hdg kk
theorem gf_X6_58 (cx : CX wd_M g p s m args c cc nL RX6) (hw : HH wd_M g s S H locs) {k : Nat} (hk : hs wd_M g k 6) (hdg : decode cc pc = .ok (.getfield 58, 3)) (kk : W p l e R s m args below meth c H locs cells slots Q (F0 m (pc + 3) ls (.ref (gg_a g (ky k 27)) :: rest))) : W p l e R s m args below meth c H locs cells slots Q (F0 m pc ls (.ref (gg_o g k) :: rest)) := r_get cx hw hk.2.1 hk.1 (C := RX6) (T := TX6) (N := 75) rfl in_X6 (f := 27) (by decide) wd_1154 rfl (kd := 2) rfl rfl hdg kk
theorem gf_X6_61 (cx : CX wd_M g p s m args c cc nL RX6) (hw : HH wd_M g s S H locs) {k : Nat} (hk : hs wd_M g k 6) (hdg : decode cc pc = .ok (.getfield 61, 3)) (kk : W p l e R s m args below meth c H locs cells slots Q (F0 m (pc + 3) ls (.ref (gg_a g (ky k 28)) :: rest))) : W p l e R s m args below meth c H locs cells slots Q (F0 m pc ls (.ref (gg_o g k) :: rest)) := r_get cx hw hk.2.1 hk.1 (C := RX6) (T := TX6) (N := 75) rfl in_X6 (f := 28) (by decide) wd_1155 rfl (kd := 2) rfl rfl hdg kk
theorem gf_X6_64 (cx : CX wd_M g p s m args c cc nL RX6) (hw : HH wd_M g s S H locs) {k : Nat} (hk : hs wd_M g k 6) (hdg : decode cc pc = .ok (.getfield 64, 3)) (kk : W p l e R s m args below meth c H locs cells slots Q (F0 m (pc + 3) ls (.ref (gg_a g (ky k 29)) :: rest))) : W p l e R s m args below meth c H locs cells slots Q (F0 m pc ls (.ref (gg_o g k) :: rest)) := r_get cx hw hk.2.1 hk.1 (C := RX6) (T := TX6) (N := 75) rfl in_X6 (f := 29) (by decide) wd_1156 rfl (kd := 2) rfl rfl hdg kk
theorem gf_X6_67 (cx : CX wd_M g p s m args c cc nL RX6) (hw : HH wd_M g s S H locs) {k : Nat} (hk : hs wd_M g k 6) (hdg : decode cc pc = .ok (.getfield 67, 3)) (kk : W p l e R s m args below meth c H locs cells slots Q (F0 m (pc + 3) ls (.ref (gg_a g (ky k 30)) :: rest))) : W p l e R s m args below meth c H locs cells slots Q (F0 m pc ls (.ref (gg_o g k) :: rest)) := r_get cx hw hk.2.1 hk.1 (C := RX6) (T := TX6) (N := 75) rfl in_X6 (f := 30) (by decide) wd_1157 rfl (kd := 2) rfl rfl hdg kk
theorem gf_X6_70 (cx : CX wd_M g p s m args c cc nL RX6) (hw : HH wd_M g s S H locs) {k : Nat} (hk : hs wd_M g k 6) (hdg : decode cc pc = .ok (.getfield 70, 3)) (kk : W p l e R s m args below meth c H locs cells slots Q (F0 m (pc + 3) ls (.ref (gg_a g (ky k 31)) :: rest))) : W p l e R s m args below meth c H locs cells slots Q (F0 m pc ls (.ref (gg_o g k) :: rest)) := r_get cx hw hk.2.1 hk.1 (C := RX6) (T := TX6) (N := 75) rfl in_X6 (f := 31) (by decide) wd_1158 rfl (kd := 2) rfl rfl hdg kk
theorem gf_X6_73 (cx : CX wd_M g p s m args c cc nL RX6) (hw : HH wd_M g s S H locs) {k : Nat} (hk : hs wd_M g k 6) (hdg : decode cc pc = .ok (.getfield 73, 3)) (kk : W p l e R s m args below meth c H locs cells slots Q (F0 m (pc + 3) ls (.ref (gg_a g (ky k 32)) :: rest))) : W p l e R s m args below meth c H locs cells slots Q (F0 m pc ls (.ref (gg_o g k) :: rest)) := r_get cx hw hk.2.1 hk.1 (C := RX6) (T := TX6) (N := 75) rfl in_X6 (f := 32) (by decide) wd_1159 rfl (kd := 2) rfl rfl hdg kk
theorem gf_X6_76 (cx : CX wd_M g p s m args c cc nL RX6) (hw : HH wd_M g s S H locs) {k : Nat} (hk : hs wd_M g k 6) (hdg : decode cc pc = .ok (.getfield 76, 3)) (kk : W p l e R s m args below meth c H locs cells slots Q (F0 m (pc + 3) ls (.ref (gg_a g (ky k 33)) :: rest))) : W p l e R s m args below meth c H locs cells slots Q (F0 m pc ls (.ref (gg_o g k) :: rest)) := r_get cx hw hk.2.1 hk.1 (C := RX6) (T := TX6) (N := 75) rfl in_X6 (f := 33) (by decide) wd_1160 rfl (kd := 2) rfl rfl hdg kk
theorem gf_X6_79 (cx : CX wd_M g p s m args c cc nL RX6) (hw : HH wd_M g s S H locs) {k : Nat} (hk : hs wd_M g k 6) (hdg : decode cc pc = .ok (.getfield 79, 3)) (kk : W p l e R s m args below meth c H locs cells slots Q (F0 m (pc + 3) ls (.ref (gg_a g (ky k 34)) :: rest))) : W p l e R s m args below meth c H locs cells slots Q (F0 m pc ls (.ref (gg_o g k) :: rest)) := r_get cx hw hk.2.1 hk.1 (C := RX6) (T := TX6) (N := 75) rfl in_X6 (f := 34) (by decide) wd_1161 rfl (kd := 2) rfl rfl hdg kk
theorem gf_X6_82 (cx : CX wd_M g p s m args c cc nL RX6) (hw : HH wd_M g s S H locs) {k : Nat} (hk : hs wd_M g k 6) (hdg : decode cc pc = .ok (.getfield 82, 3)) (kk : W p l e R s m args below meth c H locs cells slots Q (F0 m (pc + 3) ls (.ref (gg_a g (ky k 35)) :: rest))) : W p l e R s m args below meth c H locs cells slots Q (F0 m pc ls (.ref (gg_o g k) :: rest)) := r_get cx hw hk.2.1 hk.1 (C := RX6) (T := TX6) (N := 75) rfl in_X6 (f := 35) (by decide) wd_1162 rfl (kd := 2) rfl rfl hdg kk
theorem gf_X6_85 (cx : CX wd_M g p s m args c cc nL RX6) (hw : HH wd_M g s S H locs) {k : Nat} (hk : hs wd_M g k 6) (hdg : decode cc pc = .ok (.getfield 85, 3)) (kk : W p l e R s m args below meth c H locs cells slots Q (F0 m (pc + 3) ls (.ref (gg_a g (ky k 36)) :: rest))) : W p l e R s m args below meth c H locs cells slots Q (F0 m pc ls (.ref (gg_o g k) :: rest)) := r_get cx hw hk.2.1 hk.1 (C := RX6) (T := TX6) (N := 75) rfl in_X6 (f := 36) (by decide) wd_1163 rfl (kd := 2) rfl rfl hdg kk
theorem gf_X6_88 (cx : CX wd_M g p s m args c cc nL RX6) (hw : HH wd_M g s S H locs) {k : Nat} (hk : hs wd_M g k 6) (hdg : decode cc pc = .ok (.getfield 88, 3)) (kk : W p l e R s m args below meth c H locs cells slots Q (F0 m (pc + 3) ls (.ref (gg_a g (ky k 37)) :: rest))) : W p l e R s m args below meth c H locs cells slots Q (F0 m pc ls (.ref (gg_o g k) :: rest)) := r_get cx hw hk.2.1 hk.1 (C := RX6) (T := TX6) (N := 75) rfl in_X6 (f := 37) (by decide) wd_1164 rfl (kd := 2) rfl rfl hdg kk
theorem gf_X6_91 (cx : CX wd_M g p s m args c cc nL RX6) (hw : HH wd_M g s S H locs) {k : Nat} (hk : hs wd_M g k 6) (hdg : decode cc pc = .ok (.getfield 91, 3)) (kk : W p l e R s m args below meth c H locs cells slots Q (F0 m (pc + 3) ls (.ref (gg_a g (ky k 39)) :: rest))) : W p l e R s m args below meth c H locs cells slots Q (F0 m pc ls (.ref (gg_o g k) :: rest)) := r_get cx hw hk.2.1 hk.1 (C := RX6) (T := TX6) (N := 75) rfl in_X6 (f := 39) (by decide) wd_1166 rfl (kd := 2) rfl rfl hdg kk
theorem gf_X6_95 (cx : CX wd_M g p s m args c cc nL RX6) (hw : HH wd_M g s S H locs) {k : Nat} (hk : hs wd_M g k 6) (hdg : decode cc pc = .ok (.getfield 95, 3)) (kk : W p l e R s m args below meth c H locs cells slots Q (F0 m (pc + 3) ls (.ref (gg_a g (ky k 40)) :: rest))) : W p l e R s m args below meth c H locs cells slots Q (F0 m pc ls (.ref (gg_o g k) :: rest)) := r_get cx hw hk.2.1 hk.1 (C := RX6) (T := TX6) (N := 75) rfl in_X6 (f := 40) (by decide) wd_1167 rfl (kd := 2) rfl rfl hdg kk
theorem gf_X6_98 (cx : CX wd_M g p s m args c cc nL RX6) (hw : HH wd_M g s S H locs) {k : Nat} (hk : hs wd_M g k 6) (hdg : decode cc pc = .ok (.getfield 98, 3)) (kk : W p l e R s m args below meth c H locs cells slots Q (F0 m (pc + 3) ls (.ref (gg_a g (ky k 41)) :: rest))) : W p l e R s m args below meth c H locs cells slots Q (F0 m pc ls (.ref (gg_o g k) :: rest)) := r_get cx hw hk.2.1 hk.1 (C := RX6) (T := TX6) (N := 75) rfl in_X6 (f := 41) (by decide) wd_1168 rfl (kd := 2) rfl rfl hdg kk
theorem gf_X6_101 (cx : CX wd_M g p s m args c cc nL RX6) (hw : HH wd_M g s S H locs) {k : Nat} (hk : hs wd_M g k 6) (hdg : decode cc pc = .ok (.getfield 101, 3)) (kk : W p l e R s m args below meth c H locs cells slots Q (F0 m (pc + 3) ls (.ref (gg_a g (ky k 42)) :: rest))) : W p l e R s m args below meth c H locs cells slots Q (F0 m pc ls (.ref (gg_o g k) :: rest)) := r_get cx hw hk.2.1 hk.1 (C := RX6) (T := TX6) (N := 75) rfl in_X6 (f := 42) (by decide) wd_1169 rfl (kd := 2) rfl rfl hdg kk
theorem gf_X6_104 (cx : CX wd_M g p s m args c cc nL RX6) (hw : HH wd_M g s S H locs) {k : Nat} (hk : hs wd_M g k 6) (hdg : decode cc pc = .ok (.getfield 104, 3)) (kk : W p l e R s m args below meth c H locs cells slots Q (F0 m (pc + 3) ls (.ref (gg_a g (ky k 43)) :: rest))) : W p l e R s m args below meth c H locs cells slots Q (F0 m pc ls (.ref (gg_o g k) :: rest)) := r_get cx hw hk.2.1 hk.1 (C := RX6) (T := TX6) (N := 75) rfl in_X6 (f := 43) (by decide) wd_1170 rfl (kd := 2) rfl rfl hdg kk
theorem gf_X6_107 (cx : CX wd_M g p s m args c cc nL RX6) (hw : HH wd_M g s S H locs) {k : Nat} (hk : hs wd_M g k 6) (hdg : decode cc pc = .ok (.getfield 107, 3)) (kk : W p l e R s m args below meth c H locs cells slots Q (F0 m (pc + 3) ls (.ref (gg_a g (ky k 45)) :: rest))) : W p l e R s m args below meth c H locs cells slots Q (F0 m pc ls (.ref (gg_o g k) :: rest)) := r_get cx hw hk.2.1 hk.1 (C := RX6) (T := TX6) (N := 75) rfl in_X6 (f := 45) (by decide) wd_1172 rfl (kd := 2) rfl rfl hdg kk
theorem gf_X6_110 (cx : CX wd_M g p s m args c cc nL RX6) (hw : HH wd_M g s S H locs) {k : Nat} (hk : hs wd_M g k 6) (hdg : decode cc pc = .ok (.getfield 110, 3)) (kk : W p l e R s m args below meth c H locs cells slots Q (F0 m (pc + 3) ls (.ref (gg_a g (ky k 46)) :: rest))) : W p l e R s m args below meth c H locs cells slots Q (F0 m pc ls (.ref (gg_o g k) :: rest)) := r_get cx hw hk.2.1 hk.1 (C := RX6) (T := TX6) (N := 75) rfl in_X6 (f := 46) (by decide) wd_1173 rfl (kd := 2) rfl rfl hdg kk
theorem gf_X6_113 (cx : CX wd_M g p s m args c cc nL RX6) (hw : HH wd_M g s S H locs) {k : Nat} (hk : hs wd_M g k 6) (hdg : decode cc pc = .ok (.getfield 113, 3)) (kk : W p l e R s m args below meth c H locs cells slots Q (F0 m (pc + 3) ls (.ref (gg_a g (ky k 47)) :: rest))) : W p l e R s m args below meth c H locs cells slots Q (F0 m pc ls (.ref (gg_o g k) :: rest)) := r_get cx hw hk.2.1 hk.1 (C := RX6) (T := TX6) (N := 75) rfl in_X6 (f := 47) (by decide) wd_1174 rfl (kd := 2) rfl rfl hdg kk
theorem gf_X6_116 (cx : CX wd_M g p s m args c cc nL RX6) (hw : HH wd_M g s S H locs) {k : Nat} (hk : hs wd_M g k 6) (hdg : decode cc pc = .ok (.getfield 116, 3)) (kk : W p l e R s m args below meth c H locs cells slots Q (F0 m (pc + 3) ls (.ref (gg_a g (ky k 49)) :: rest))) : W p l e R s m args below meth c H locs cells slots Q (F0 m pc ls (.ref (gg_o g k) :: rest)) := r_get cx hw hk.2.1 hk.1 (C := RX6) (T := TX6) (N := 75) rfl in_X6 (f := 49) (by decide) wd_1176 rfl (kd := 2) rfl rfl hdg kk
theorem gf_X6_119 (cx : CX wd_M g p s m args c cc nL RX6) (hw : HH wd_M g s S H locs) {k : Nat} (hk : hs wd_M g k 6) (hdg : decode cc pc = .ok (.getfield 119, 3)) (kk : W p l e R s m args below meth c H locs cells slots Q (F0 m (pc + 3) ls (.ref (gg_a g (ky k 50)) :: rest))) : W p l e R s m args below meth c H locs cells slots Q (F0 m pc ls (.ref (gg_o g k) :: rest)) := r_get cx hw hk.2.1 hk.1 (C := RX6) (T := TX6) (N := 75) rfl in_X6 (f := 50) (by decide) wd_1177 rfl (kd := 2) rfl rfl hdg kk
theorem gf_X6_122 (cx : CX wd_M g p s m args c cc nL RX6) (hw : HH wd_M g s S H locs) {k : Nat} (hk : hs wd_M g k 6) (hdg : decode cc pc = .ok (.getfield 122, 3)) (kk : W p l e R s m args below meth c H locs cells slots Q (F0 m (pc + 3) ls (.ref (gg_a g (ky k 52)) :: rest))) : W p l e R s m args below meth c H locs cells slots Q (F0 m pc ls (.ref (gg_o g k) :: rest)) := r_get cx hw hk.2.1 hk.1 (C := RX6) (T := TX6) (N := 75) rfl in_X6 (f := 52) (by decide) wd_1179 rfl (kd := 2) rfl rfl hdg kk
theorem gf_X6_125 (cx : CX wd_M g p s m args c cc nL RX6) (hw : HH wd_M g s S H locs) {k : Nat} (hk : hs wd_M g k 6) (hdg : decode cc pc = .ok (.getfield 125, 3)) (kk : W p l e R s m args below meth c H locs cells slots Q (F0 m (pc + 3) ls (.ref (gg_a g (ky k 54)) :: rest))) : W p l e R s m args below meth c H locs cells slots Q (F0 m pc ls (.ref (gg_o g k) :: rest)) := r_get cx hw hk.2.1 hk.1 (C := RX6) (T := TX6) (N := 75) rfl in_X6 (f := 54) (by decide) wd_1181 rfl (kd := 2) rfl rfl hdg kk
theorem gf_X6_128 (cx : CX wd_M g p s m args c cc nL RX6) (hw : HH wd_M g s S H locs) {k : Nat} (hk : hs wd_M g k 6) (hdg : decode cc pc = .ok (.getfield 128, 3)) (kk : W p l e R s m args below meth c H locs cells slots Q (F0 m (pc + 3) ls (.ref (gg_a g (ky k 55)) :: rest))) : W p l e R s m args below meth c H locs cells slots Q (F0 m pc ls (.ref (gg_o g k) :: rest)) := r_get cx hw hk.2.1 hk.1 (C := RX6) (T := TX6) (N := 75) rfl in_X6 (f := 55) (by decide) wd_1182 rfl (kd := 2) rfl rfl hdg kk
theorem gf_X6_131 (cx : CX wd_M g p s m args c cc nL RX6) (hw : HH wd_M g s S H locs) {k : Nat} (hk : hs wd_M g k 6) (hdg : decode cc pc = .ok (.getfield 131, 3)) (kk : W p l e R s m args below meth c H locs cells slots Q (F0 m (pc + 3) ls (.ref (gg_a g (ky k 56)) :: rest))) : W p l e R s m args below meth c H locs cells slots Q (F0 m pc ls (.ref (gg_o g k) :: rest)) := r_get cx hw hk.2.1 hk.1 (C := RX6) (T := TX6) (N := 75) rfl in_X6 (f := 56) (by decide) wd_1183 rfl (kd := 2) rfl rfl hdg kk
theorem gf_X6_134 (cx : CX wd_M g p s m args c cc nL RX6) (hw : HH wd_M g s S H locs) {k : Nat} (hk : hs wd_M g k 6) (hdg : decode cc pc = .ok (.getfield 134, 3)) (kk : W p l e R s m args below meth c H locs cells slots Q (F0 m (pc + 3) ls (.ref (gg_a g (ky k 58)) :: rest))) : W p l e R s m args below meth c H locs cells slots Q (F0 m pc ls (.ref (gg_o g k) :: rest)) := r_get cx hw hk.2.1 hk.1 (C := RX6) (T := TX6) (N := 75) rfl in_X6 (f := 58) (by decide) wd_1185 rfl (kd := 2) rfl rfl hdg kk
theorem gf_X6_137 (cx : CX wd_M g p s m args c cc nL RX6) (hw : HH wd_M g s S H locs) {k : Nat} (hk : hs wd_M g k 6) (hdg : decode cc pc = .ok (.getfield 137, 3)) (kk : W p l e R s m args below meth c H locs cells slots Q (F0 m (pc + 3) ls (.ref (gg_a g (ky k 59)) :: rest))) : W p l e R s m args below meth c H locs cells slots Q (F0 m pc ls (.ref (gg_o g k) :: rest)) := r_get cx hw hk.2.1 hk.1 (C := RX6) (T := TX6) (N := 75) rfl in_X6 (f := 59) (by decide) wd_1186 rfl (kd := 2) rfl rfl hdg kk
theorem gf_X6_140 (cx : CX wd_M g p s m args c cc nL RX6) (hw : HH wd_M g s S H locs) {k : Nat} (hk : hs wd_M g k 6) (hdg : decode cc pc = .ok (.getfield 140, 3)) (kk : W p l e R s m args below meth c H locs cells slots Q (F0 m (pc + 3) ls (.ref (gg_a g (ky k 62)) :: rest))) : W p l e R s m args below meth c H locs cells slots Q (F0 m pc ls (.ref (gg_o g k) :: rest)) := r_get cx hw hk.2.1 hk.1 (C := RX6) (T := TX6) (N := 75) rfl in_X6 (f := 62) (by decide) wd_1189 rfl (kd := 2) rfl rfl hdg kk
theorem gf_X6_143 (cx : CX wd_M g p s m args c cc nL RX6) (hw : HH wd_M g s S H locs) {k : Nat} (hk : hs wd_M g k 6) (hdg : decode cc pc = .ok (.getfield 143, 3)) (kk : W p l e R s m args below meth c H locs cells slots Q (F0 m (pc + 3) ls (.ref (gg_a g (ky k 63)) :: rest))) : W p l e R s m args below meth c H locs cells slots Q (F0 m pc ls (.ref (gg_o g k) :: rest)) := r_get cx hw hk.2.1 hk.1 (C := RX6) (T := TX6) (N := 75) rfl in_X6 (f := 63) (by decide) wd_1190 rfl (kd := 2) rfl rfl hdg kk
theorem gf_X6_146 (cx : CX wd_M g p s m args c cc nL RX6) (hw : HH wd_M g s S H locs) {k : Nat} (hk : hs wd_M g k 6) (hdg : decode cc pc = .ok (.getfield 146, 3)) (kk : W p l e R s m args below meth c H locs cells slots Q (F0 m (pc + 3) ls (.ref (gg_a g (ky k 64)) :: rest))) : W p l e R s m args below meth c H locs cells slots Q (F0 m pc ls (.ref (gg_o g k) :: rest)) := r_get cx hw hk.2.1 hk.1 (C := RX6) (T := TX6) (N := 75) rfl in_X6 (f := 64) (by decide) wd_1191 rfl (kd := 2) rfl rfl hdg kk
theorem gf_X6_149 (cx : CX wd_M g p s m args c cc nL RX6) (hw : HH wd_M g s S H locs) {k : Nat} (hk : hs wd_M g k 6) (hdg : decode cc pc = .ok (.getfield 149, 3)) (kk : W p l e R s m args below meth c H locs cells slots Q (F0 m (pc + 3) ls (.ref (gg_a g (ky k 65)) :: rest))) : W p l e R s m args below meth c H locs cells slots Q (F0 m pc ls (.ref (gg_o g k) :: rest)) := r_get cx hw hk.2.1 hk.1 (C := RX6) (T := TX6) (N := 75) rfl in_X6 (f := 65) (by decide) wd_1192 rfl (kd := 2) rfl rfl hdg kk
theorem gf_X6_152 (cx : CX wd_M g p s m args c cc nL RX6) (hw : HH wd_M g s S H locs) {k : Nat} (hk : hs wd_M g k 6) (hdg : decode cc pc = .ok (.getfield 152, 3)) (kk : W p l e R s m args below meth c H locs cells slots Q (F0 m (pc + 3) ls (.ref (gg_a g (ky k 66)) :: rest))) : W p l e R s m args below meth c H locs cells slots Q (F0 m pc ls (.ref (gg_o g k) :: rest)) := r_get cx hw hk.2.1 hk.1 (C := RX6) (T := TX6) (N := 75) rfl in_X6 (f := 66) (by decide) wd_1193 rfl (kd := 2) rfl rfl hdg kk
theorem gf_X6_155 (cx : CX wd_M g p s m args c cc nL RX6) (hw : HH wd_M g s S H locs) {k : Nat} (hk : hs wd_M g k 6) (hdg : decode cc pc = .ok (.getfield 155, 3)) (kk : W p l e R s m args below meth c H locs cells slots Q (F0 m (pc + 3) ls (.ref (gg_a g (ky k 68)) :: rest))) : W p l e R s m args below meth c H locs cells slots Q (F0 m pc ls (.ref (gg_o g k) :: rest)) := r_get cx hw hk.2.1 hk.1 (C := RX6) (T := TX6) (N := 75) rfl in_X6 (f := 68) (by decide) wd_1195 rfl (kd := 2) rfl rfl hdg kk
theorem gf_X6_158 (cx : CX wd_M g p s m args c cc nL RX6) (hw : HH wd_M g s S H locs) {k : Nat} (hk : hs wd_M g k 6) (hdg : decode cc pc = .ok (.getfield 158, 3)) (kk : W p l e R s m args below meth c H locs cells slots Q (F0 m (pc + 3) ls (.ref (gg_a g (ky k 69)) :: rest))) : W p l e R s m args below meth c H locs cells slots Q (F0 m pc ls (.ref (gg_o g k) :: rest)) := r_get cx hw hk.2.1 hk.1 (C := RX6) (T := TX6) (N := 75) rfl in_X6 (f := 69) (by decide) wd_1196 rfl (kd := 2) rfl rfl hdg kk
theorem gf_X6_161 (cx : CX wd_M g p s m args c cc nL RX6) (hw : HH wd_M g s S H locs) {k : Nat} (hk : hs wd_M g k 6) (hdg : decode cc pc = .ok (.getfield 161, 3)) (kk : W p l e R s m args below meth c H locs cells slots Q (F0 m (pc + 3) ls (.ref (gg_a g (ky k 70)) :: rest))) : W p l e R s m args below meth c H locs cells slots Q (F0 m pc ls (.ref (gg_o g k) :: rest)) := r_get cx hw hk.2.1 hk.1 (C := RX6) (T := TX6) (N := 75) rfl in_X6 (f := 70) (by decide) wd_1197 rfl (kd := 2) rfl rfl hdg kk
theorem gf_X6_164 (cx : CX wd_M g p s m args c cc nL RX6) (hw : HH wd_M g s S H locs) {k : Nat} (hk : hs wd_M g k 6) (hdg : decode cc pc = .ok (.getfield 164, 3)) (kk : W p l e R s m args below meth c H locs cells slots Q (F0 m (pc + 3) ls (.ref (gg_a g (ky k 71)) :: rest))) : W p l e R s m args below meth c H locs cells slots Q (F0 m pc ls (.ref (gg_o g k) :: rest)) := r_get cx hw hk.2.1 hk.1 (C := RX6) (T := TX6) (N := 75) rfl in_X6 (f := 71) (by decide) wd_1198 rfl (kd := 2) rfl rfl hdg kk
theorem gf_X6_167 (cx : CX wd_M g p s m args c cc nL RX6) (hw : HH wd_M g s S H locs) {k : Nat} (hk : hs wd_M g k 6) (hdg : decode cc pc = .ok (.getfield 167, 3)) (kk : W p l e R s m args below meth c H locs cells slots Q (F0 m (pc + 3) ls (.ref (gg_a g (ky k 72)) :: rest))) : W p l e R s m args below meth c H locs cells slots Q (F0 m pc ls (.ref (gg_o g k) :: rest)) := r_get cx hw hk.2.1 hk.1 (C := RX6) (T := TX6) (N := 75) rfl in_X6 (f := 72) (by decide) wd_1199 rfl (kd := 2) rfl rfl hdg kk
theorem gf_X6_170 (cx : CX wd_M g p s m args c cc nL RX6) (hw : HH wd_M g s S H locs) {k : Nat} (hk : hs wd_M g k 6) (hdg : decode cc pc = .ok (.getfield 170, 3)) (kk : W p l e R s m args below meth c H locs cells slots Q (F0 m (pc + 3) ls (.ref (gg_a g (ky k 73)) :: rest))) : W p l e R s m args below meth c H locs cells slots Q (F0 m pc ls (.ref (gg_o g k) :: rest)) := r_get cx hw hk.2.1 hk.1 (C := RX6) (T := TX6) (N := 75) rfl in_X6 (f := 73) (by decide) wd_1200 rfl (kd := 2) rfl rfl hdg kk
theorem gf_X6_173 (cx : CX wd_M g p s m args c cc nL RX6) (hw : HH wd_M g s S H locs) {k : Nat} (hk : hs wd_M g k 6) (hdg : decode cc pc = .ok (.getfield 173, 3)) (kk : W p l e R s m args below meth c H locs cells slots Q (F0 m (pc + 3) ls (.ref (gg_a g (ky k 74)) :: rest))) : W p l e R s m args below meth c H locs cells slots Q (F0 m pc ls (.ref (gg_o g k) :: rest)) := r_get cx hw hk.2.1 hk.1 (C := RX6) (T := TX6) (N := 75) rfl in_X6 (f := 74) (by decide) wd_1201 rfl (kd := 2) rfl rfl hdg kk
theorem gf_X6_190 (cx : CX wd_M g p s m args c cc nL RX6) (hw : HH wd_M g s S H locs) {k : Nat} (hk : hs wd_M g k 6) (hdg : decode cc pc = .ok (.getfield 190, 3)) (kk : W p l e R s m args below meth c H locs cells slots Q (F0 m (pc + 3) ls (.int (st_I S (ky k 2)) :: rest))) : W p l e R s m args below meth c H locs cells slots Q (F0 m pc ls (.ref (gg_o g k) :: rest)) := r_get cx hw hk.2.1 hk.1 (C := RX6) (T := TX6) (N := 75) rfl in_X6 (f := 2) (by decide) wd_1129 rfl (kd := 0) rfl rfl hdg kk
theorem pf_X6_190 {α β : Type} {A : St → Option α} {K : α → Option β} {r : β} (cx : CX wd_M g p s m args c cc nL RX6) (hw : HH wd_M g s S H locs) {k : Nat} (hk : hs wd_M g k 6) {x : Int32} (hf : (lt_v (up_I S (ky k 2) x) A).bind K = some r) (hdg : decode cc pc = .ok (.putfield 190, 3)) (kk : ∀ (S1 : St) (H1 : Heap) (locs1 : List Loc), HH wd_M g s S1 H1 locs1 → (A S1).bind K = some r → W p l e R s m args below meth c H1 locs1 cells slots Q (F0 m (pc + 3) ls rest)) : W p l e R s m args below meth c H locs cells slots Q (F0 m pc ls (.int x :: .ref (gg_o g k) :: rest)) := r_putI cx hw hk.2.1 hk.1 (C := RX6) (T := TX6) (N := 75) rfl in_X6 tyX6 tyX6_ok nmX6 (f := 2) (by decide) wd_1129 rfl rfl (ty := .int) (by decide +kernel) rfl rfl rfl hf hdg kk
theorem gf_X6_196 (cx : CX wd_M g p s m args c cc nL RX6) (hw : HH wd_M g s S H locs) {k : Nat} (hk : hs wd_M g k 6) (hdg : decode cc pc = .ok (.getfield 196, 3)) (kk : W p l e R s m args below meth c H locs cells slots Q (F0 m (pc + 3) ls (.int (st_I S (ky k 4)) :: rest))) : W p l e R s m args below meth c H locs cells slots Q (F0 m pc ls (.ref (gg_o g k) :: rest)) := r_get cx hw hk.2.1 hk.1 (C := RX6) (T := TX6) (N := 75) rfl in_X6 (f := 4) (by decide) wd_1131 rfl (kd := 0) rfl rfl hdg kk
theorem pf_X6_196 {α β : Type} {A : St → Option α} {K : α → Option β} {r : β} (cx : CX wd_M g p s m args c cc nL RX6) (hw : HH wd_M g s S H locs) {k : Nat} (hk : hs wd_M g k 6) {x : Int32} (hf : (lt_v (up_I S (ky k 4) x) A).bind K = some r) (hdg : decode cc pc = .ok (.putfield 196, 3)) (kk : ∀ (S1 : St) (H1 : Heap) (locs1 : List Loc), HH wd_M g s S1 H1 locs1 → (A S1).bind K = some r → W p l e R s m args below meth c H1 locs1 cells slots Q (F0 m (pc + 3) ls rest)) : W p l e R s m args below meth c H locs cells slots Q (F0 m pc ls (.int x :: .ref (gg_o g k) :: rest)) := r_putI cx hw hk.2.1 hk.1 (C := RX6) (T := TX6) (N := 75) rfl in_X6 tyX6 tyX6_ok nmX6 (f := 4) (by decide) wd_1131 rfl rfl (ty := .int) (by decide +kernel) rfl rfl rfl hf hdg kk
theorem gf_X6_205 (cx : CX wd_M g p s m args c cc nL RX6) (hw : HH wd_M g s S H locs) {k : Nat} (hk : hs wd_M g k 6) (hdg : decode cc pc = .ok (.getfield 205, 3)) (kk : W p l e R s m args below meth c H locs cells slots Q (F0 m (pc + 3) ls (.int (st_I S (ky k 10)) :: rest))) : W p l e R s m args below meth c H locs cells slots Q (F0 m pc ls (.ref (gg_o g k) :: rest)) := r_get cx hw hk.2.1 hk.1 (C := RX6) (T := TX6) (N := 75) rfl in_X6 (f := 10) (by decide) wd_1137 rfl (kd := 0) rfl rfl hdg kk
theorem pf_X6_205 {α β : Type} {A : St → Option α} {K : α → Option β} {r : β} (cx : CX wd_M g p s m args c cc nL RX6) (hw : HH wd_M g s S H locs) {k : Nat} (hk : hs wd_M g k 6) {x : Int32} (hf : (lt_v (up_I S (ky k 10) x) A).bind K = some r) (hdg : decode cc pc = .ok (.putfield 205, 3)) (kk : ∀ (S1 : St) (H1 : Heap) (locs1 : List Loc), HH wd_M g s S1 H1 locs1 → (A S1).bind K = some r → W p l e R s m args below meth c H1 locs1 cells slots Q (F0 m (pc + 3) ls rest)) : W p l e R s m args below meth c H locs cells slots Q (F0 m pc ls (.int x :: .ref (gg_o g k) :: rest)) := r_putI cx hw hk.2.1 hk.1 (C := RX6) (T := TX6) (N := 75) rfl in_X6 tyX6 tyX6_ok nmX6 (f := 10) (by decide) wd_1137 rfl rfl (ty := .int) (by decide +kernel) rfl rfl rfl hf hdg kk
theorem gf_X6_227 (cx : CX wd_M g p s m args c cc nL RX6) (hw : HH wd_M g s S H locs) {k : Nat} (hk : hs wd_M g k 6) (hdg : decode cc pc = .ok (.getfield 227, 3)) (kk : W p l e R s m args below meth c H locs cells slots Q (F0 m (pc + 3) ls (.int (st_I S (ky k 13)) :: rest))) : W p l e R s m args below meth c H locs cells slots Q (F0 m pc ls (.ref (gg_o g k) :: rest)) := r_get cx hw hk.2.1 hk.1 (C := RX6) (T := TX6) (N := 75) rfl in_X6 (f := 13) (by decide) wd_1140 rfl (kd := 0) rfl rfl hdg kk
theorem pf_X6_227 {α β : Type} {A : St → Option α} {K : α → Option β} {r : β} (cx : CX wd_M g p s m args c cc nL RX6) (hw : HH wd_M g s S H locs) {k : Nat} (hk : hs wd_M g k 6) {x : Int32} (hf : (lt_v (up_I S (ky k 13) x) A).bind K = some r) (hdg : decode cc pc = .ok (.putfield 227, 3)) (kk : ∀ (S1 : St) (H1 : Heap) (locs1 : List Loc), HH wd_M g s S1 H1 locs1 → (A S1).bind K = some r → W p l e R s m args below meth c H1 locs1 cells slots Q (F0 m (pc + 3) ls rest)) : W p l e R s m args below meth c H locs cells slots Q (F0 m pc ls (.int x :: .ref (gg_o g k) :: rest)) := r_putI cx hw hk.2.1 hk.1 (C := RX6) (T := TX6) (N := 75) rfl in_X6 tyX6 tyX6_ok nmX6 (f := 13) (by decide) wd_1140 rfl rfl (ty := .int) (by decide +kernel) rfl rfl rfl hf hdg kk
theorem gf_X6_230 (cx : CX wd_M g p s m args c cc nL RX6) (hw : HH wd_M g s S H locs) {k : Nat} (hk : hs wd_M g k 6) (hdg : decode cc pc = .ok (.getfield 230, 3)) (kk : W p l e R s m args below meth c H locs cells slots Q (F0 m (pc + 3) ls (.int (st_I S (ky k 11)) :: rest))) : W p l e R s m args below meth c H locs cells slots Q (F0 m pc ls (.ref (gg_o g k) :: rest)) := r_get cx hw hk.2.1 hk.1 (C := RX6) (T := TX6) (N := 75) rfl in_X6 (f := 11) (by decide) wd_1138 rfl (kd := 0) rfl rfl hdg kk
theorem pf_X6_230 {α β : Type} {A : St → Option α} {K : α → Option β} {r : β} (cx : CX wd_M g p s m args c cc nL RX6) (hw : HH wd_M g s S H locs) {k : Nat} (hk : hs wd_M g k 6) {x : Int32} (hf : (lt_v (up_I S (ky k 11) x) A).bind K = some r) (hdg : decode cc pc = .ok (.putfield 230, 3)) (kk : ∀ (S1 : St) (H1 : Heap) (locs1 : List Loc), HH wd_M g s S1 H1 locs1 → (A S1).bind K = some r → W p l e R s m args below meth c H1 locs1 cells slots Q (F0 m (pc + 3) ls rest)) : W p l e R s m args below meth c H locs cells slots Q (F0 m pc ls (.int x :: .ref (gg_o g k) :: rest)) := r_putI cx hw hk.2.1 hk.1 (C := RX6) (T := TX6) (N := 75) rfl in_X6 tyX6 tyX6_ok nmX6 (f := 11) (by decide) wd_1138 rfl rfl (ty := .int) (by decide +kernel) rfl rfl rfl hf hdg kk
theorem gf_X6_233 (cx : CX wd_M g p s m args c cc nL RX6) (hw : HH wd_M g s S H locs) {k : Nat} (hk : hs wd_M g k 6) (hdg : decode cc pc = .ok (.getfield 233, 3)) (kk : W p l e R s m args below meth c H locs cells slots Q (F0 m (pc + 3) ls (.int (st_I S (ky k 14)) :: rest))) : W p l e R s m args below meth c H locs cells slots Q (F0 m pc ls (.ref (gg_o g k) :: rest)) := r_get cx hw hk.2.1 hk.1 (C := RX6) (T := TX6) (N := 75) rfl in_X6 (f := 14) (by decide) wd_1141 rfl (kd := 0) rfl rfl hdg kk
theorem pf_X6_233 {α β : Type} {A : St → Option α} {K : α → Option β} {r : β} (cx : CX wd_M g p s m args c cc nL RX6) (hw : HH wd_M g s S H locs) {k : Nat} (hk : hs wd_M g k 6) {x : Int32} (hf : (lt_v (up_I S (ky k 14) x) A).bind K = some r) (hdg : decode cc pc = .ok (.putfield 233, 3)) (kk : ∀ (S1 : St) (H1 : Heap) (locs1 : List Loc), HH wd_M g s S1 H1 locs1 → (A S1).bind K = some r → W p l e R s m args below meth c H1 locs1 cells slots Q (F0 m (pc + 3) ls rest)) : W p l e R s m args below meth c H locs cells slots Q (F0 m pc ls (.int x :: .ref (gg_o g k) :: rest)) := r_putI cx hw hk.2.1 hk.1 (C := RX6) (T := TX6) (N := 75) rfl in_X6 tyX6 tyX6_ok nmX6 (f := 14) (by decide) wd_1141 rfl rfl (ty := .int) (by decide +kernel) rfl rfl rfl hf hdg kk
theorem gf_X6_236 (cx : CX wd_M g p s m args c cc nL RX6) (hw : HH wd_M g s S H locs) {k : Nat} (hk : hs wd_M g k 6) (hdg : decode cc pc = .ok (.getfield 236, 3)) (kk : W p l e R s m args below meth c H locs cells slots Q (F0 m (pc + 3) ls (.int (st_I S (ky k 15)) :: rest))) : W p l e R s m args below meth c H locs cells slots Q (F0 m pc ls (.ref (gg_o g k) :: rest)) := r_get cx hw hk.2.1 hk.1 (C := RX6) (T := TX6) (N := 75) rfl in_X6 (f := 15) (by decide) wd_1142 rfl (kd := 0) rfl rfl hdg kk
theorem pf_X6_236 {α β : Type} {A : St → Option α} {K : α → Option β} {r : β} (cx : CX wd_M g p s m args c cc nL RX6) (hw : HH wd_M g s S H locs) {k : Nat} (hk : hs wd_M g k 6) {x : Int32} (hf : (lt_v (up_I S (ky k 15) x) A).bind K = some r) (hdg : decode cc pc = .ok (.putfield 236, 3)) (kk : ∀ (S1 : St) (H1 : Heap) (locs1 : List Loc), HH wd_M g s S1 H1 locs1 → (A S1).bind K = some r → W p l e R s m args below meth c H1 locs1 cells slots Q (F0 m (pc + 3) ls rest)) : W p l e R s m args below meth c H locs cells slots Q (F0 m pc ls (.int x :: .ref (gg_o g k) :: rest)) := r_putI cx hw hk.2.1 hk.1 (C := RX6) (T := TX6) (N := 75) rfl in_X6 tyX6 tyX6_ok nmX6 (f := 15) (by decide) wd_1142 rfl rfl (ty := .int) (by decide +kernel) rfl rfl rfl hf hdg kk
theorem gf_X6_239 (cx : CX wd_M g p s m args c cc nL RX6) (hw : HH wd_M g s S H locs) {k : Nat} (hk : hs wd_M g k 6) (hdg : decode cc pc = .ok (.getfield 239, 3)) (kk : W p l e R s m args below meth c H locs cells slots Q (F0 m (pc + 3) ls (.int (st_I S (ky k 16)) :: rest))) : W p l e R s m args below meth c H locs cells slots Q (F0 m pc ls (.ref (gg_o g k) :: rest)) := r_get cx hw hk.2.1 hk.1 (C := RX6) (T := TX6) (N := 75) rfl in_X6 (f := 16) (by decide) wd_1143 rfl (kd := 0) rfl rfl hdg kk
theorem pf_X6_239 {α β : Type} {A : St → Option α} {K : α → Option β} {r : β} (cx : CX wd_M g p s m args c cc nL RX6) (hw : HH wd_M g s S H locs) {k : Nat} (hk : hs wd_M g k 6) {x : Int32} (hf : (lt_v (up_I S (ky k 16) x) A).bind K = some r) (hdg : decode cc pc = .ok (.putfield 239, 3)) (kk : ∀ (S1 : St) (H1 : Heap) (locs1 : List Loc), HH wd_M g s S1 H1 locs1 → (A S1).bind K = some r → W p l e R s m args below meth c H1 locs1 cells slots Q (F0 m (pc + 3) ls rest)) : W p l e R s m args below meth c H locs cells slots Q (F0 m pc ls (.int x :: .ref (gg_o g k) :: rest)) := r_putI cx hw hk.2.1 hk.1 (C := RX6) (T := TX6) (N := 75) rfl in_X6 tyX6 tyX6_ok nmX6 (f := 16) (by decide) wd_1143 rfl rfl (ty := .int) (by decide +kernel) rfl rfl rfl hf hdg kk
theorem gf_X6_254 (cx : CX wd_M g p s m args c cc nL RX6) (hw : HH wd_M g s S H locs) {k : Nat} (hk : hs wd_M g k 6) (hdg : decode cc pc = .ok (.getfield 254, 3)) (kk : W p l e R s m args below meth c H locs cells slots Q (F0 m (pc + 3) ls (.int (st_I S (ky k 12)) :: rest))) : W p l e R s m args below meth c H locs cells slots Q (F0 m pc ls (.ref (gg_o g k) :: rest)) := r_get cx hw hk.2.1 hk.1 (C := RX6) (T := TX6) (N := 75) rfl in_X6 (f := 12) (by decide) wd_1139 rfl (kd := 0) rfl rfl hdg kk
theorem pf_X6_254 {α β : Type} {A : St → Option α} {K : α → Option β} {r : β} (cx : CX wd_M g p s m args c cc nL RX6) (hw : HH wd_M g s S H locs) {k : Nat} (hk : hs wd_M g k 6) {x : Int32} (hf : (lt_v (up_I S (ky k 12) x) A).bind K = some r) (hdg : decode cc pc = .ok (.putfield 254, 3)) (kk : ∀ (S1 : St) (H1 : Heap) (locs1 : List Loc), HH wd_M g s S1 H1 locs1 → (A S1).bind K = some r → W p l e R s m args below meth c H1 locs1 cells slots Q (F0 m (pc + 3) ls rest)) : W p l e R s m args below meth c H locs cells slots Q (F0 m pc ls (.int x :: .ref (gg_o g k) :: rest)) := r_putI cx hw hk.2.1 hk.1 (C := RX6) (T := TX6) (N := 75) rfl in_X6 tyX6 tyX6_ok nmX6 (f := 12) (by decide) wd_1139 rfl rfl (ty := .int) (by decide +kernel) rfl rfl rfl hf hdg kk
theorem gf_X6_257 (cx : CX wd_M g p s m args c cc nL RX6) (hw : HH wd_M g s S H locs) {k : Nat} (hk : hs wd_M g k 6) (hdg : decode cc pc = .ok (.getfield 257, 3)) (kk : W p l e R s m args below meth c H locs cells slots Q (F0 m (pc + 3) ls (.int (st_I S (ky k 18)) :: rest))) : W p l e R s m args below meth c H locs cells slots Q (F0 m pc ls (.ref (gg_o g k) :: rest)) := r_get cx hw hk.2.1 hk.1 (C := RX6) (T := TX6) (N := 75) rfl in_X6 (f := 18) (by decide) wd_1145 rfl (kd := 0) rfl rfl hdg kk
theorem pf_X6_257 {α β : Type} {A : St → Option α} {K : α → Option β} {r : β} (cx : CX wd_M g p s m args c cc nL RX6) (hw : HH wd_M g s S H locs) {k : Nat} (hk : hs wd_M g k 6) {x : Int32} (hf : (lt_v (up_I S (ky k 18) x) A).bind K = some r) (hdg : decode cc pc = .ok (.putfield 257, 3)) (kk : ∀ (S1 : St) (H1 : Heap) (locs1 : List Loc), HH wd_M g s S1 H1 locs1 → (A S1).bind K = some r → W p l e R s m args below meth c H1 locs1 cells slots Q (F0 m (pc + 3) ls rest)) : W p l e R s m args below meth c H locs cells slots Q (F0 m pc ls (.int x :: .ref (gg_o g k) :: rest)) := r_putI cx hw hk.2.1 hk.1 (C := RX6) (T := TX6) (N := 75) rfl in_X6 tyX6 tyX6_ok nmX6 (f := 18) (by decide) wd_1145 rfl rfl (ty := .int) (by decide +kernel) rfl rfl rfl hf hdg kk
theorem gf_X6_260 (cx : CX wd_M g p s m args c cc nL RX6) (hw : HH wd_M g s S H locs) {k : Nat} (hk : hs wd_M g k 6) (hdg : decode cc pc = .ok (.getfield 260, 3)) (kk : W p l e R s m args below meth c H locs cells slots Q (F0 m (pc + 3) ls (.int (st_I S (ky k 19)) :: rest))) : W p l e R s m args below meth c H locs cells slots Q (F0 m pc ls (.ref (gg_o g k) :: rest)) := r_get cx hw hk.2.1 hk.1 (C := RX6) (T := TX6) (N := 75) rfl in_X6 (f := 19) (by decide) wd_1146 rfl (kd := 0) rfl rfl hdg kk
theorem pf_X6_260 {α β : Type} {A : St → Option α} {K : α → Option β} {r : β} (cx : CX wd_M g p s m args c cc nL RX6) (hw : HH wd_M g s S H locs) {k : Nat} (hk : hs wd_M g k 6) {x : Int32} (hf : (lt_v (up_I S (ky k 19) x) A).bind K = some r) (hdg : decode cc pc = .ok (.putfield 260, 3)) (kk : ∀ (S1 : St) (H1 : Heap) (locs1 : List Loc), HH wd_M g s S1 H1 locs1 → (A S1).bind K = some r → W p l e R s m args below meth c H1 locs1 cells slots Q (F0 m (pc + 3) ls rest)) : W p l e R s m args below meth c H locs cells slots Q (F0 m pc ls (.int x :: .ref (gg_o g k) :: rest)) := r_putI cx hw hk.2.1 hk.1 (C := RX6) (T := TX6) (N := 75) rfl in_X6 tyX6 tyX6_ok nmX6 (f := 19) (by decide) wd_1146 rfl rfl (ty := .int) (by decide +kernel) rfl rfl rfl hf hdg kk
theorem gf_X6_263 (cx : CX wd_M g p s m args c cc nL RX6) (hw : HH wd_M g s S H locs) {k : Nat} (hk : hs wd_M g k 6) (hdg : decode cc pc = .ok (.getfield 263, 3)) (kk : W p l e R s m args below meth c H locs cells slots Q (F0 m (pc + 3) ls (.int (st_I S (ky k 20)) :: rest))) : W p l e R s m args below meth c H locs cells slots Q (F0 m pc ls (.ref (gg_o g k) :: rest)) := r_get cx hw hk.2.1 hk.1 (C := RX6) (T := TX6) (N := 75) rfl in_X6 (f := 20) (by decide) wd_1147 rfl (kd := 0) rfl rfl hdg kk
theorem pf_X6_263 {α β : Type} {A : St → Option α} {K : α → Option β} {r : β} (cx : CX wd_M g p s m args c cc nL RX6) (hw : HH wd_M g s S H locs) {k : Nat} (hk : hs wd_M g k 6) {x : Int32} (hf : (lt_v (up_I S (ky k 20) x) A).bind K = some r) (hdg : decode cc pc = .ok (.putfield 263, 3)) (kk : ∀ (S1 : St) (H1 : Heap) (locs1 : List Loc), HH wd_M g s S1 H1 locs1 → (A S1).bind K = some r → W p l e R s m args below meth c H1 locs1 cells slots Q (F0 m (pc + 3) ls rest)) : W p l e R s m args below meth c H locs cells slots Q (F0 m pc ls (.int x :: .ref (gg_o g k) :: rest)) := r_putI cx hw hk.2.1 hk.1 (C := RX6) (T := TX6) (N := 75) rfl in_X6 tyX6 tyX6_ok nmX6 (f := 20) (by decide) wd_1147 rfl rfl (ty := .int) (by decide +kernel) rfl rfl rfl hf hdg kk
theorem gf_X6_266 (cx : CX wd_M g p s m args c cc nL RX6) (hw : HH wd_M g s S H locs) {k : Nat} (hk : hs wd_M g k 6) (hdg : decode cc pc = .ok (.getfield 266, 3)) (kk : W p l e R s m args below meth c H locs cells slots Q (F0 m (pc + 3) ls (.int (st_I S (ky k 38)) :: rest))) : W p l e R s m args below meth c H locs cells slots Q (F0 m pc ls (.ref (gg_o g k) :: rest)) := r_get cx hw hk.2.1 hk.1 (C := RX6) (T := TX6) (N := 75) rfl in_X6 (f := 38) (by decide) wd_1165 rfl (kd := 0) rfl rfl hdg kk
theorem pf_X6_266 {α β : Type} {A : St → Option α} {K : α → Option β} {r : β} (cx : CX wd_M g p s m args c cc nL RX6) (hw : HH wd_M g s S H locs) {k : Nat} (hk : hs wd_M g k 6) {x : Int32} (hf : (lt_v (up_I S (ky k 38) x) A).bind K = some r) (hdg : decode cc pc = .ok (.putfield 266, 3)) (kk : ∀ (S1 : St) (H1 : Heap) (locs1 : List Loc), HH wd_M g s S1 H1 locs1 → (A S1).bind K = some r → W p l e R s m args below meth c H1 locs1 cells slots Q (F0 m (pc + 3) ls rest)) : W p l e R s m args below meth c H locs cells slots Q (F0 m pc ls (.int x :: .ref (gg_o g k) :: rest)) := r_putI cx hw hk.2.1 hk.1 (C := RX6) (T := TX6) (N := 75) rfl in_X6 tyX6 tyX6_ok nmX6 (f := 38) (by decide) wd_1165 rfl rfl (ty := .int) (by decide +kernel) rfl rfl rfl hf hdg kk
theorem gf_X6_269 (cx : CX wd_M g p s m args c cc nL RX6) (hw : HH wd_M g s S H locs) {k : Nat} (hk : hs wd_M g k 6) (hdg : decode cc pc = .ok (.getfield 269, 3)) (kk : W p l e R s m args below meth c H locs cells slots Q (F0 m (pc + 3) ls (.int (st_I S (ky k 44)) :: rest))) : W p l e R s m args below meth c H locs cells slots Q (F0 m pc ls (.ref (gg_o g k) :: rest)) := r_get cx hw hk.2.1 hk.1 (C := RX6) (T := TX6) (N := 75) rfl in_X6 (f := 44) (by decide) wd_1171 rfl (kd := 0) rfl rfl hdg kk
theorem pf_X6_269 {α β : Type} {A : St → Option α} {K : α → Option β} {r : β} (cx : CX wd_M g p s m args c cc nL RX6) (hw : HH wd_M g s S H locs) {k : Nat} (hk : hs wd_M g k 6) {x : Int32} (hf : (lt_v (up_I S (ky k 44) x) A).bind K = some r) (hdg : decode cc pc = .ok (.putfield 269, 3)) (kk : ∀ (S1 : St) (H1 : Heap) (locs1 : List Loc), HH wd_M g s S1 H1 locs1 → (A S1).bind K = some r → W p l e R s m args below meth c H1 locs1 cells slots Q (F0 m (pc + 3) ls rest)) : W p l e R s m args below meth c H locs cells slots Q (F0 m pc ls (.int x :: .ref (gg_o g k) :: rest)) := r_putI cx hw hk.2.1 hk.1 (C := RX6) (T := TX6) (N := 75) rfl in_X6 tyX6 tyX6_ok nmX6 (f := 44) (by decide) wd_1171 rfl rfl (ty := .int) (by decide +kernel) rfl rfl rfl hf hdg kk
theorem gf_X6_275 (cx : CX wd_M g p s m args c cc nL RX6) (hw : HH wd_M g s S H locs) {k : Nat} (hk : hs wd_M g k 6) (hdg : decode cc pc = .ok (.getfield 275, 3)) (kk : W p l e R s m args below meth c H locs cells slots Q (F0 m (pc + 3) ls (.int (st_I S (ky k 61)) :: rest))) : W p l e R s m args below meth c H locs cells slots Q (F0 m pc ls (.ref (gg_o g k) :: rest)) := r_get cx hw hk.2.1 hk.1 (C := RX6) (T := TX6) (N := 75) rfl in_X6 (f := 61) (by decide) wd_1188 rfl (kd := 0) rfl rfl hdg kk
theorem pf_X6_275 {α β : Type} {A : St → Option α} {K : α → Option β} {r : β} (cx : CX wd_M g p s m args c cc nL RX6) (hw : HH wd_M g s S H locs) {k : Nat} (hk : hs wd_M g k 6) {x : Int32} (hf : (lt_v (up_I S (ky k 61) x) A).bind K = some r) (hdg : decode cc pc = .ok (.putfield 275, 3)) (kk : ∀ (S1 : St) (H1 : Heap) (locs1 : List Loc), HH wd_M g s S1 H1 locs1 → (A S1).bind K = some r → W p l e R s m args below meth c H1 locs1 cells slots Q (F0 m (pc + 3) ls rest)) : W p l e R s m args below meth c H locs cells slots Q (F0 m pc ls (.int x :: .ref (gg_o g k) :: rest)) := r_putI cx hw hk.2.1 hk.1 (C := RX6) (T := TX6) (N := 75) rfl in_X6 tyX6 tyX6_ok nmX6 (f := 61) (by decide) wd_1188 rfl rfl (ty := .int) (by decide +kernel) rfl rfl rfl hf hdg kk
theorem gf_X6_278 (cx : CX wd_M g p s m args c cc nL RX6) (hw : HH wd_M g s S H locs) {k : Nat} (hk : hs wd_M g k 6) (hdg : decode cc pc = .ok (.getfield 278, 3)) (kk : W p l e R s m args below meth c H locs cells slots Q (F0 m (pc + 3) ls (.int (st_I S (ky k 67)) :: rest))) : W p l e R s m args below meth c H locs cells slots Q (F0 m pc ls (.ref (gg_o g k) :: rest)) := r_get cx hw hk.2.1 hk.1 (C := RX6) (T := TX6) (N := 75) rfl in_X6 (f := 67) (by decide) wd_1194 rfl (kd := 0) rfl rfl hdg kk
theorem pf_X6_278 {α β : Type} {A : St → Option α} {K : α → Option β} {r : β} (cx : CX wd_M g p s m args c cc nL RX6) (hw : HH wd_M g s S H locs) {k : Nat} (hk : hs wd_M g k 6) {x : Int32} (hf : (lt_v (up_I S (ky k 67) x) A).bind K = some r) (hdg : decode cc pc = .ok (.putfield 278, 3)) (kk : ∀ (S1 : St) (H1 : Heap) (locs1 : List Loc), HH wd_M g s S1 H1 locs1 → (A S1).bind K = some r → W p l e R s m args below meth c H1 locs1 cells slots Q (F0 m (pc + 3) ls rest)) : W p l e R s m args below meth c H locs cells slots Q (F0 m pc ls (.int x :: .ref (gg_o g k) :: rest)) := r_putI cx hw hk.2.1 hk.1 (C := RX6) (T := TX6) (N := 75) rfl in_X6 tyX6 tyX6_ok nmX6 (f := 67) (by decide) wd_1194 rfl rfl (ty := .int) (by decide +kernel) rfl rfl rfl hf hdg kk
theorem gf_X6_324 (cx : CX wd_M g p s m args c cc nL RX6) (hw : HH wd_M g s S H locs) {k : Nat} (hk : hs wd_M g k 6) (hdg : decode cc pc = .ok (.getfield 324, 3)) (kk : W p l e R s m args below meth c H locs cells slots Q (F0 m (pc + 3) ls (.int (st_I S (ky k 48)) :: rest))) : W p l e R s m args below meth c H locs cells slots Q (F0 m pc ls (.ref (gg_o g k) :: rest)) := r_get cx hw hk.2.1 hk.1 (C := RX6) (T := TX6) (N := 75) rfl in_X6 (f := 48) (by decide) wd_1175 rfl (kd := 0) rfl rfl hdg kk
theorem pf_X6_324 {α β : Type} {A : St → Option α} {K : α → Option β} {r : β} (cx : CX wd_M g p s m args c cc nL RX6) (hw : HH wd_M g s S H locs) {k : Nat} (hk : hs wd_M g k 6) {x : Int32} (hf : (lt_v (up_I S (ky k 48) x) A).bind K = some r) (hdg : decode cc pc = .ok (.putfield 324, 3)) (kk : ∀ (S1 : St) (H1 : Heap) (locs1 : List Loc), HH wd_M g s S1 H1 locs1 → (A S1).bind K = some r → W p l e R s m args below meth c H1 locs1 cells slots Q (F0 m (pc + 3) ls rest)) : W p l e R s m args below meth c H locs cells slots Q (F0 m pc ls (.int x :: .ref (gg_o g k) :: rest)) := r_putI cx hw hk.2.1 hk.1 (C := RX6) (T := TX6) (N := 75) rfl in_X6 tyX6 tyX6_ok nmX6 (f := 48) (by decide) wd_1175 rfl rfl (ty := .int) (by decide +kernel) rfl rfl rfl hf hdg kk
theorem gf_X6_337 (cx : CX wd_M g p s m args c cc nL RX6) (hw : HH wd_M g s S H locs) {k : Nat} (hk : hs wd_M g k 6) (hdg : decode cc pc = .ok (.getfield 337, 3)) (kk : W p l e R s m args below meth c H locs cells slots Q (F0 m (pc + 3) ls (.int (st_I S (ky k 51)) :: rest))) : W p l e R s m args below meth c H locs cells slots Q (F0 m pc ls (.ref (gg_o g k) :: rest)) := r_get cx hw hk.2.1 hk.1 (C := RX6) (T := TX6) (N := 75) rfl in_X6 (f := 51) (by decide) wd_1178 rfl (kd := 0) rfl rfl hdg kk
theorem pf_X6_337 {α β : Type} {A : St → Option α} {K : α → Option β} {r : β} (cx : CX wd_M g p s m args c cc nL RX6) (hw : HH wd_M g s S H locs) {k : Nat} (hk : hs wd_M g k 6) {x : Int32} (hz : isb x) (hf : (lt_v (up_I S (ky k 51) x) A).bind K = some r) (hdg : decode cc pc = .ok (.putfield 337, 3)) (kk : ∀ (S1 : St) (H1 : Heap) (locs1 : List Loc), HH wd_M g s S1 H1 locs1 → (A S1).bind K = some r → W p l e R s m args below meth c H1 locs1 cells slots Q (F0 m (pc + 3) ls rest)) : W p l e R s m args below meth c H locs cells slots Q (F0 m pc ls (.int x :: .ref (gg_o g k) :: rest)) := r_putI cx hw hk.2.1 hk.1 (C := RX6) (T := TX6) (N := 75) rfl in_X6 tyX6 tyX6_ok nmX6 (f := 51) (by decide) wd_1178 rfl rfl (ty := .boolean) (by decide +kernel) (n_bool hz) (f_bool hz) rfl hf hdg kk
theorem gf_X6_345 (cx : CX wd_M g p s m args c cc nL RX6) (hw : HH wd_M g s S H locs) {k : Nat} (hk : hs wd_M g k 6) (hdg : decode cc pc = .ok (.getfield 345, 3)) (kk : W p l e R s m args below meth c H locs cells slots Q (F0 m (pc + 3) ls (.int (st_I S (ky k 53)) :: rest))) : W p l e R s m args below meth c H locs cells slots Q (F0 m pc ls (.ref (gg_o g k) :: rest)) := r_get cx hw hk.2.1 hk.1 (C := RX6) (T := TX6) (N := 75) rfl in_X6 (f := 53) (by decide) wd_1180 rfl (kd := 0) rfl rfl hdg kk
theorem pf_X6_345 {α β : Type} {A : St → Option α} {K : α → Option β} {r : β} (cx : CX wd_M g p s m args c cc nL RX6) (hw : HH wd_M g s S H locs) {k : Nat} (hk : hs wd_M g k 6) {x : Int32} (hf : (lt_v (up_I S (ky k 53) x) A).bind K = some r) (hdg : decode cc pc = .ok (.putfield 345, 3)) (kk : ∀ (S1 : St) (H1 : Heap) (locs1 : List Loc), HH wd_M g s S1 H1 locs1 → (A S1).bind K = some r → W p l e R s m args below meth c H1 locs1 cells slots Q (F0 m (pc + 3) ls rest)) : W p l e R s m args below meth c H locs cells slots Q (F0 m pc ls (.int x :: .ref (gg_o g k) :: rest)) := r_putI cx hw hk.2.1 hk.1 (C := RX6) (T := TX6) (N := 75) rfl in_X6 tyX6 tyX6_ok nmX6 (f := 53) (by decide) wd_1180 rfl rfl (ty := .int) (by decide +kernel) rfl rfl rfl hf hdg kk
theorem gf_X6_348 (cx : CX wd_M g p s m args c cc nL RX6) (hw : HH wd_M g s S H locs) {k : Nat} (hk : hs wd_M g k 6) (hdg : decode cc pc = .ok (.getfield 348, 3)) (kk : W p l e R s m args below meth c H locs cells slots Q (F0 m (pc + 3) ls (.int (st_I S (ky k 57)) :: rest))) : W p l e R s m args below meth c H locs cells slots Q (F0 m pc ls (.ref (gg_o g k) :: rest)) := r_get cx hw hk.2.1 hk.1 (C := RX6) (T := TX6) (N := 75) rfl in_X6 (f := 57) (by decide) wd_1184 rfl (kd := 0) rfl rfl hdg kk
theorem pf_X6_348 {α β : Type} {A : St → Option α} {K : α → Option β} {r : β} (cx : CX wd_M g p s m args c cc nL RX6) (hw : HH wd_M g s S H locs) {k : Nat} (hk : hs wd_M g k 6) {x : Int32} (hf : (lt_v (up_I S (ky k 57) x) A).bind K = some r) (hdg : decode cc pc = .ok (.putfield 348, 3)) (kk : ∀ (S1 : St) (H1 : Heap) (locs1 : List Loc), HH wd_M g s S1 H1 locs1 → (A S1).bind K = some r → W p l e R s m args below meth c H1 locs1 cells slots Q (F0 m (pc + 3) ls rest)) : W p l e R s m args below meth c H locs cells slots Q (F0 m pc ls (.int x :: .ref (gg_o g k) :: rest)) := r_putI cx hw hk.2.1 hk.1 (C := RX6) (T := TX6) (N := 75) rfl in_X6 tyX6 tyX6_ok nmX6 (f := 57) (by decide) wd_1184 rfl rfl (ty := .int) (by decide +kernel) rfl rfl rfl hf hdg kk
theorem gf_X6_351 (cx : CX wd_M g p s m args c cc nL RX6) (hw : HH wd_M g s S H locs) {k : Nat} (hk : hs wd_M g k 6) (hdg : decode cc pc = .ok (.getfield 351, 3)) (kk : W p l e R s m args below meth c H locs cells slots Q (F0 m (pc + 3) ls (.int (st_I S (ky k 60)) :: rest))) : W p l e R s m args below meth c H locs cells slots Q (F0 m pc ls (.ref (gg_o g k) :: rest)) := r_get cx hw hk.2.1 hk.1 (C := RX6) (T := TX6) (N := 75) rfl in_X6 (f := 60) (by decide) wd_1187 rfl (kd := 0) rfl rfl hdg kk
theorem pf_X6_351 {α β : Type} {A : St → Option α} {K : α → Option β} {r : β} (cx : CX wd_M g p s m args c cc nL RX6) (hw : HH wd_M g s S H locs) {k : Nat} (hk : hs wd_M g k 6) {x : Int32} (hf : (lt_v (up_I S (ky k 60) x) A).bind K = some r) (hdg : decode cc pc = .ok (.putfield 351, 3)) (kk : ∀ (S1 : St) (H1 : Heap) (locs1 : List Loc), HH wd_M g s S1 H1 locs1 → (A S1).bind K = some r → W p l e R s m args below meth c H1 locs1 cells slots Q (F0 m (pc + 3) ls rest)) : W p l e R s m args below meth c H locs cells slots Q (F0 m pc ls (.int x :: .ref (gg_o g k) :: rest)) := r_putI cx hw hk.2.1 hk.1 (C := RX6) (T := TX6) (N := 75) rfl in_X6 tyX6 tyX6_ok nmX6 (f := 60) (by decide) wd_1187 rfl rfl (ty := .int) (by decide +kernel) rfl rfl rfl hf hdg kk
end FW
theorem lk_X5_19 : LnI RX5 19 "LateMirrors" yX3_init cX3_init 4 0 := ⟨wd_26, wd_27, wd_2, wd_28, by decide +kernel, rfl⟩
theorem lk_X5_26 : LnI RX5 26 "LateMirrors" yX4_init cX4_init 1 0 := ⟨wd_153, wd_154, wd_8, wd_155, by decide +kernel, rfl⟩
theorem lk_X5_36 : LnI RX5 36 "LateMirrors" yX0_init cX0_init 2 1 := ⟨wd_276, wd_277, wd_10, wd_278, by decide +kernel, rfl⟩
theorem lk_X5_48 : LnI RX5 48 "LateMirrors" yX2_init cX2_init 1 0 := ⟨wd_378, wd_379, wd_13, wd_380, by decide +kernel, rfl⟩
theorem lk_X5_72 : LkV RX5 72 RX5 yX5_addBytes cX5_addBytes 3 none 1 := ⟨wd_447, wd_449, wd_s1_13, wd_1, wd_450, by decide +kernel⟩
theorem lk_X5_76 : LkS RX5 76 yX5_put cX5_put 3 none 3 := ⟨wd_451, wd_199, wd_1, wd_200, by decide +kernel⟩
theorem lk_X5_80 : LnV RX5 80 "LateMirrors" RX3 yX3_scan cX3_scan 7 (some .int) 2 := ⟨wd_460, wd_462, wd_s1_14, wd_2, wd_463, by decide +kernel⟩
theorem lk_X5_85 : LnV RX5 85 "LateMirrors" RX4 yX4_build cX4_build 4 (some .int) 1 := ⟨wd_606, wd_608, wd_s2_12, wd_8, wd_609, by decide +kernel⟩
theorem lk_X5_90 : LkV RX5 90 RX5 yX5_takeSpare cX5_takeSpare 2 none 0 := ⟨wd_672, wd_674, wd_s3_10, wd_1, wd_675, by decide +kernel⟩
theorem lk_X5_93 : LnV RX5 93 "LateMirrors" RX0 yX0_begin cX0_begin 3 none 1 := ⟨wd_676, wd_282, wd_s1_3, wd_10, wd_283, by decide +kernel⟩
theorem lk_X5_96 : LnV RX5 96 "LateMirrors" RX2 yX2_clear cX2_clear 1 none 0 := ⟨wd_677, wd_679, wd_s3_11, wd_13, wd_680, by decide +kernel⟩
theorem lk_X5_105 : LkV RX5 105 RX5 yX5_isMan cX5_isMan 2 (some .boolean) 1 := ⟨wd_689, wd_691, wd_s3_12, wd_1, wd_692, by decide +kernel⟩
theorem lk_X5_109 : LkV RX5 109 RX5 yX5_isPast cX5_isPast 2 (some .boolean) 1 := ⟨wd_694, wd_696, wd_s3_13, wd_1, wd_697, by decide +kernel⟩
theorem lk_X5_112 : LkS RX5 112 yX5_within cX5_within 2 (some .boolean) 2 := ⟨wd_693, wd_562, wd_1, wd_563, by decide +kernel⟩
theorem lk_X5_116 : LnV RX5 116 "LateMirrors" RX0 yX0_roomOf cX0_roomOf 3 (some .int) 2 := ⟨wd_698, wd_700, wd_s3_14, wd_10, wd_701, by decide +kernel⟩
theorem lk_X5_120 : LnV RX5 120 "LateMirrors" RX0 yX0_rankOf cX0_rankOf 3 (some .int) 2 := ⟨wd_702, wd_305, wd_s1_6, wd_10, wd_306, by decide +kernel⟩
theorem lk_X5_123 : LkV RX5 123 RX5 yX5_isMirror cX5_isMirror 2 (some .boolean) 1 := ⟨wd_707, wd_709, wd_s3_15, wd_1, wd_710, by decide +kernel⟩
theorem lk_X5_126 : LnV RX5 126 "LateMirrors" RX0 yX0_hangOf cX0_hangOf 3 (some .int) 2 := ⟨wd_711, wd_314, wd_s1_8, wd_10, wd_315, by decide +kernel⟩
theorem lk_X5_129 : LnV RX5 129 "LateMirrors" RX0 yX0_lateOf cX0_lateOf 3 (some .int) 2 := ⟨wd_712, wd_714, wd_s4_0, wd_10, wd_715, by decide +kernel⟩
theorem lk_X5_132 : LnV RX5 132 "LateMirrors" RX0 yX0_isTurned cX0_isTurned 3 (some .boolean) 2 := ⟨wd_716, wd_718, wd_s4_1, wd_10, wd_719, by decide +kernel⟩
theorem lk_X5_135 : LnV RX5 135 "LateMirrors" RX0 yX0_isBroken cX0_isBroken 3 (some .boolean) 2 := ⟨wd_723, wd_725, wd_s4_2, wd_10, wd_726, by decide +kernel⟩
theorem lk_X5_138 : LnV RX5 138 "LateMirrors" RX0 yX0_showing cX0_showing 4 (some .int) 2 := ⟨wd_727, wd_729, wd_s4_3, wd_10, wd_730, by decide +kernel⟩
theorem lk_X5_141 : LnV RX5 141 "LateMirrors" RX0 yX0_roomShown cX0_roomShown 4 (some .int) 2 := ⟨wd_734, wd_736, wd_s4_4, wd_10, wd_737, by decide +kernel⟩
theorem lk_X5_144 : LnV RX5 144 "LateMirrors" RX0 yX0_menShown cX0_menShown 4 (some .int) 2 := ⟨wd_739, wd_741, wd_s4_5, wd_10, wd_742, by decide +kernel⟩
theorem lk_X5_150 : LnV RX5 150 "LateMirrors" RX2 yX2_keep cX2_keep 2 none 1 := ⟨wd_747, wd_749, wd_s4_6, wd_13, wd_750, by decide +kernel⟩
theorem lk_X5_154 : LnV RX5 154 "LateMirrors" RX0 yX0_goTo cX0_goTo 5 none 1 := ⟨wd_755, wd_757, wd_s4_8, wd_10, wd_758, by decide +kernel⟩
theorem lk_X5_157 : LnV RX5 157 "LateMirrors" RX4 yX4_wayTo cX4_wayTo 7 (some .int) 2 := ⟨wd_791, wd_770, wd_s4_11, wd_8, wd_771, by decide +kernel⟩
theorem lk_X5_160 : LnV RX5 160 "LateMirrors" RX0 yX0_putMan cX0_putMan 3 none 2 := ⟨wd_792, wd_794, wd_s4_14, wd_10, wd_795, by decide +kernel⟩
theorem lk_X5_164 : LkS RX5 164 yX5_isRank cX5_isRank 1 (some .boolean) 1 := ⟨wd_800, wd_801, wd_1, wd_802, by decide +kernel⟩
theorem lk_X5_167 : LnV RX5 167 "LateMirrors" RX0 yX0_putRank cX0_putRank 3 none 2 := ⟨wd_803, wd_805, wd_s4_15, wd_10, wd_806, by decide +kernel⟩
theorem lk_X5_170 : LkV RX5 170 RX5 yX5_isRoom cX5_isRoom 2 (some .boolean) 1 := ⟨wd_811, wd_813, wd_s5_0, wd_1, wd_814, by decide +kernel⟩
theorem lk_X5_173 : LnV RX5 173 "LateMirrors" RX0 yX0_putMirror cX0_putMirror 3 none 2 := ⟨wd_815, wd_817, wd_s5_1, wd_10, wd_818, by decide +kernel⟩
theorem lk_X5_176 : LnV RX5 176 "LateMirrors" RX0 yX0_putWall cX0_putWall 4 none 2 := ⟨wd_823, wd_825, wd_s5_2, wd_10, wd_826, by decide +kernel⟩
theorem lk_X5_180 : LnV RX5 180 "LateMirrors" RX0 yX0_breakNow cX0_breakNow 2 none 1 := ⟨wd_831, wd_785, wd_s4_13, wd_10, wd_786, by decide +kernel⟩
theorem lk_X5_183 : LnV RX5 183 "LateMirrors" RX2 yX2_takeBack cX2_takeBack 2 (some .boolean) 1 := ⟨wd_836, wd_838, wd_s5_3, wd_13, wd_839, by decide +kernel⟩
theorem lk_X5_187 : LnV RX5 187 "LateMirrors" RX0 yX0_seenIn cX0_seenIn 4 (some .int) 3 := ⟨wd_848, wd_850, wd_s5_5, wd_10, wd_851, by decide +kernel⟩
theorem lk_X5_191 : LnV RX5 191 "LateMirrors" RX0 yX0_menIn cX0_menIn 5 (some .int) 2 := ⟨wd_852, wd_318, wd_s1_9, wd_10, wd_319, by decide +kernel⟩
theorem lk_X5_194 : LkV RX5 194 RX5 yX5_facingTimes cX5_facingTimes 4 (some .int) 2 := ⟨wd_857, wd_859, wd_s5_6, wd_1, wd_860, by decide +kernel⟩
theorem lk_X5_197 : LkV RX5 197 RX5 yX5_facingMinute cX5_facingMinute 7 (some .int) 3 := ⟨wd_861, wd_863, wd_s5_7, wd_1, wd_864, by decide +kernel⟩
theorem lk_X5_200 : LnV RX5 200 "LateMirrors" RX0 yX0_menShownIn cX0_menShownIn 5 (some .int) 2 := ⟨wd_869, wd_871, wd_s5_8, wd_10, wd_872, by decide +kernel⟩
theorem lk_X5_203 : LkS RX5 203 yX5_has cX5_has 2 (some .boolean) 2 := ⟨wd_874, wd_721, wd_1, wd_722, by decide +kernel⟩
theorem lk_X5_209 : LkV RX5 209 RX5 yX5_tallyShown cX5_tallyShown 4 none 1 := ⟨wd_887, wd_889, wd_s5_9, wd_1, wd_890, by decide +kernel⟩
theorem lk_X5_212 : LkS RX5 212 yX5_at cX5_at 2 (some .int) 2 := ⟨wd_891, wd_301, wd_1, wd_302, by decide +kernel⟩
theorem lk_X5_215 : LkS RX5 215 yJ9_min_7cf53 cJ9_min_7cf53 2 (some .int) 2 := ⟨wd_892, wd_344, wd_7, wd_345, by decide +kernel⟩
theorem lk_X5_220 : LkS RX5 220 yX5_leastSeen cX5_leastSeen 7 (some .int) 4 := ⟨wd_897, wd_898, wd_1, wd_899, by decide +kernel⟩
theorem lk_X5_224 : LkV RX5 224 RX5 yX5_aloneTimes cX5_aloneTimes 8 (some .int) 2 := ⟨wd_912, wd_914, wd_s5_10, wd_1, wd_915, by decide +kernel⟩
theorem lk_X5_228 : LkS RX5 228 yJ9_max_7cf53 cJ9_max_7cf53 2 (some .int) 2 := ⟨wd_916, wd_85, wd_7, wd_86, by decide +kernel⟩
theorem lk_X5_237 : LkS RX5 237 yJ6_bitCount_0f7a4 cJ6_bitCount_0f7a4 1 (some .int) 1 := ⟨wd_929, wd_321, wd_12, wd_322, by decide +kernel⟩
theorem lk_X5_243 : LnV RX5 243 "LateMirrors" RX0 yX0_lateWith cX0_lateWith 6 (some .int) 2 := ⟨wd_934, wd_310, wd_s1_7, wd_10, wd_311, by decide +kernel⟩
theorem lk_X5_246 : LnV RX5 246 "LateMirrors" RX4 yX4_ownerOf cX4_ownerOf 2 (some .int) 1 := ⟨wd_939, wd_298, wd_s1_5, wd_8, wd_299, by decide +kernel⟩
theorem lk_X5_249 : LkV RX5 249 RX5 yX5_forecast cX5_forecast 2 none 1 := ⟨wd_944, wd_946, wd_s5_11, wd_1, wd_947, by decide +kernel⟩
theorem lk_X5_252 : LkV RX5 252 RX5 yX5_showersOf cX5_showersOf 6 (some .int) 3 := ⟨wd_952, wd_954, wd_s5_13, wd_1, wd_955, by decide +kernel⟩
theorem lk_X5_255 : LkS RX5 255 yX5_firstOf cX5_firstOf 2 (some .int) 1 := ⟨wd_960, wd_961, wd_1, wd_962, by decide +kernel⟩
theorem lk_X5_258 : LkV RX5 258 RX5 yX5_countSteps cX5_countSteps 7 none 2 := ⟨wd_967, wd_969, wd_s5_14, wd_1, wd_970, by decide +kernel⟩
theorem lk_X5_261 : LkV RX5 261 RX5 yX5_mirrorsInReach cX5_mirrorsInReach 4 (some .int) 1 := ⟨wd_975, wd_977, wd_s6_0, wd_1, wd_978, by decide +kernel⟩
theorem lk_X5_264 : LkV RX5 264 RX5 yX5_mirrorsWith cX5_mirrorsWith 5 (some .int) 2 := ⟨wd_987, wd_989, wd_s6_1, wd_1, wd_990, by decide +kernel⟩
theorem lk_X5_267 : LnV RX5 267 "LateMirrors" RX0 yX0_copyOf cX0_copyOf 3 none 1 := ⟨wd_948, wd_950, wd_s5_12, wd_10, wd_951, by decide +kernel⟩
theorem lk_X5_273 : LkV RX5 273 RX5 yX5_breaksBy cX5_breaksBy 5 (some .boolean) 3 := ⟨wd_999, wd_1001, wd_s6_2, wd_1, wd_1002, by decide +kernel⟩
theorem lk_X5_277 : LnV RX5 277 "LateMirrors" RX4 yX4_breaksAt cX4_breaksAt 4 (some .boolean) 3 := ⟨wd_1003, wd_774, wd_s4_12, wd_8, wd_775, by decide +kernel⟩
theorem lk_X5_280 : LnV RX5 280 "LateMirrors" RX0 yX0_darkRooms cX0_darkRooms 3 (some .int) 0 := ⟨wd_1008, wd_1010, wd_s6_3, wd_10, wd_1011, by decide +kernel⟩
theorem lk_X5_284 : LkV RX5 284 RX5 yX5_nextRoom cX5_nextRoom 5 (some .int) 2 := ⟨wd_1012, wd_1014, wd_s6_4, wd_1, wd_1015, by decide +kernel⟩
theorem lk_X5_290 : LnV RX5 290 "LateMirrors" RX4 yX4_doorEnd cX4_doorEnd 3 (some .int) 2 := ⟨wd_971, wd_973, wd_s5_15, wd_8, wd_974, by decide +kernel⟩
theorem lk_X5_293 : LkV RX5 293 RX5 yX5_isRest cX5_isRest 4 (some .boolean) 2 := ⟨wd_1024, wd_1026, wd_s6_5, wd_1, wd_1027, by decide +kernel⟩
theorem lk_X5_296 : LkV RX5 296 RX5 yX5_worth cX5_worth 3 (some .int) 2 := ⟨wd_1028, wd_1030, wd_s6_6, wd_1, wd_1031, by decide +kernel⟩
theorem lk_X5_299 : LkV RX5 299 RX5 yX5_canHaveBegun cX5_canHaveBegun 8 (some .boolean) 3 := ⟨wd_1044, wd_1046, wd_s6_7, wd_1, wd_1047, by decide +kernel⟩
theorem lk_X5_302 : LnV RX5 302 "LateMirrors" RX0 yX0_brokenOnes cX0_brokenOnes 3 (some .int) 0 := ⟨wd_1060, wd_1062, wd_s6_8, wd_10, wd_1063, by decide +kernel⟩
theorem lk_X5_305 : LnV RX5 305 "LateMirrors" RX0 yX0_turnedOnes cX0_turnedOnes 1 (some .int) 0 := ⟨wd_1064, wd_1066, wd_s6_9, wd_10, wd_1067, by decide +kernel⟩
theorem lk_X0_37 : LkV RX0 37 RX0 yX0_begin cX0_begin 3 none 1 := ⟨wd_280, wd_282, wd_s1_3, wd_10, wd_283, by decide +kernel⟩
theorem lk_X0_50 : LnS RX0 50 "LateMirrors" yX5_copy cX5_copy 5 none 5 := ⟨wd_284, wd_285, wd_1, wd_286, by decide +kernel⟩
theorem lk_X0_60 : LnS RX0 60 "LateMirrors" yX5_put cX5_put 3 none 3 := ⟨wd_290, wd_199, wd_1, wd_200, by decide +kernel⟩
theorem lk_X0_65 : LkV RX0 65 RX0 yX0_setLates cX0_setLates 3 none 0 := ⟨wd_292, wd_294, wd_s1_4, wd_10, wd_295, by decide +kernel⟩
theorem lk_X0_68 : LnS RX0 68 "LateMirrors" yX5_at cX5_at 2 (some .int) 2 := ⟨wd_307, wd_301, wd_1, wd_302, by decide +kernel⟩
theorem lk_X0_72 : LnS RX0 72 "LateMirrors" yX5_has cX5_has 2 (some .boolean) 2 := ⟨wd_720, wd_721, wd_1, wd_722, by decide +kernel⟩
theorem lk_X0_79 : LkV RX0 79 RX0 yX0_isBroken cX0_isBroken 3 (some .boolean) 2 := ⟨wd_731, wd_725, wd_s4_2, wd_10, wd_726, by decide +kernel⟩
theorem lk_X0_85 : LkV RX0 85 RX0 yX0_lateOf cX0_lateOf 3 (some .int) 2 := ⟨wd_732, wd_714, wd_s4_0, wd_10, wd_715, by decide +kernel⟩
theorem lk_X0_89 : LkV RX0 89 RX0 yX0_isTurned cX0_isTurned 3 (some .boolean) 2 := ⟨wd_733, wd_718, wd_s4_1, wd_10, wd_719, by decide +kernel⟩
theorem lk_X0_92 : LkV RX0 92 RX0 yX0_showing cX0_showing 4 (some .int) 2 := ⟨wd_738, wd_729, wd_s4_3, wd_10, wd_730, by decide +kernel⟩
theorem lk_X0_95 : LkV RX0 95 RX0 yX0_hangOf cX0_hangOf 3 (some .int) 2 := ⟨wd_312, wd_314, wd_s1_8, wd_10, wd_315, by decide +kernel⟩
theorem lk_X0_98 : LkV RX0 98 RX0 yX0_menIn cX0_menIn 5 (some .int) 2 := ⟨wd_316, wd_318, wd_s1_9, wd_10, wd_319, by decide +kernel⟩
theorem lk_X0_101 : LkV RX0 101 RX0 yX0_menShown cX0_menShown 4 (some .int) 2 := ⟨wd_873, wd_741, wd_s4_5, wd_10, wd_742, by decide +kernel⟩
theorem lk_X0_104 : LnV RX0 104 "LateMirrors" RX4 yX4_ownerOf cX4_ownerOf 2 (some .int) 1 := ⟨wd_296, wd_298, wd_s1_5, wd_8, wd_299, by decide +kernel⟩
theorem lk_X0_108 : LkV RX0 108 RX0 yX0_rankOf cX0_rankOf 3 (some .int) 2 := ⟨wd_303, wd_305, wd_s1_6, wd_10, wd_306, by decide +kernel⟩
theorem lk_X0_111 : LkV RX0 111 RX0 yX0_lateWith cX0_lateWith 6 (some .int) 2 := ⟨wd_308, wd_310, wd_s1_7, wd_10, wd_311, by decide +kernel⟩
theorem lk_X0_114 : LkS RX0 114 yJ6_bitCount_0f7a4 cJ6_bitCount_0f7a4 1 (some .int) 1 := ⟨wd_320, wd_321, wd_12, wd_322, by decide +kernel⟩
theorem lk_X0_123 : LnV RX0 123 "LateMirrors" RX4 yX4_waysOf cX4_waysOf 4 (some .int) 1 := ⟨wd_326, wd_328, wd_s1_10, wd_8, wd_329, by decide +kernel⟩
theorem lk_X0_126 : LnV RX0 126 "LateMirrors" RX1 yX1_setVars cX1_setVars 7 none 6 := ⟨wd_330, wd_332, wd_s1_11, wd_9, wd_333, by decide +kernel⟩
theorem lk_X0_135 : LnV RX0 135 "LateMirrors" RX1 yX1_valueOf cX1_valueOf 8 (some .int) 1 := ⟨wd_334, wd_336, wd_s1_12, wd_9, wd_337, by decide +kernel⟩
theorem lk_X0_138 : LkS RX0 138 yJ9_min_7cf53 cJ9_min_7cf53 2 (some .int) 2 := ⟨wd_343, wd_344, wd_7, wd_345, by decide +kernel⟩
theorem lk_X0_143 : LkS RX0 143 yJ9_max_7cf53 cJ9_max_7cf53 2 (some .int) 2 := ⟨wd_346, wd_85, wd_7, wd_86, by decide +kernel⟩
theorem lk_X0_146 : LkV RX0 146 RX0 yX0_moveMen cX0_moveMen 3 none 0 := ⟨wd_759, wd_761, wd_s4_9, wd_10, wd_762, by decide +kernel⟩
theorem lk_X0_152 : LnV RX0 152 "LateMirrors" RX4 yX4_breaksAt cX4_breaksAt 4 (some .boolean) 3 := ⟨wd_772, wd_774, wd_s4_12, wd_8, wd_775, by decide +kernel⟩
theorem lk_X0_156 : LkV RX0 156 RX0 yX0_breakNow cX0_breakNow 2 none 1 := ⟨wd_783, wd_785, wd_s4_13, wd_10, wd_786, by decide +kernel⟩
theorem lk_X0_160 : LkV RX0 160 RX0 yX0_roomAfter cX0_roomAfter 7 (some .int) 1 := ⟨wd_763, wd_765, wd_s4_10, wd_10, wd_766, by decide +kernel⟩
theorem lk_X0_163 : LkV RX0 163 RX0 yX0_roomOf cX0_roomOf 3 (some .int) 2 := ⟨wd_767, wd_700, wd_s3_14, wd_10, wd_701, by decide +kernel⟩
theorem lk_X0_169 : LnV RX0 169 "LateMirrors" RX4 yX4_wayTo cX4_wayTo 7 (some .int) 2 := ⟨wd_768, wd_770, wd_s4_11, wd_8, wd_771, by decide +kernel⟩
theorem lk_X1_29 : LkV RX1 29 RX1 yX1_emit cX1_emit 3 none 2 := ⟨wd_194, wd_196, wd_s1_2, wd_9, wd_197, by decide +kernel⟩
theorem lk_X1_33 : LnS RX1 33 "LateMirrors" yX5_put cX5_put 3 none 3 := ⟨wd_198, wd_199, wd_1, wd_200, by decide +kernel⟩
theorem lk_X1_48 : LnS RX1 48 "LateMirrors" yX5_at cX5_at 2 (some .int) 2 := ⟨wd_338, wd_301, wd_1, wd_302, by decide +kernel⟩
theorem lk_X1_56 : LnS RX1 56 "LateMirrors" yX5_longAt cX5_longAt 2 (some .long) 2 := ⟨wd_649, wd_494, wd_1, wd_495, by decide +kernel⟩
theorem lk_X1_60 : LkV RX1 60 RX1 yX1_putOff cX1_putOff 2 none 1 := ⟨wd_650, wd_652, wd_s3_6, wd_9, wd_653, by decide +kernel⟩
theorem lk_X1_64 : LkS RX1 64 yX1_isOperator cX1_isOperator 1 (some .boolean) 1 := ⟨wd_654, wd_655, wd_9, wd_656, by decide +kernel⟩
theorem lk_X1_68 : LkS RX1 68 yX1_bindingOf cX1_bindingOf 1 (some .int) 1 := ⟨wd_657, wd_658, wd_9, wd_659, by decide +kernel⟩
theorem lk_X1_72 : LkV RX1 72 RX1 yX1_unwind cX1_unwind 4 none 1 := ⟨wd_660, wd_662, wd_s3_7, wd_9, wd_663, by decide +kernel⟩
theorem lk_X1_75 : LkV RX1 75 RX1 yX1_endPart cX1_endPart 3 (some .int) 2 := ⟨wd_664, wd_666, wd_s3_8, wd_9, wd_667, by decide +kernel⟩
theorem lk_X1_79 : LkS RX1 79 yJ9_max_7cf53 cJ9_max_7cf53 2 (some .int) 2 := ⟨wd_339, wd_85, wd_7, wd_86, by decide +kernel⟩
theorem lk_X1_84 : LkS RX1 84 yX1_reckon cX1_reckon 3 (some .int) 3 := ⟨wd_340, wd_341, wd_9, wd_342, by decide +kernel⟩
theorem lk_X2_24 : LnV RX2 24 "LateMirrors" RX0 yX0_keepIn cX0_keepIn 4 none 2 := ⟨wd_751, wd_753, wd_s4_7, wd_10, wd_754, by decide +kernel⟩
theorem lk_X2_28 : LnV RX2 28 "LateMirrors" RX0 yX0_goBackTo cX0_goBackTo 4 none 2 := ⟨wd_840, wd_842, wd_s5_4, wd_10, wd_843, by decide +kernel⟩
theorem lk_X3_37 : LkV RX3 37 RJ0 yJ0_length_8abf5 cJ0_length_8abf5 1 (some .int) 0 := ⟨wd_33, wd_34, wd_35, wd_3, wd_36, by decide +kernel⟩
theorem lk_X3_43 : LkV RX3 43 RJ0 yJ0_charAt_5068e cJ0_charAt_5068e 2 (some .char) 1 := ⟨wd_43, wd_44, wd_45, wd_3, wd_46, by decide +kernel⟩
theorem lk_X3_47 : LkS RX3 47 yX3_codeOfWord cX3_codeOfWord 5 (some .long) 2 := ⟨wd_81, wd_82, wd_2, wd_83, by decide +kernel⟩
theorem lk_X3_51 : LnS RX3 51 "LateMirrors" yX5_putLong cX5_putLong 4 none 3 := ⟨wd_91, wd_92, wd_1, wd_93, by decide +kernel⟩
theorem lk_X3_55 : LkS RX3 55 yJ9_max_7cf53 cJ9_max_7cf53 2 (some .int) 2 := ⟨wd_84, wd_85, wd_7, wd_86, by decide +kernel⟩
theorem lk_X3_61 : LkS RX3 61 yX3_addLetter cX3_addLetter 3 (some .long) 2 := ⟨wd_87, wd_88, wd_2, wd_89, by decide +kernel⟩
theorem lk_X3_67 : LkV RX3 67 RX3 yX3_clear cX3_clear 2 none 0 := ⟨wd_464, wd_466, wd_s1_15, wd_2, wd_467, by decide +kernel⟩
theorem lk_X3_70 : LkS RX3 70 yX3_nextByte cX3_nextByte 4 (some .int) 3 := ⟨wd_469, wd_470, wd_2, wd_471, by decide +kernel⟩
theorem lk_X3_74 : LkS RX3 74 yX3_tokenEnd cX3_tokenEnd 7 (some .int) 3 := ⟨wd_476, wd_477, wd_2, wd_478, by decide +kernel⟩
theorem lk_X3_77 : LkV RX3 77 RX3 yX3_kindOf cX3_kindOf 6 (some .int) 3 := ⟨wd_485, wd_487, wd_s2_0, wd_2, wd_488, by decide +kernel⟩
theorem lk_X3_80 : LkV RX3 80 RX3 yX3_goesOn cX3_goesOn 4 (some .boolean) 1 := ⟨wd_553, wd_555, wd_s2_2, wd_2, wd_556, by decide +kernel⟩
theorem lk_X3_84 : LkV RX3 84 RX3 yX3_fail cX3_fail 3 (some .int) 2 := ⟨wd_594, wd_596, wd_s2_9, wd_2, wd_597, by decide +kernel⟩
theorem lk_X3_87 : LkV RX3 87 RX3 yX3_tooMany cX3_tooMany 3 (some .boolean) 0 := ⟨wd_598, wd_600, wd_s2_10, wd_2, wd_601, by decide +kernel⟩
theorem lk_X3_91 : LkV RX3 91 RX3 yX3_add cX3_add 3 none 2 := ⟨wd_602, wd_604, wd_s2_11, wd_2, wd_605, by decide +kernel⟩
theorem lk_X3_101 : LnS RX3 101 "LateMirrors" yX5_put cX5_put 3 none 3 := ⟨wd_468, wd_199, wd_1, wd_200, by decide +kernel⟩
theorem lk_X3_109 : LnS RX3 109 "LateMirrors" yX5_at cX5_at 2 (some .int) 2 := ⟨wd_472, wd_301, wd_1, wd_302, by decide +kernel⟩
theorem lk_X3_113 : LkS RX3 113 yX3_isBlank cX3_isBlank 1 (some .boolean) 1 := ⟨wd_473, wd_474, wd_2, wd_475, by decide +kernel⟩
theorem lk_X3_116 : LkS RX3 116 yX3_isLetter cX3_isLetter 1 (some .boolean) 1 := ⟨wd_479, wd_480, wd_2, wd_481, by decide +kernel⟩
theorem lk_X3_119 : LkS RX3 119 yX3_isDigit cX3_isDigit 1 (some .boolean) 1 := ⟨wd_482, wd_483, wd_2, wd_484, by decide +kernel⟩
theorem lk_X3_122 : LkV RX3 122 RX3 yX3_kindOfName cX3_kindOfName 5 (some .int) 3 := ⟨wd_489, wd_491, wd_s2_1, wd_2, wd_492, by decide +kernel⟩
theorem lk_X3_127 : LkV RX3 127 RJ0 yJ0_indexOf_0f7a4 cJ0_indexOf_0f7a4 2 (some .int) 1 := ⟨wd_497, wd_498, wd_499, wd_3, wd_500, by decide +kernel⟩
theorem lk_X3_133 : LnS RX3 133 "LateMirrors" yX5_longAt cX5_longAt 2 (some .long) 2 := ⟨wd_493, wd_494, wd_1, wd_495, by decide +kernel⟩
theorem lk_X3_151 : LkV RX3 151 RX3 yX3_tellBegins cX3_tellBegins 3 (some .boolean) 1 := ⟨wd_557, wd_559, wd_s2_3, wd_2, wd_560, by decide +kernel⟩
theorem lk_X3_154 : LkS RX3 154 yX3_shapeOf cX3_shapeOf 1 (some (.object "java/lang/String")) 1 := ⟨wd_564, wd_565, wd_2, wd_566, by decide +kernel⟩
theorem lk_X3_161 : LkV RX3 161 RX3 yX3_lawGoesOn cX3_lawGoesOn 2 (some .boolean) 1 := ⟨wd_574, wd_576, wd_s2_4, wd_2, wd_577, by decide +kernel⟩
theorem lk_X3_164 : LnS RX3 164 "LateMirrors" yX5_within cX5_within 2 (some .boolean) 2 := ⟨wd_561, wd_562, wd_1, wd_563, by decide +kernel⟩
theorem lk_X3_177 : LkV RX3 177 RX3 yX3_beginE cX3_beginE 2 none 1 := ⟨wd_578, wd_580, wd_s2_5, wd_2, wd_581, by decide +kernel⟩
theorem lk_X3_185 : LkV RX3 185 RX3 yX3_unitBegins cX3_unitBegins 2 (some .boolean) 1 := ⟨wd_582, wd_584, wd_s2_6, wd_2, wd_585, by decide +kernel⟩
theorem lk_X3_188 : LkV RX3 188 RX3 yX3_unitEnded cX3_unitEnded 2 (some .boolean) 1 := ⟨wd_586, wd_588, wd_s2_7, wd_2, wd_589, by decide +kernel⟩
theorem lk_X3_194 : LkV RX3 194 RX3 yX3_partEnds cX3_partEnds 2 (some .boolean) 1 := ⟨wd_590, wd_592, wd_s2_8, wd_2, wd_593, by decide +kernel⟩
theorem lk_X4_39 : LnI RX4 39 "LateMirrors" yX1_init cX1_init 1 0 := ⟨wd_159, wd_160, wd_9, wd_161, by decide +kernel, rfl⟩
theorem lk_X4_48 : LkV RX4 48 RX4 yX4_clear cX4_clear 1 none 0 := ⟨wd_186, wd_188, wd_s1_0, wd_8, wd_189, by decide +kernel⟩
theorem lk_X4_78 : LnV RX4 78 "LateMirrors" RX1 yX1_clear cX1_clear 1 none 0 := ⟨wd_190, wd_192, wd_s1_1, wd_9, wd_193, by decide +kernel⟩
theorem lk_X4_84 : LkV RX4 84 RX4 yX4_take cX4_take 3 (some .int) 2 := ⟨wd_610, wd_612, wd_s2_13, wd_8, wd_613, by decide +kernel⟩
theorem lk_X4_91 : LnS RX4 91 "LateMirrors" yX5_at cX5_at 2 (some .int) 2 := ⟨wd_300, wd_301, wd_1, wd_302, by decide +kernel⟩
theorem lk_X4_95 : LkV RX4 95 RX4 yX4_declare cX4_declare 7 none 4 := ⟨wd_614, wd_616, wd_s2_14, wd_8, wd_617, by decide +kernel⟩
theorem lk_X4_99 : LkV RX4 99 RX4 yX4_takeDoor cX4_takeDoor 5 none 2 := ⟨wd_629, wd_631, wd_s3_1, wd_8, wd_632, by decide +kernel⟩
theorem lk_X4_103 : LkV RX4 103 RX4 yX4_takeMan cX4_takeMan 3 none 2 := ⟨wd_637, wd_639, wd_s3_3, wd_8, wd_640, by decide +kernel⟩
theorem lk_X4_106 : LkV RX4 106 RX4 yX4_named cX4_named 5 (some .int) 3 := ⟨wd_633, wd_635, wd_s3_2, wd_8, wd_636, by decide +kernel⟩
theorem lk_X4_111 : LnS RX4 111 "LateMirrors" yX5_put cX5_put 3 none 3 := ⟨wd_628, wd_199, wd_1, wd_200, by decide +kernel⟩
theorem lk_X4_115 : LnV RX4 115 "LateMirrors" RX1 yX1_compile cX1_compile 6 (some .int) 2 := ⟨wd_645, wd_647, wd_s3_5, wd_9, wd_648, by decide +kernel⟩
theorem lk_X4_118 : LkV RX4 118 RX4 yX4_takeMirror cX4_takeMirror 3 none 2 := ⟨wd_668, wd_670, wd_s3_9, wd_8, wd_671, by decide +kernel⟩
theorem lk_X4_121 : LkV RX4 121 RX4 yX4_number cX4_number 5 (some .int) 3 := ⟨wd_641, wd_643, wd_s3_4, wd_8, wd_644, by decide +kernel⟩
theorem lk_X4_124 : LkV RX4 124 RX4 yX4_fail cX4_fail 4 none 3 := ⟨wd_623, wd_625, wd_s3_0, wd_8, wd_626, by decide +kernel⟩
theorem lk_X4_134 : LnS RX4 134 "LateMirrors" yX5_longAt cX5_longAt 2 (some .long) 2 := ⟨wd_618, wd_494, wd_1, wd_495, by decide +kernel⟩
theorem lk_X4_138 : LkV RX4 138 RX4 yX4_meaningOf cX4_meaningOf 4 (some .int) 1 := ⟨wd_619, wd_621, wd_s2_15, wd_8, wd_622, by decide +kernel⟩
theorem lk_X4_142 : LnS RX4 142 "LateMirrors" yX5_putLong cX5_putLong 4 none 3 := ⟨wd_627, wd_92, wd_1, wd_93, by decide +kernel⟩
theorem lk_X4_146 : LkS RX4 146 yX4_lot cX4_lot 4 (some .int) 3 := ⟨wd_776, wd_777, wd_8, wd_778, by decide +kernel⟩
theorem lk_X4_150 : LkS RX4 150 yX4_mixed cX4_mixed 3 (some .int) 2 := ⟨wd_779, wd_780, wd_8, wd_781, by decide +kernel⟩
theorem lk_L_9 : LkI RL 9 yX5_init cX5_init 2 0 := ⟨wd_18, wd_19, wd_1, wd_20, by decide +kernel, rfl⟩
theorem lk_L_12 : LkI RL 12 yX6_init cX6_init 1 0 := ⟨wd_1070, wd_1071, wd_14, wd_1072, by decide +kernel, rfl⟩
theorem lk_L_13 : LkV RL 13 RX5 yX5_feed cX5_feed 6 (some .int) 5 := ⟨wd_443, wd_444, wd_445, wd_1, wd_446, by decide +kernel⟩
theorem lk_L_17 : LkV RL 17 RX6 yX6_feed cX6_feed 6 (some .int) 5 := ⟨wd_1354, wd_1355, wd_1356, wd_14, wd_1357, by decide +kernel⟩
theorem lk_L_18 : LkV RL 18 RX5 yX5_back cX5_back 2 (some .int) 1 := ⟨wd_452, wd_453, wd_454, wd_1, wd_455, by decide +kernel⟩
theorem lk_L_22 : LkV RL 22 RX6 yX6_back cX6_back 2 (some .int) 1 := ⟨wd_1362, wd_1363, wd_1364, wd_14, wd_1365, by decide +kernel⟩
theorem lk_L_23 : LkV RL 23 RX5 yX5_read cX5_read 2 (some .int) 0 := ⟨wd_456, wd_457, wd_458, wd_1, wd_459, by decide +kernel⟩
theorem lk_L_27 : LkV RL 27 RX6 yX6_read cX6_read 2 (some .int) 0 := ⟨wd_1366, wd_1367, wd_1368, wd_14, wd_1369, by decide +kernel⟩
theorem lk_L_28 : LkV RL 28 RX5 yX5_place cX5_place 1 (some .int) 0 := ⟨wd_681, wd_682, wd_683, wd_1, wd_684, by decide +kernel⟩
theorem lk_L_31 : LkV RL 31 RX6 yX6_place cX6_place 1 (some .int) 0 := ⟨wd_1472, wd_1473, wd_1474, wd_14, wd_1475, by decide +kernel⟩
theorem lk_L_32 : LkV RL 32 RX5 yX5_man cX5_man 4 (some .int) 3 := ⟨wd_685, wd_686, wd_687, wd_1, wd_688, by decide +kernel⟩
theorem lk_L_36 : LkV RL 36 RX6 yX6_man cX6_man 4 (some .int) 3 := ⟨wd_1476, wd_1477, wd_1478, wd_14, wd_1479, by decide +kernel⟩
theorem lk_L_37 : LkV RL 37 RX5 yX5_mirror cX5_mirror 4 (some .int) 3 := ⟨wd_703, wd_704, wd_705, wd_1, wd_706, by decide +kernel⟩
theorem lk_L_40 : LkV RL 40 RX6 yX6_mirror cX6_mirror 5 (some .int) 3 := ⟨wd_1491, wd_1492, wd_1493, wd_14, wd_1494, by decide +kernel⟩
theorem lk_L_41 : LkV RL 41 RX5 yX5_minutes cX5_minutes 2 (some .int) 1 := ⟨wd_743, wd_744, wd_745, wd_1, wd_746, by decide +kernel⟩
theorem lk_L_44 : LkV RL 44 RX6 yX6_minutes cX6_minutes 2 (some .int) 1 := ⟨wd_1519, wd_1520, wd_1521, wd_14, wd_1522, by decide +kernel⟩
theorem lk_L_45 : LkV RL 45 RX5 yX5_go cX5_go 4 (some .boolean) 2 := ⟨wd_787, wd_788, wd_789, wd_1, wd_790, by decide +kernel⟩
theorem lk_L_49 : LkV RL 49 RX6 yX6_go cX6_go 3 (some .boolean) 2 := ⟨wd_1555, wd_1556, wd_1557, wd_14, wd_1558, by decide +kernel⟩
theorem lk_L_50 : LkV RL 50 RX5 yX5_raise cX5_raise 3 (some .boolean) 2 := ⟨wd_796, wd_797, wd_798, wd_1, wd_799, by decide +kernel⟩
theorem lk_L_53 : LkV RL 53 RX6 yX6_raise cX6_raise 3 (some .boolean) 2 := ⟨wd_1567, wd_1568, wd_1569, wd_14, wd_1570, by decide +kernel⟩
theorem lk_L_54 : LkV RL 54 RX5 yX5_carry cX5_carry 3 (some .boolean) 2 := ⟨wd_807, wd_808, wd_809, wd_1, wd_810, by decide +kernel⟩
theorem lk_L_57 : LkV RL 57 RX6 yX6_carry cX6_carry 3 (some .boolean) 2 := ⟨wd_1571, wd_1572, wd_1573, wd_14, wd_1574, by decide +kernel⟩
theorem lk_L_58 : LkV RL 58 RX5 yX5_turn cX5_turn 3 (some .boolean) 2 := ⟨wd_819, wd_820, wd_821, wd_1, wd_822, by decide +kernel⟩
theorem lk_L_62 : LkV RL 62 RX6 yX6_turn cX6_turn 3 (some .boolean) 2 := ⟨wd_1579, wd_1580, wd_1581, wd_14, wd_1582, by decide +kernel⟩
theorem lk_L_63 : LkV RL 63 RX5 yX5_smash cX5_smash 2 (some .boolean) 1 := ⟨wd_827, wd_828, wd_829, wd_1, wd_830, by decide +kernel⟩
theorem lk_L_67 : LkV RL 67 RX6 yX6_smash cX6_smash 2 (some .boolean) 1 := ⟨wd_1583, wd_1584, wd_1585, wd_14, wd_1586, by decide +kernel⟩
theorem lk_L_68 : LkV RL 68 RX5 yX5_undo cX5_undo 1 (some .boolean) 0 := ⟨wd_832, wd_833, wd_834, wd_1, wd_835, by decide +kernel⟩
theorem lk_L_72 : LkV RL 72 RX6 yX6_undo cX6_undo 3 (some .boolean) 0 := ⟨wd_1587, wd_1588, wd_1589, wd_14, wd_1590, by decide +kernel⟩
theorem lk_L_73 : LkV RL 73 RX5 yX5_look cX5_look 9 (some .int) 4 := ⟨wd_844, wd_845, wd_846, wd_1, wd_847, by decide +kernel⟩
theorem lk_L_77 : LkV RL 77 RX6 yX6_look cX6_look 7 (some .int) 4 := ⟨wd_1591, wd_1592, wd_1593, wd_14, wd_1594, by decide +kernel⟩
theorem lk_L_78 : LkV RL 78 RX5 yX5_last cX5_last 4 (some .int) 2 := ⟨wd_900, wd_901, wd_902, wd_1, wd_903, by decide +kernel⟩
theorem lk_L_82 : LkV RL 82 RX6 yX6_last cX6_last 4 (some .int) 2 := ⟨wd_1607, wd_1608, wd_1609, wd_14, wd_1610, by decide +kernel⟩
theorem lk_L_83 : LkV RL 83 RX5 yX5_visits cX5_visits 7 (some .int) 2 := ⟨wd_904, wd_905, wd_906, wd_1, wd_907, by decide +kernel⟩
theorem lk_L_86 : LkV RL 86 RX6 yX6_visits cX6_visits 6 (some .int) 2 := ⟨wd_1611, wd_1612, wd_1613, wd_14, wd_1614, by decide +kernel⟩
theorem lk_L_87 : LkV RL 87 RX5 yX5_alone cX5_alone 3 (some .int) 2 := ⟨wd_908, wd_909, wd_910, wd_1, wd_911, by decide +kernel⟩
theorem lk_L_91 : LkV RL 91 RX6 yX6_alone cX6_alone 6 (some .int) 2 := ⟨wd_1615, wd_1616, wd_1617, wd_14, wd_1618, by decide +kernel⟩
theorem lk_L_92 : LkV RL 92 RX5 yX5_lonely cX5_lonely 5 (some .int) 0 := ⟨wd_917, wd_918, wd_919, wd_1, wd_920, by decide +kernel⟩
theorem lk_L_95 : LkV RL 95 RX6 yX6_lonely cX6_lonely 3 (some .int) 0 := ⟨wd_1627, wd_1628, wd_1629, wd_14, wd_1630, by decide +kernel⟩
theorem lk_L_96 : LkV RL 96 RX5 yX5_together cX5_together 7 (some .int) 3 := ⟨wd_921, wd_922, wd_923, wd_1, wd_924, by decide +kernel⟩
theorem lk_L_99 : LkV RL 99 RX6 yX6_together cX6_together 7 (some .int) 3 := ⟨wd_1631, wd_1632, wd_1633, wd_14, wd_1634, by decide +kernel⟩
theorem lk_L_100 : LkV RL 100 RX5 yX5_facing cX5_facing 5 (some .int) 3 := ⟨wd_853, wd_854, wd_855, wd_1, wd_856, by decide +kernel⟩
theorem lk_L_103 : LkV RL 103 RX6 yX6_facing cX6_facing 6 (some .int) 3 := ⟨wd_1599, wd_1600, wd_1601, wd_14, wd_1602, by decide +kernel⟩
theorem lk_L_104 : LkV RL 104 RX5 yX5_glimpses cX5_glimpses 8 (some .int) 3 := ⟨wd_865, wd_866, wd_867, wd_1, wd_868, by decide +kernel⟩
theorem lk_L_107 : LkV RL 107 RX6 yX6_glimpses cX6_glimpses 7 (some .int) 3 := ⟨wd_1635, wd_1636, wd_1637, wd_14, wd_1638, by decide +kernel⟩
theorem lk_L_108 : LkV RL 108 RX5 yX5_ghosts cX5_ghosts 6 (some .int) 1 := ⟨wd_875, wd_876, wd_877, wd_1, wd_878, by decide +kernel⟩
theorem lk_L_111 : LkV RL 111 RX6 yX6_ghosts cX6_ghosts 5 (some .int) 1 := ⟨wd_1647, wd_1648, wd_1649, wd_14, wd_1650, by decide +kernel⟩
theorem lk_L_112 : LkV RL 112 RX5 yX5_oldest cX5_oldest 6 (some .int) 1 := ⟨wd_879, wd_880, wd_881, wd_1, wd_882, by decide +kernel⟩
theorem lk_L_115 : LkV RL 115 RX6 yX6_oldest cX6_oldest 6 (some .int) 1 := ⟨wd_1651, wd_1652, wd_1653, wd_14, wd_1654, by decide +kernel⟩
theorem lk_L_116 : LkV RL 116 RX5 yX5_shown cX5_shown 9 (some .int) 2 := ⟨wd_883, wd_884, wd_885, wd_1, wd_886, by decide +kernel⟩
theorem lk_L_119 : LkV RL 119 RX6 yX6_shown cX6_shown 7 (some .int) 2 := ⟨wd_1655, wd_1656, wd_1657, wd_14, wd_1658, by decide +kernel⟩
theorem lk_L_120 : LkV RL 120 RX5 yX5_deepest cX5_deepest 6 (some .int) 2 := ⟨wd_893, wd_894, wd_895, wd_1, wd_896, by decide +kernel⟩
theorem lk_L_123 : LkV RL 123 RX6 yX6_deepest cX6_deepest 9 (some .int) 2 := ⟨wd_1603, wd_1604, wd_1605, wd_14, wd_1606, by decide +kernel⟩
theorem lk_L_124 : LkV RL 124 RX5 yX5_crowd cX5_crowd 7 (some .int) 2 := ⟨wd_925, wd_926, wd_927, wd_1, wd_928, by decide +kernel⟩
theorem lk_L_127 : LkV RL 127 RX6 yX6_crowd cX6_crowd 5 (some .int) 2 := ⟨wd_1643, wd_1644, wd_1645, wd_14, wd_1646, by decide +kernel⟩
theorem lk_L_128 : LkV RL 128 RX5 yX5_rankFor cX5_rankFor 5 (some .int) 2 := ⟨wd_930, wd_931, wd_932, wd_1, wd_933, by decide +kernel⟩
theorem lk_L_131 : LkV RL 131 RX6 yX6_rankFor cX6_rankFor 4 (some .int) 2 := ⟨wd_1659, wd_1660, wd_1661, wd_14, wd_1662, by decide +kernel⟩
theorem lk_L_132 : LkV RL 132 RX5 yX5_view cX5_view 7 (some .int) 4 := ⟨wd_963, wd_964, wd_965, wd_1, wd_966, by decide +kernel⟩
theorem lk_L_135 : LkV RL 135 RX6 yX6_view cX6_view 8 (some .int) 4 := ⟨wd_1702, wd_1703, wd_1704, wd_14, wd_1705, by decide +kernel⟩
theorem lk_L_136 : LkV RL 136 RX5 yX5_willBe cX5_willBe 4 (some .int) 2 := ⟨wd_979, wd_980, wd_981, wd_1, wd_982, by decide +kernel⟩
theorem lk_L_139 : LkV RL 139 RX6 yX6_willBe cX6_willBe 3 (some .int) 2 := ⟨wd_1694, wd_1695, wd_1696, wd_14, wd_1697, by decide +kernel⟩
theorem lk_L_140 : LkV RL 140 RX5 yX5_rests cX5_rests 8 (some .int) 3 := ⟨wd_1020, wd_1021, wd_1022, wd_1, wd_1023, by decide +kernel⟩
theorem lk_L_143 : LkV RL 143 RX6 yX6_rests cX6_rests 7 (some .int) 3 := ⟨wd_1726, wd_1727, wd_1728, wd_14, wd_1729, by decide +kernel⟩
theorem lk_L_144 : LkV RL 144 RX5 yX5_still cX5_still 5 (some .int) 2 := ⟨wd_940, wd_941, wd_942, wd_1, wd_943, by decide +kernel⟩
theorem lk_L_147 : LkV RL 147 RX6 yX6_still cX6_still 6 (some .int) 2 := ⟨wd_1663, wd_1664, wd_1665, wd_14, wd_1666, by decide +kernel⟩
theorem lk_L_148 : LkV RL 148 RX5 yX5_soonest cX5_soonest 6 (some .int) 3 := ⟨wd_956, wd_957, wd_958, wd_1, wd_959, by decide +kernel⟩
theorem lk_L_151 : LkV RL 151 RX6 yX6_soonest cX6_soonest 6 (some .int) 3 := ⟨wd_1675, wd_1676, wd_1677, wd_14, wd_1678, by decide +kernel⟩
theorem lk_L_152 : LkV RL 152 RX5 yX5_seen cX5_seen 6 (some .int) 2 := ⟨wd_983, wd_984, wd_985, wd_1, wd_986, by decide +kernel⟩
theorem lk_L_155 : LkV RL 155 RX6 yX6_seen cX6_seen 6 (some .int) 2 := ⟨wd_1679, wd_1680, wd_1681, wd_14, wd_1682, by decide +kernel⟩
theorem lk_L_156 : LkV RL 156 RX5 yX5_jolt cX5_jolt 10 (some .int) 3 := ⟨wd_935, wd_936, wd_937, wd_1, wd_938, by decide +kernel⟩
theorem lk_L_159 : LkV RL 159 RX6 yX6_jolt cX6_jolt 10 (some .int) 3 := ⟨wd_1738, wd_1739, wd_1740, wd_14, wd_1741, by decide +kernel⟩
theorem lk_L_160 : LkV RL 160 RX5 yX5_hidden cX5_hidden 5 (some .int) 3 := ⟨wd_1004, wd_1005, wd_1006, wd_1, wd_1007, by decide +kernel⟩
theorem lk_L_163 : LkV RL 163 RX6 yX6_hidden cX6_hidden 6 (some .int) 3 := ⟨wd_1710, wd_1711, wd_1712, wd_14, wd_1713, by decide +kernel⟩
theorem lk_L_164 : LkV RL 164 RX5 yX5_stand cX5_stand 6 (some .int) 1 := ⟨wd_1016, wd_1017, wd_1018, wd_1, wd_1019, by decide +kernel⟩
theorem lk_L_167 : LkV RL 167 RX6 yX6_stand cX6_stand 4 (some .int) 1 := ⟨wd_1718, wd_1719, wd_1720, wd_14, wd_1721, by decide +kernel⟩
theorem lk_L_168 : LkV RL 168 RX5 yX5_turned cX5_turned 5 (some .int) 2 := ⟨wd_991, wd_992, wd_993, wd_1, wd_994, by decide +kernel⟩
theorem lk_L_171 : LkV RL 171 RX6 yX6_turned cX6_turned 6 (some .int) 2 := ⟨wd_1690, wd_1691, wd_1692, wd_14, wd_1693, by decide +kernel⟩
theorem lk_L_172 : LkV RL 172 RX5 yX5_odds cX5_odds 7 (some .int) 3 := ⟨wd_995, wd_996, wd_997, wd_1, wd_998, by decide +kernel⟩
theorem lk_L_175 : LkV RL 175 RX6 yX6_odds cX6_odds 6 (some .int) 3 := ⟨wd_1698, wd_1699, wd_1700, wd_14, wd_1701, by decide +kernel⟩
theorem lk_L_176 : LkV RL 176 RX5 yX5_tell cX5_tell 7 (some .int) 4 := ⟨wd_1032, wd_1033, wd_1034, wd_1, wd_1035, by decide +kernel⟩
theorem lk_L_180 : LkV RL 180 RX6 yX6_tell cX6_tell 5 (some .int) 4 := ⟨wd_1742, wd_1743, wd_1744, wd_14, wd_1745, by decide +kernel⟩
theorem lk_L_181 : LkV RL 181 RX5 yX5_forget cX5_forget 2 (some .int) 0 := ⟨wd_1036, wd_1037, wd_1038, wd_1, wd_1039, by decide +kernel⟩
theorem lk_L_184 : LkV RL 184 RX6 yX6_forget cX6_forget 2 (some .int) 0 := ⟨wd_1746, wd_1747, wd_1748, wd_14, wd_1749, by decide +kernel⟩
theorem lk_L_185 : LkV RL 185 RX5 yX5_began cX5_began 6 (some .int) 3 := ⟨wd_1040, wd_1041, wd_1042, wd_1, wd_1043, by decide +kernel⟩
theorem lk_L_188 : LkV RL 188 RX6 yX6_began cX6_began 6 (some .int) 3 := ⟨wd_1750, wd_1751, wd_1752, wd_14, wd_1753, by decide +kernel⟩
theorem lk_L_189 : LkV RL 189 RX5 yX5_hold cX5_hold 2 (some .boolean) 1 := ⟨wd_1048, wd_1049, wd_1050, wd_1, wd_1051, by decide +kernel⟩
theorem lk_L_192 : LkV RL 192 RX6 yX6_hold cX6_hold 3 (some .boolean) 1 := ⟨wd_1758, wd_1759, wd_1760, wd_14, wd_1761, by decide +kernel⟩
theorem lk_L_193 : LkV RL 193 RX5 yX5_restore cX5_restore 2 (some .boolean) 1 := ⟨wd_1052, wd_1053, wd_1054, wd_1, wd_1055, by decide +kernel⟩
theorem lk_L_196 : LkV RL 196 RX6 yX6_restore cX6_restore 3 (some .boolean) 1 := ⟨wd_1762, wd_1763, wd_1764, wd_14, wd_1765, by decide +kernel⟩
theorem lk_L_197 : LkV RL 197 RX5 yX5_count cX5_count 2 (some .int) 1 := ⟨wd_1056, wd_1057, wd_1058, wd_1, wd_1059, by decide +kernel⟩
theorem lk_L_200 : LkV RL 200 RX6 yX6_count cX6_count 4 (some .int) 1 := ⟨wd_1766, wd_1767, wd_1768, wd_14, wd_1769, by decide +kernel⟩
theorem lk_X6_176 : LkV RX6 176 RX6 yX6_plain cX6_plain 3 none 1 := ⟨wd_1074, wd_1076, wd_s6_10, wd_14, wd_1077, by decide +kernel⟩
theorem lk_X6_180 : LkS RX6 180 yX6_word cX6_word 7 (some .long) 7 := ⟨wd_1078, wd_1079, wd_14, wd_1080, by decide +kernel⟩
theorem lk_X6_184 : LkV RX6 184 RX6 yX6_begins cX6_begins 1 none 0 := ⟨wd_1085, wd_1087, wd_s6_11, wd_14, wd_1088, by decide +kernel⟩
theorem lk_X6_187 : LkV RX6 187 RX6 yX6_keepsRows cX6_keepsRows 3 none 1 := ⟨wd_1124, wd_1126, wd_s7_4, wd_14, wd_1127, by decide +kernel⟩
theorem lk_X6_193 : LkV RX6 193 RX6 yX6_put cX6_put 3 none 1 := ⟨wd_1358, wd_1360, wd_s7_5, wd_14, wd_1361, by decide +kernel⟩
theorem lk_X6_201 : LkS RX6 201 yX6_appends cX6_appends 3 (some .long) 2 := ⟨wd_1081, wd_1082, wd_14, wd_1083, by decide +kernel⟩
theorem lk_X6_208 : LkV RX6 208 RX6 yX6_byteAt cX6_byteAt 2 (some .int) 1 := ⟨wd_1374, wd_1376, wd_s7_7, wd_14, wd_1377, by decide +kernel⟩
theorem lk_X6_212 : LkV RX6 212 RX6 yX6_token cX6_token 6 none 4 := ⟨wd_1378, wd_1380, wd_s7_8, wd_14, wd_1381, by decide +kernel⟩
theorem lk_X6_216 : LkS RX6 216 yX6_isLetter cX6_isLetter 1 (some .boolean) 1 := ⟨wd_1382, wd_1383, wd_14, wd_1384, by decide +kernel⟩
theorem lk_X6_220 : LkS RX6 220 yX6_isDigit cX6_isDigit 1 (some .boolean) 1 := ⟨wd_1385, wd_1386, wd_14, wd_1387, by decide +kernel⟩
theorem lk_X6_223 : LkV RX6 223 RX6 yX6_sign cX6_sign 5 (some .int) 3 := ⟨wd_1388, wd_1390, wd_s7_9, wd_14, wd_1391, by decide +kernel⟩
theorem lk_X6_242 : LkV RX6 242 RX6 yX6_fail cX6_fail 2 none 1 := ⟨wd_1404, wd_1406, wd_s7_13, wd_14, wd_1407, by decide +kernel⟩
theorem lk_X6_245 : LkV RX6 245 RX6 yX6_is cX6_is 2 (some .boolean) 1 := ⟨wd_1392, wd_1394, wd_s7_10, wd_14, wd_1395, by decide +kernel⟩
theorem lk_X6_248 : LkV RX6 248 RX6 yX6_goesOn cX6_goesOn 1 none 0 := ⟨wd_1408, wd_1410, wd_s7_14, wd_14, wd_1411, by decide +kernel⟩
theorem lk_X6_251 : LkV RX6 251 RX6 yX6_cut cX6_cut 8 none 0 := ⟨wd_1370, wd_1372, wd_s7_6, wd_14, wd_1373, by decide +kernel⟩
theorem lk_X6_272 : LkV RX6 272 RX6 yX6_tellOne cX6_tellOne 2 none 0 := ⟨wd_1396, wd_1398, wd_s7_11, wd_14, wd_1399, by decide +kernel⟩
theorem lk_X6_281 : LkV RX6 281 RX6 yX6_roomFor cX6_roomFor 3 none 2 := ⟨wd_1400, wd_1402, wd_s7_12, wd_14, wd_1403, by decide +kernel⟩
theorem lk_X6_285 : LkV RX6 285 RX6 yX6_named cX6_named 3 (some .int) 0 := ⟨wd_1412, wd_1414, wd_s7_15, wd_14, wd_1415, by decide +kernel⟩
theorem lk_X6_289 : LkV RX6 289 RX6 yX6_must cX6_must 2 none 1 := ⟨wd_1416, wd_1418, wd_s8_0, wd_14, wd_1419, by decide +kernel⟩
theorem lk_X6_292 : LkV RX6 292 RX6 yX6_notes cX6_notes 4 none 3 := ⟨wd_1424, wd_1426, wd_s8_2, wd_14, wd_1427, by decide +kernel⟩
theorem lk_X6_296 : LkV RX6 296 RX6 yX6_tellDoor cX6_tellDoor 3 none 0 := ⟨wd_1428, wd_1430, wd_s8_3, wd_14, wd_1431, by decide +kernel⟩
theorem lk_X6_299 : LkV RX6 299 RX6 yX6_tellMan cX6_tellMan 3 none 0 := ⟨wd_1436, wd_1438, wd_s8_5, wd_14, wd_1439, by decide +kernel⟩
theorem lk_X6_302 : LkV RX6 302 RX6 yX6_known cX6_known 4 (some .int) 1 := ⟨wd_1432, wd_1434, wd_s8_4, wd_14, wd_1435, by decide +kernel⟩
theorem lk_X6_305 : LkV RX6 305 RX6 yX6_tellLaw cX6_tellLaw 4 none 1 := ⟨wd_1444, wd_1446, wd_s8_7, wd_14, wd_1447, by decide +kernel⟩
theorem lk_X6_308 : LkV RX6 308 RX6 yX6_tellMirror cX6_tellMirror 3 none 0 := ⟨wd_1468, wd_1470, wd_s8_13, wd_14, wd_1471, by decide +kernel⟩
theorem lk_X6_311 : LkV RX6 311 RX6 yX6_bounded cX6_bounded 4 (some .int) 2 := ⟨wd_1440, wd_1442, wd_s8_6, wd_14, wd_1443, by decide +kernel⟩
theorem lk_X6_315 : LkV RX6 315 RX6 yX6_wrong cX6_wrong 4 none 2 := ⟨wd_1420, wd_1422, wd_s8_1, wd_14, wd_1423, by decide +kernel⟩
theorem lk_X6_318 : LkV RX6 318 RX6 yX6_expression cX6_expression 3 none 0 := ⟨wd_1448, wd_1450, wd_s8_8, wd_14, wd_1451, by decide +kernel⟩
theorem lk_X6_321 : LkV RX6 321 RX6 yX6_term cX6_term 1 none 0 := ⟨wd_1464, wd_1466, wd_s8_12, wd_14, wd_1467, by decide +kernel⟩
theorem lk_X6_327 : LkV RX6 327 RX6 yX6_emit cX6_emit 3 none 2 := ⟨wd_1456, wd_1458, wd_s8_10, wd_14, wd_1459, by decide +kernel⟩
theorem lk_X6_330 : LkV RX6 330 RX6 yX6_unit cX6_unit 1 none 0 := ⟨wd_1452, wd_1454, wd_s8_9, wd_14, wd_1455, by decide +kernel⟩
theorem lk_X6_333 : LkV RX6 333 RX6 yX6_comesOut cX6_comesOut 3 none 1 := ⟨wd_1460, wd_1462, wd_s8_11, wd_14, wd_1463, by decide +kernel⟩
theorem lk_X6_341 : LkS RX6 341 yX6_in cX6_in 3 (some .boolean) 3 := ⟨wd_1484, wd_1485, wd_14, wd_1486, by decide +kernel⟩
theorem lk_X6_354 : LkV RX6 354 RX6 yX6_fillsLate cX6_fillsLate 2 none 0 := ⟨wd_1093, wd_1095, wd_s6_13, wd_14, wd_1096, by decide +kernel⟩
theorem lk_X6_357 : LkV RX6 357 RX6 yX6_beginsWith cX6_beginsWith 4 none 2 := ⟨wd_1089, wd_1091, wd_s6_12, wd_14, wd_1092, by decide +kernel⟩
theorem lk_X6_360 : LkV RX6 360 RX6 yX6_termOf cX6_termOf 8 (some .int) 2 := ⟨wd_1120, wd_1122, wd_s7_3, wd_14, wd_1123, by decide +kernel⟩
theorem lk_X6_363 : LkV RX6 363 RX6 yX6_waysOf cX6_waysOf 4 (some .int) 1 := ⟨wd_1105, wd_1107, wd_s7_0, wd_14, wd_1108, by decide +kernel⟩
theorem lk_X6_366 : LkV RX6 366 RX6 yX6_menIn cX6_menIn 5 (some .int) 2 := ⟨wd_1109, wd_1111, wd_s7_1, wd_14, wd_1112, by decide +kernel⟩
theorem lk_X6_369 : LkS RX6 369 yX6_bits cX6_bits 3 (some .int) 1 := ⟨wd_1113, wd_1114, wd_14, wd_1115, by decide +kernel⟩
theorem lk_X6_372 : LkV RX6 372 RX6 yX6_tells cX6_tells 7 (some .int) 2 := ⟨wd_1116, wd_1118, wd_s7_2, wd_14, wd_1119, by decide +kernel⟩
theorem lk_X6_375 : LkV RX6 375 RX6 yX6_rankOfOwner cX6_rankOfOwner 2 (some .int) 1 := ⟨wd_1097, wd_1099, wd_s6_14, wd_14, wd_1100, by decide +kernel⟩
theorem lk_X6_378 : LkV RX6 378 RX6 yX6_lateBy cX6_lateBy 5 (some .int) 2 := ⟨wd_1101, wd_1103, wd_s6_15, wd_14, wd_1104, by decide +kernel⟩
theorem lk_X6_382 : LkS RX6 382 yX6_mixed cX6_mixed 3 (some .int) 2 := ⟨wd_1543, wd_1544, wd_14, wd_1545, by decide +kernel⟩
theorem lk_X6_385 : LkV RX6 385 RX6 yX6_through cX6_through 7 (some .int) 2 := ⟨wd_1535, wd_1537, wd_s9_9, wd_14, wd_1538, by decide +kernel⟩
theorem lk_X6_388 : LkV RX6 388 RX6 yX6_isTurned cX6_isTurned 3 (some .boolean) 2 := ⟨wd_1507, wd_1509, wd_s9_3, wd_14, wd_1510, by decide +kernel⟩
theorem lk_X6_392 : LkV RX6 392 RX6 yX6_hungIn cX6_hungIn 3 (some .int) 2 := ⟨wd_1511, wd_1513, wd_s9_4, wd_14, wd_1514, by decide +kernel⟩
theorem lk_X6_395 : LkV RX6 395 RX6 yX6_showsAt cX6_showsAt 4 (some .int) 2 := ⟨wd_1503, wd_1505, wd_s9_2, wd_14, wd_1506, by decide +kernel⟩
theorem lk_X6_398 : LkV RX6 398 RX6 yX6_goesTo cX6_goesTo 6 (some .int) 1 := ⟨wd_1531, wd_1533, wd_s9_8, wd_14, wd_1534, by decide +kernel⟩
theorem lk_X6_401 : LkV RX6 401 RX6 yX6_lotOf cX6_lotOf 2 (some .int) 1 := ⟨wd_1539, wd_1541, wd_s9_10, wd_14, wd_1542, by decide +kernel⟩
theorem lk_X6_404 : LkV RX6 404 RX6 yX6_breaksNow cX6_breaksNow 2 none 1 := ⟨wd_1547, wd_1549, wd_s9_11, wd_14, wd_1550, by decide +kernel⟩
theorem lk_X6_407 : LkV RX6 407 RX6 yX6_minuteGoes cX6_minuteGoes 4 none 0 := ⟨wd_1527, wd_1529, wd_s9_7, wd_14, wd_1530, by decide +kernel⟩
theorem lk_X6_410 : LkV RX6 410 RX6 yX6_isMan cX6_isMan 2 (some .boolean) 1 := ⟨wd_1480, wd_1482, wd_s8_14, wd_14, wd_1483, by decide +kernel⟩
theorem lk_X6_413 : LkV RX6 413 RX6 yX6_isPast cX6_isPast 2 (some .boolean) 1 := ⟨wd_1487, wd_1489, wd_s8_15, wd_14, wd_1490, by decide +kernel⟩
theorem lk_X6_416 : LkV RX6 416 RX6 yX6_isMirror cX6_isMirror 2 (some .boolean) 1 := ⟨wd_1495, wd_1497, wd_s9_0, wd_14, wd_1498, by decide +kernel⟩
theorem lk_X6_419 : LkV RX6 419 RX6 yX6_copies cX6_copies 2 none 0 := ⟨wd_1499, wd_1501, wd_s9_1, wd_14, wd_1502, by decide +kernel⟩
theorem lk_X6_422 : LkV RX6 422 RX6 yX6_menShown cX6_menShown 3 (some .int) 2 := ⟨wd_1515, wd_1517, wd_s9_5, wd_14, wd_1518, by decide +kernel⟩
theorem lk_X6_425 : LkV RX6 425 RX6 yX6_goesTill cX6_goesTill 2 none 1 := ⟨wd_1523, wd_1525, wd_s9_6, wd_14, wd_1526, by decide +kernel⟩
theorem lk_X6_428 : LkV RX6 428 RX6 yX6_keeps cX6_keeps 3 none 0 := ⟨wd_1551, wd_1553, wd_s9_12, wd_14, wd_1554, by decide +kernel⟩
theorem lk_X6_431 : LkV RX6 431 RX6 yX6_nowOf cX6_nowOf 2 (some .int) 1 := ⟨wd_1559, wd_1561, wd_s9_13, wd_14, wd_1562, by decide +kernel⟩
theorem lk_X6_434 : LkV RX6 434 RX6 yX6_becomes cX6_becomes 3 none 2 := ⟨wd_1563, wd_1565, wd_s9_14, wd_14, wd_1566, by decide +kernel⟩
theorem lk_X6_437 : LkV RX6 437 RX6 yX6_isRoom cX6_isRoom 2 (some .boolean) 1 := ⟨wd_1575, wd_1577, wd_s9_15, wd_14, wd_1578, by decide +kernel⟩
theorem lk_X6_440 : LkV RX6 440 RX6 yX6_seenIn cX6_seenIn 4 (some .int) 3 := ⟨wd_1595, wd_1597, wd_s10_0, wd_14, wd_1598, by decide +kernel⟩
theorem lk_X6_443 : LkV RX6 443 RX6 yX6_isAlone cX6_isAlone 3 (some .boolean) 2 := ⟨wd_1623, wd_1625, wd_s10_2, wd_14, wd_1626, by decide +kernel⟩
theorem lk_X6_446 : LkV RX6 446 RX6 yX6_aloneOf cX6_aloneOf 4 (some .int) 1 := ⟨wd_1619, wd_1621, wd_s10_1, wd_14, wd_1622, by decide +kernel⟩
theorem lk_X6_449 : LkV RX6 449 RX6 yX6_isGlimpsed cX6_isGlimpsed 5 (some .boolean) 3 := ⟨wd_1639, wd_1641, wd_s10_3, wd_14, wd_1642, by decide +kernel⟩
theorem lk_X6_452 : LkV RX6 452 RX6 yX6_fillsAll cX6_fillsAll 1 none 0 := ⟨wd_1667, wd_1669, wd_s10_4, wd_14, wd_1670, by decide +kernel⟩
theorem lk_X6_455 : LkV RX6 455 RX6 yX6_showsRoom cX6_showsRoom 5 (some .boolean) 4 := ⟨wd_1671, wd_1673, wd_s10_5, wd_14, wd_1674, by decide +kernel⟩
theorem lk_X6_459 : LkS RX6 459 yX6_isLong cX6_isLong 1 (some .boolean) 1 := ⟨wd_1683, wd_1684, wd_14, wd_1685, by decide +kernel⟩
theorem lk_X6_462 : LkV RX6 462 RX6 yX6_isSeenIn cX6_isSeenIn 4 (some .boolean) 3 := ⟨wd_1686, wd_1688, wd_s10_6, wd_14, wd_1689, by decide +kernel⟩
theorem lk_X6_465 : LkV RX6 465 RX6 yX6_fillsFar cX6_fillsFar 7 none 2 := ⟨wd_1706, wd_1708, wd_s10_7, wd_14, wd_1709, by decide +kernel⟩
theorem lk_X6_468 : LkV RX6 468 RX6 yX6_watched cX6_watched 3 (some .int) 0 := ⟨wd_1714, wd_1716, wd_s10_8, wd_14, wd_1717, by decide +kernel⟩
theorem lk_X6_471 : LkV RX6 471 RX6 yX6_seenFrom cX6_seenFrom 4 (some .int) 1 := ⟨wd_1722, wd_1724, wd_s10_9, wd_14, wd_1725, by decide +kernel⟩
theorem lk_X6_474 : LkV RX6 474 RX6 yX6_hasIn cX6_hasIn 4 (some .int) 3 := ⟨wd_1734, wd_1736, wd_s10_11, wd_14, wd_1737, by decide +kernel⟩
theorem lk_X6_477 : LkV RX6 477 RX6 yX6_isResting cX6_isResting 5 (some .boolean) 3 := ⟨wd_1730, wd_1732, wd_s10_10, wd_14, wd_1733, by decide +kernel⟩
theorem lk_X6_480 : LkV RX6 480 RX6 yX6_isSo cX6_isSo 6 (some .boolean) 3 := ⟨wd_1754, wd_1756, wd_s10_12, wd_14, wd_1757, by decide +kernel⟩
theorem lk_J0_335 : LkV RJ0 335 RJ0 yJ0_coder_7d493 cJ0_coder_7d493 1 (some .byte) 0 := ⟨wd_37, wd_38, wd_39, wd_3, wd_40, by decide +kernel⟩
theorem lk_J0_492 : LkV RJ0 492 RJ0 yJ0_isLatin1_aae02 cJ0_isLatin1_aae02 1 (some .boolean) 0 := ⟨wd_47, wd_48, wd_49, wd_3, wd_50, by decide +kernel⟩
theorem lk_J0_495 : LkS RJ0 495 yJ1_charAt_3b067 cJ1_charAt_3b067 2 (some .char) 2 := ⟨wd_51, wd_52, wd_4, wd_53, by decide +kernel⟩
theorem lk_J0_498 : LkS RJ0 498 yJ2_charAt_3b067 cJ2_charAt_3b067 2 (some .char) 2 := ⟨wd_62, wd_63, wd_6, wd_64, by decide +kernel⟩
theorem lk_J0_505 : LkV RJ0 505 RJ0 yJ0_length_8abf5 cJ0_length_8abf5 1 (some .int) 0 := ⟨wd_505, wd_34, wd_35, wd_3, wd_36, by decide +kernel⟩
theorem lk_J0_633 : LkV RJ0 633 RJ0 yJ0_indexOf_7cf53 cJ0_indexOf_7cf53 3 (some .int) 2 := ⟨wd_501, wd_502, wd_503, wd_3, wd_504, by decide +kernel⟩
theorem lk_J0_637 : LkS RJ0 637 yJ1_indexOf_4cfef cJ1_indexOf_4cfef 4 (some .int) 4 := ⟨wd_506, wd_507, wd_4, wd_508, by decide +kernel⟩
theorem lk_J0_640 : LkS RJ0 640 yJ2_indexOf_4cfef cJ2_indexOf_4cfef 4 (some .int) 4 := ⟨wd_517, wd_518, wd_6, wd_519, by decide +kernel⟩
theorem lk_J0_1059 : LkS RJ0 1059 yJ3_checkIndex_8e157 cJ3_checkIndex_8e157 3 (some .int) 3 := ⟨wd_59, wd_60, wd_5, wd_61, by decide +kernel⟩
theorem lk_J0_1062 : LkS RJ0 1062 yJ3_checkFromToIndex_8c36e cJ3_checkFromToIndex_8c36e 4 (some .int) 4 := ⟨wd_532, wd_533, wd_5, wd_534, by decide +kernel⟩
theorem lk_J1_9 : LkS RJ1 9 yJ0_checkIndex_df160 cJ0_checkIndex_df160 2 none 2 := ⟨wd_54, wd_55, wd_3, wd_56, by decide +kernel⟩
theorem lk_J1_38 : LkS RJ1 38 yJ9_min_7cf53 cJ9_min_7cf53 2 (some .int) 2 := ⟨wd_513, wd_344, wd_7, wd_345, by decide +kernel⟩
theorem lk_J1_88 : LkS RJ1 88 yJ1_canEncode_9a6ad cJ1_canEncode_9a6ad 1 (some .boolean) 1 := ⟨wd_509, wd_510, wd_4, wd_511, by decide +kernel⟩
theorem lk_J1_92 : LkS RJ1 92 yJ9_max_7cf53 cJ9_max_7cf53 2 (some .int) 2 := ⟨wd_512, wd_85, wd_7, wd_86, by decide +kernel⟩
theorem lk_J1_95 : LkS RJ1 95 yJ1_indexOfChar_4cfef cJ1_indexOfChar_4cfef 6 (some .int) 4 := ⟨wd_514, wd_515, wd_4, wd_516, by decide +kernel⟩
theorem lk_J2_48 : LkS RJ2 48 yJ2_length_9d52b cJ2_length_9d52b 1 (some .int) 1 := ⟨wd_68, wd_69, wd_6, wd_70, by decide +kernel⟩
theorem lk_J2_67 : LkS RJ2 67 yJ2_checkIndex_2214a cJ2_checkIndex_2214a 2 none 2 := ⟨wd_65, wd_66, wd_6, wd_67, by decide +kernel⟩
theorem lk_J2_71 : LkS RJ2 71 yJ2_getChar_3b067 cJ2_getChar_3b067 2 (some .char) 2 := ⟨wd_72, wd_73, wd_6, wd_74, by decide +kernel⟩
theorem lk_J2_96 : LkS RJ2 96 yJ2_checkBoundsBeginEnd_d044e cJ2_checkBoundsBeginEnd_d044e 3 none 3 := ⟨wd_526, wd_527, wd_6, wd_528, by decide +kernel⟩
theorem lk_J2_157 : LkS RJ2 157 yJ11_highSurrogate_5068e cJ11_highSurrogate_5068e 1 (some .char) 1 := ⟨wd_544, wd_545, wd_15, wd_546, by decide +kernel⟩
theorem lk_J2_161 : LkS RJ2 161 yJ11_lowSurrogate_5068e cJ11_lowSurrogate_5068e 1 (some .char) 1 := ⟨wd_548, wd_549, wd_15, wd_550, by decide +kernel⟩
theorem lk_J2_164 : LkS RJ2 164 yJ11_isValidCodePoint_9a6ad cJ11_isValidCodePoint_9a6ad 2 (some .boolean) 1 := ⟨wd_541, wd_542, wd_15, wd_543, by decide +kernel⟩
theorem lk_J2_183 : LkS RJ2 183 yJ9_min_7cf53 cJ9_min_7cf53 2 (some .int) 2 := ⟨wd_521, wd_344, wd_7, wd_345, by decide +kernel⟩
theorem lk_J2_224 : LkS RJ2 224 yJ9_max_7cf53 cJ9_max_7cf53 2 (some .int) 2 := ⟨wd_520, wd_85, wd_7, wd_86, by decide +kernel⟩
theorem lk_J2_228 : LkS RJ2 228 yJ2_indexOfChar_4cfef cJ2_indexOfChar_4cfef 4 (some .int) 4 := ⟨wd_523, wd_524, wd_6, wd_525, by decide +kernel⟩
theorem lk_J2_232 : LkS RJ2 232 yJ2_indexOfSupplementary_4cfef cJ2_indexOfSupplementary_4cfef 7 (some .int) 4 := ⟨wd_538, wd_539, wd_6, wd_540, by decide +kernel⟩
theorem lk_J2_241 : LkS RJ2 241 yJ0_checkBoundsBeginEnd_23922 cJ0_checkBoundsBeginEnd_23922 3 none 3 := ⟨wd_529, wd_530, wd_3, wd_531, by decide +kernel⟩
theorem lk_J2_244 : LkS RJ2 244 yJ2_indexOfCharUnsafe_4cfef cJ2_indexOfCharUnsafe_4cfef 5 (some .int) 4 := ⟨wd_535, wd_536, wd_6, wd_537, by decide +kernel⟩
theorem lk_J2_414 : LkS RJ2 414 yJ0_checkIndex_df160 cJ0_checkIndex_df160 2 none 2 := ⟨wd_71, wd_55, wd_3, wd_56, by decide +kernel⟩
