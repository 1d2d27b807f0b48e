section LK
variable {p : Program} {l : Launch} {e : Env} {s : State} {m : MethodId} {below : List Frame} {meth : Method} {c : Code} {b L : Nat} {xs : Nat → Int32} {g gm : GG} {S M : St} {H : Heap} {locs : List Loc} {cells slots : Nat} {Q : State → Prop} {ls : Array Slot} {x3 : Int32}
set_option maxRecDepth 100000 in
set_option maxHeartbeats 4000000 in
theorem lc_32 (C0 : lw_At p s m meth c b L xs) (hc : LC g gm s) (hw : RW S M) (h : LSw g gm s S M H locs) (h1 : vp_in (x3 + 1) L) (h2 : vp_in (x3 + 2) L) (h3 : vp_in (x3 + 3) L) (h4 : vp_in (x3 + 4) L) (h5 : vp_in (x3 + 5) L) (hfit : cells + 0 ≤ room_1.cells ∧ slots + 0 ≤ room_1.slots) (hl : lv_has ls 4 [(0, .ref b), (1, .ref (gg_o g 0)), (2, .ref (gg_o gm 0)), (3, .int x3)]) (kk : ∀ (S2 M2 : St) (H2 : Heap) (locs2 : List Loc), RW S2 M2 → LSw g gm s S2 M2 H2 locs2 → W p l e room_1 s m #[Value.ref b] below meth c H2 locs2 cells slots Q (F0 m 1750 ls [])) : W p l e room_1 s m #[Value.ref b] below meth c H locs cells slots Q (F0 m 1338 ls []) := by
  obtain ⟨hx, hb, hr, hml, hown0, hts, hX, hbl, hlocks, hgv⟩ := C0
  have hown : s.vm.findClass RL = some m.cls := hown0
  have htsG : ∀ z ∈ gw_tbl, z.before #[Value.ref b] s = true := fun z hz => hts z (gw_lw z hz)
  have hbA : ¬ (fun z : Nat => s.heap.size ≤ z) b := Nat.not_le.mpr hbl
  obtain ⟨hP, hP2, hS⟩ := h
  obtain ⟨A, kt, sd, hA, hC, hM⟩ := hw
  obtain ⟨v, S2, M2, e1, e2, hw2⟩ := Q_seen hA hC hM (xs (x3 + 1).toNatClampNeg) (xs (x3 + 2).toNatClampNeg)
  refine lv_aload_n hx hb dL_law_1338 rfl (lv_at hl 1 rfl) ?_
  refine lv_aload_n hx hb dL_law_1339 rfl (lv_at hl 0 rfl) ?_
  refine lv_iload_n hx hb dL_law_1340 rfl (lv_at hl 3 rfl) ?_
  refine lv_iconst (v := 1) hx hb dL_law_1341 (by decide) ?_
  refine lv_iadd hx hb dL_law_1342 ?_
  refine va_sld hx hb hX hbl hbA hS h1 dL_law_1343 ?_
  refine lv_aload_n hx hb dL_law_1344 rfl (lv_at hl 0 rfl) ?_
  refine lv_iload_n hx hb dL_law_1345 rfl (lv_at hl 3 rfl) ?_
  refine lv_iconst (v := 2) hx hb dL_law_1346 (by decide) ?_
  refine lv_iadd hx hb dL_law_1347 ?_
  refine va_sld hx hb hX hbl hbA hS h2 dL_law_1348 ?_
  refine r_L_w (w := wd_C) (g := g) (S := S) (As := [.int (xs (x3 + 1).toNatClampNeg), .int (xs (x3 + 2).toNatClampNeg)]) (rest := []) (q := (v, S2)) hx hb hml hown htsG hc.2.2.2.2.1 hc.2.2.2.2.2.2.1 hc.1 hP hP2 (LC_1 hc M) hS hc.2.2.2.2.2.2.2.2.1 hc.2.1.1.2.1 (by rw [hc.2.1.1.1]; rfl) lkL_152 (k_X5_seen l g hc.1 hc.2.1 S (xs (x3 + 1).toNatClampNeg) (xs (x3 + 2).toNatClampNeg) (v, S2) e1) ⟨⟨rfl, rfl⟩, Nat.le_of_ble_eq_true rfl, Nat.le_of_ble_eq_true rfl⟩ rfl hl.1 rfl (Nat.le_of_ble_eq_true rfl) dL_law_1349 hfit (fun H locs hP hP2 hS => ?_)
  refine lv_aload_n hx hb dL_law_1352 rfl (lv_at hl 2 rfl) ?_
  refine lv_aload_n hx hb dL_law_1353 rfl (lv_at hl 0 rfl) ?_
  refine lv_iload_n hx hb dL_law_1354 rfl (lv_at hl 3 rfl) ?_
  refine lv_iconst (v := 1) hx hb dL_law_1355 (by decide) ?_
  refine lv_iadd hx hb dL_law_1356 ?_
  refine va_sld hx hb hX hbl hbA hS h1 dL_law_1357 ?_
  refine lv_aload_n hx hb dL_law_1358 rfl (lv_at hl 0 rfl) ?_
  refine lv_iload_n hx hb dL_law_1359 rfl (lv_at hl 3 rfl) ?_
  refine lv_iconst (v := 2) hx hb dL_law_1360 (by decide) ?_
  refine lv_iadd hx hb dL_law_1361 ?_
  refine va_sld hx hb hX hbl hbA hS h2 dL_law_1362 ?_
  refine r_L_w (w := wd_M) (g := gm) (S := M) (As := [.int (xs (x3 + 1).toNatClampNeg), .int (xs (x3 + 2).toNatClampNeg)]) (rest := [.int (v)]) (q := (v, M2)) hx hb hml hown htsG hc.2.2.2.2.2.1 trivial hc.2.2.1 hP2 hP (LC_2 hc S2) hS hc.2.2.2.2.2.2.2.2.2 hc.2.2.2.1.2.1 (by rw [hc.2.2.2.1.1]; rfl) lkL_155 (k_X6_seen l gm hc.2.2.1 hc.2.2.2.1 M (xs (x3 + 1).toNatClampNeg) (xs (x3 + 2).toNatClampNeg) (v, M2) e2) ⟨⟨rfl, rfl⟩, Nat.le_of_ble_eq_true rfl, Nat.le_of_ble_eq_true rfl⟩ rfl hl.1 rfl (Nat.le_of_ble_eq_true rfl) dL_law_1363 hfit (fun H locs hP2 hP hS => ?_)
  refine lv_icmp_eq (tgt := 1750) hx hb dL_law_1366 rfl (fun _ => ?_) (fun hz2 => absurd rfl hz2)
  exact kk _ _ _ _ hw2 ⟨hP, hP2, hS⟩
set_option maxRecDepth 100000 in
set_option maxHeartbeats 4000000 in
theorem lc_33 (C0 : lw_At p s m meth c b L xs) (hc : LC g gm s) (hw : RW S M) (h : LSw g gm s S M H locs) (h1 : vp_in (x3 + 1) L) (h2 : vp_in (x3 + 2) L) (h3 : vp_in (x3 + 3) L) (h4 : vp_in (x3 + 4) L) (h5 : vp_in (x3 + 5) L) (hfit : cells + 0 ≤ room_1.cells ∧ slots + 0 ≤ room_1.slots) (hl : lv_has ls 4 [(0, .ref b), (1, .ref (gg_o g 0)), (2, .ref (gg_o gm 0)), (3, .int x3)]) (kk : ∀ (S2 M2 : St) (H2 : Heap) (locs2 : List Loc), RW S2 M2 → LSw g gm s S2 M2 H2 locs2 → W p l e room_1 s m #[Value.ref b] below meth c H2 locs2 cells slots Q (F0 m 1750 ls [])) : W p l e room_1 s m #[Value.ref b] below meth c H locs cells slots Q (F0 m 1371 ls []) := by
  obtain ⟨hx, hb, hr, hml, hown0, hts, hX, hbl, hlocks, hgv⟩ := C0
  have hown : s.vm.findClass RL = some m.cls := hown0
  have htsG : ∀ z ∈ gw_tbl, z.before #[Value.ref b] s = true := fun z hz => hts z (gw_lw z hz)
  have hbA : ¬ (fun z : Nat => s.heap.size ≤ z) b := Nat.not_le.mpr hbl
  obtain ⟨hP, hP2, hS⟩ := h
  obtain ⟨A, kt, sd, hA, hC, hM⟩ := hw
  obtain ⟨v, S2, M2, e1, e2, hw2⟩ := Q_jolt hA hC hM (xs (x3 + 1).toNatClampNeg) (xs (x3 + 2).toNatClampNeg) (xs (x3 + 3).toNatClampNeg)
  refine lv_aload_n hx hb dL_law_1371 rfl (lv_at hl 1 rfl) ?_
  refine lv_aload_n hx hb dL_law_1372 rfl (lv_at hl 0 rfl) ?_
  refine lv_iload_n hx hb dL_law_1373 rfl (lv_at hl 3 rfl) ?_
  refine lv_iconst (v := 1) hx hb dL_law_1374 (by decide) ?_
  refine lv_iadd hx hb dL_law_1375 ?_
  refine va_sld hx hb hX hbl hbA hS h1 dL_law_1376 ?_
  refine lv_aload_n hx hb dL_law_1377 rfl (lv_at hl 0 rfl) ?_
  refine lv_iload_n hx hb dL_law_1378 rfl (lv_at hl 3 rfl) ?_
  refine lv_iconst (v := 2) hx hb dL_law_1379 (by decide) ?_
  refine lv_iadd hx hb dL_law_1380 ?_
  refine va_sld hx hb hX hbl hbA hS h2 dL_law_1381 ?_
  refine lv_aload_n hx hb dL_law_1382 rfl (lv_at hl 0 rfl) ?_
  refine lv_iload_n hx hb dL_law_1383 rfl (lv_at hl 3 rfl) ?_
  refine lv_iconst (v := 3) hx hb dL_law_1384 (by decide) ?_
  refine lv_iadd hx hb dL_law_1385 ?_
  refine va_sld hx hb hX hbl hbA hS h3 dL_law_1386 ?_
  refine r_L_w (w := wd_C) (g := g) (S := S) (As := [.int (xs (x3 + 1).toNatClampNeg), .int (xs (x3 + 2).toNatClampNeg), .int (xs (x3 + 3).toNatClampNeg)]) (rest := []) (q := (v, S2)) hx hb hml hown htsG hc.2.2.2.2.1 hc.2.2.2.2.2.2.1 hc.1 hP hP2 (LC_1 hc M) hS hc.2.2.2.2.2.2.2.2.1 hc.2.1.1.2.1 (by rw [hc.2.1.1.1]; rfl) lkL_156 (k_X5_jolt l g hc.1 hc.2.1 S (xs (x3 + 1).toNatClampNeg) (xs (x3 + 2).toNatClampNeg) (xs (x3 + 3).toNatClampNeg) (v, S2) e1) ⟨⟨rfl, rfl⟩, Nat.le_of_ble_eq_true rfl, Nat.le_of_ble_eq_true rfl⟩ rfl hl.1 rfl (Nat.le_of_ble_eq_true rfl) dL_law_1387 hfit (fun H locs hP hP2 hS => ?_)
  refine lv_aload_n hx hb dL_law_1390 rfl (lv_at hl 2 rfl) ?_
  refine lv_aload_n hx hb dL_law_1391 rfl (lv_at hl 0 rfl) ?_
  refine lv_iload_n hx hb dL_law_1392 rfl (lv_at hl 3 rfl) ?_
  refine lv_iconst (v := 1) hx hb dL_law_1393 (by decide) ?_
  refine lv_iadd hx hb dL_law_1394 ?_
  refine va_sld hx hb hX hbl hbA hS h1 dL_law_1395 ?_
  refine lv_aload_n hx hb dL_law_1396 rfl (lv_at hl 0 rfl) ?_
  refine lv_iload_n hx hb dL_law_1397 rfl (lv_at hl 3 rfl) ?_
  refine lv_iconst (v := 2) hx hb dL_law_1398 (by decide) ?_
  refine lv_iadd hx hb dL_law_1399 ?_
  refine va_sld hx hb hX hbl hbA hS h2 dL_law_1400 ?_
  refine lv_aload_n hx hb dL_law_1401 rfl (lv_at hl 0 rfl) ?_
  refine lv_iload_n hx hb dL_law_1402 rfl (lv_at hl 3 rfl) ?_
  refine lv_iconst (v := 3) hx hb dL_law_1403 (by decide) ?_
  refine lv_iadd hx hb dL_law_1404 ?_
  refine va_sld hx hb hX hbl hbA hS h3 dL_law_1405 ?_
  refine r_L_w (w := wd_M) (g := gm) (S := M) (As := [.int (xs (x3 + 1).toNatClampNeg), .int (xs (x3 + 2).toNatClampNeg), .int (xs (x3 + 3).toNatClampNeg)]) (rest := [.int (v)]) (q := (v, M2)) hx hb hml hown htsG hc.2.2.2.2.2.1 trivial hc.2.2.1 hP2 hP (LC_2 hc S2) hS hc.2.2.2.2.2.2.2.2.2 hc.2.2.2.1.2.1 (by rw [hc.2.2.2.1.1]; rfl) lkL_159 (k_X6_jolt l gm hc.2.2.1 hc.2.2.2.1 M (xs (x3 + 1).toNatClampNeg) (xs (x3 + 2).toNatClampNeg) (xs (x3 + 3).toNatClampNeg) (v, M2) e2) ⟨⟨rfl, rfl⟩, Nat.le_of_ble_eq_true rfl, Nat.le_of_ble_eq_true rfl⟩ rfl hl.1 rfl (Nat.le_of_ble_eq_true rfl) dL_law_1406 hfit (fun H locs hP2 hP hS => ?_)
  refine lv_icmp_eq (tgt := 1750) hx hb dL_law_1409 rfl (fun _ => ?_) (fun hz2 => absurd rfl hz2)
  exact kk _ _ _ _ hw2 ⟨hP, hP2, hS⟩
set_option maxRecDepth 100000 in
set_option maxHeartbeats 4000000 in
theorem lc_34 (C0 : lw_At p s m meth c b L xs) (hc : LC g gm s) (hw : RW S M) (h : LSw g gm s S M H locs) (h1 : vp_in (x3 + 1) L) (h2 : vp_in (x3 + 2) L) (h3 : vp_in (x3 + 3) L) (h4 : vp_in (x3 + 4) L) (h5 : vp_in (x3 + 5) L) (hfit : cells + 0 ≤ room_1.cells ∧ slots + 0 ≤ room_1.slots) (hl : lv_has ls 4 [(0, .ref b), (1, .ref (gg_o g 0)), (2, .ref (gg_o gm 0)), (3, .int x3)]) (kk : ∀ (S2 M2 : St) (H2 : Heap) (locs2 : List Loc), RW S2 M2 → LSw g gm s S2 M2 H2 locs2 → W p l e room_1 s m #[Value.ref b] below meth c H2 locs2 cells slots Q (F0 m 1750 ls [])) : W p l e room_1 s m #[Value.ref b] below meth c H locs cells slots Q (F0 m 1414 ls []) := by
  obtain ⟨hx, hb, hr, hml, hown0, hts, hX, hbl, hlocks, hgv⟩ := C0
  have hown : s.vm.findClass RL = some m.cls := hown0
  have htsG : ∀ z ∈ gw_tbl, z.before #[Value.ref b] s = true := fun z hz => hts z (gw_lw z hz)
  have hbA : ¬ (fun z : Nat => s.heap.size ≤ z) b := Nat.not_le.mpr hbl
  obtain ⟨hP, hP2, hS⟩ := h
  obtain ⟨A, kt, sd, hA, hC, hM⟩ := hw
  obtain ⟨v, S2, M2, e1, e2, hw2⟩ := Q_hidden hA hC hM (xs (x3 + 1).toNatClampNeg) (xs (x3 + 2).toNatClampNeg) (xs (x3 + 3).toNatClampNeg)
  refine lv_aload_n hx hb dL_law_1414 rfl (lv_at hl 1 rfl) ?_
  refine lv_aload_n hx hb dL_law_1415 rfl (lv_at hl 0 rfl) ?_
  refine lv_iload_n hx hb dL_law_1416 rfl (lv_at hl 3 rfl) ?_
  refine lv_iconst (v := 1) hx hb dL_law_1417 (by decide) ?_
  refine lv_iadd hx hb dL_law_1418 ?_
  refine va_sld hx hb hX hbl hbA hS h1 dL_law_1419 ?_
  refine lv_aload_n hx hb dL_law_1420 rfl (lv_at hl 0 rfl) ?_
  refine lv_iload_n hx hb dL_law_1421 rfl (lv_at hl 3 rfl) ?_
  refine lv_iconst (v := 2) hx hb dL_law_1422 (by decide) ?_
  refine lv_iadd hx hb dL_law_1423 ?_
  refine va_sld hx hb hX hbl hbA hS h2 dL_law_1424 ?_
  refine lv_aload_n hx hb dL_law_1425 rfl (lv_at hl 0 rfl) ?_
  refine lv_iload_n hx hb dL_law_1426 rfl (lv_at hl 3 rfl) ?_
  refine lv_iconst (v := 3) hx hb dL_law_1427 (by decide) ?_
  refine lv_iadd hx hb dL_law_1428 ?_
  refine va_sld hx hb hX hbl hbA hS h3 dL_law_1429 ?_
  refine r_L_w (w := wd_C) (g := g) (S := S) (As := [.int (xs (x3 + 1).toNatClampNeg), .int (xs (x3 + 2).toNatClampNeg), .int (xs (x3 + 3).toNatClampNeg)]) (rest := []) (q := (v, S2)) hx hb hml hown htsG hc.2.2.2.2.1 hc.2.2.2.2.2.2.1 hc.1 hP hP2 (LC_1 hc M) hS hc.2.2.2.2.2.2.2.2.1 hc.2.1.1.2.1 (by rw [hc.2.1.1.1]; rfl) lkL_160 (k_X5_hidden l g hc.1 hc.2.1 S (xs (x3 + 1).toNatClampNeg) (xs (x3 + 2).toNatClampNeg) (xs (x3 + 3).toNatClampNeg) (v, S2) e1) ⟨⟨rfl, rfl⟩, Nat.le_of_ble_eq_true rfl, Nat.le_of_ble_eq_true rfl⟩ rfl hl.1 rfl (Nat.le_of_ble_eq_true rfl) dL_law_1430 hfit (fun H locs hP hP2 hS => ?_)
  refine lv_aload_n hx hb dL_law_1433 rfl (lv_at hl 2 rfl) ?_
  refine lv_aload_n hx hb dL_law_1434 rfl (lv_at hl 0 rfl) ?_
  refine lv_iload_n hx hb dL_law_1435 rfl (lv_at hl 3 rfl) ?_
  refine lv_iconst (v := 1) hx hb dL_law_1436 (by decide) ?_
  refine lv_iadd hx hb dL_law_1437 ?_
  refine va_sld hx hb hX hbl hbA hS h1 dL_law_1438 ?_
  refine lv_aload_n hx hb dL_law_1439 rfl (lv_at hl 0 rfl) ?_
  refine lv_iload_n hx hb dL_law_1440 rfl (lv_at hl 3 rfl) ?_
  refine lv_iconst (v := 2) hx hb dL_law_1441 (by decide) ?_
  refine lv_iadd hx hb dL_law_1442 ?_
  refine va_sld hx hb hX hbl hbA hS h2 dL_law_1443 ?_
  refine lv_aload_n hx hb dL_law_1444 rfl (lv_at hl 0 rfl) ?_
  refine lv_iload_n hx hb dL_law_1445 rfl (lv_at hl 3 rfl) ?_
  refine lv_iconst (v := 3) hx hb dL_law_1446 (by decide) ?_
  refine lv_iadd hx hb dL_law_1447 ?_
  refine va_sld hx hb hX hbl hbA hS h3 dL_law_1448 ?_
  refine r_L_w (w := wd_M) (g := gm) (S := M) (As := [.int (xs (x3 + 1).toNatClampNeg), .int (xs (x3 + 2).toNatClampNeg), .int (xs (x3 + 3).toNatClampNeg)]) (rest := [.int (v)]) (q := (v, M2)) hx hb hml hown htsG hc.2.2.2.2.2.1 trivial hc.2.2.1 hP2 hP (LC_2 hc S2) hS hc.2.2.2.2.2.2.2.2.2 hc.2.2.2.1.2.1 (by rw [hc.2.2.2.1.1]; rfl) lkL_163 (k_X6_hidden l gm hc.2.2.1 hc.2.2.2.1 M (xs (x3 + 1).toNatClampNeg) (xs (x3 + 2).toNatClampNeg) (xs (x3 + 3).toNatClampNeg) (v, M2) e2) ⟨⟨rfl, rfl⟩, Nat.le_of_ble_eq_true rfl, Nat.le_of_ble_eq_true rfl⟩ rfl hl.1 rfl (Nat.le_of_ble_eq_true rfl) dL_law_1449 hfit (fun H locs hP2 hP hS => ?_)
  refine lv_icmp_eq (tgt := 1750) hx hb dL_law_1452 rfl (fun _ => ?_) (fun hz2 => absurd rfl hz2)
  exact kk _ _ _ _ hw2 ⟨hP, hP2, hS⟩
set_option maxRecDepth 100000 in
set_option maxHeartbeats 4000000 in
theorem lc_35 (C0 : lw_At p s m meth c b L xs) (hc : LC g gm s) (hw : RW S M) (h : LSw g gm s S M H locs) (h1 : vp_in (x3 + 1) L) (h2 : vp_in (x3 + 2) L) (h3 : vp_in (x3 + 3) L) (h4 : vp_in (x3 + 4) L) (h5 : vp_in (x3 + 5) L) (hfit : cells + 0 ≤ room_1.cells ∧ slots + 0 ≤ room_1.slots) (hl : lv_has ls 4 [(0, .ref b), (1, .ref (gg_o g 0)), (2, .ref (gg_o gm 0)), (3, .int x3)]) (kk : ∀ (S2 M2 : St) (H2 : Heap) (locs2 : List Loc), RW S2 M2 → LSw g gm s S2 M2 H2 locs2 → W p l e room_1 s m #[Value.ref b] below meth c H2 locs2 cells slots Q (F0 m 1750 ls [])) : W p l e room_1 s m #[Value.ref b] below meth c H locs cells slots Q (F0 m 1457 ls []) := by
  obtain ⟨hx, hb, hr, hml, hown0, hts, hX, hbl, hlocks, hgv⟩ := C0
  have hown : s.vm.findClass RL = some m.cls := hown0
  have htsG : ∀ z ∈ gw_tbl, z.before #[Value.ref b] s = true := fun z hz => hts z (gw_lw z hz)
  have hbA : ¬ (fun z : Nat => s.heap.size ≤ z) b := Nat.not_le.mpr hbl
  obtain ⟨hP, hP2, hS⟩ := h
  obtain ⟨A, kt, sd, hA, hC, hM⟩ := hw
  obtain ⟨v, S2, M2, e1, e2, hw2⟩ := Q_stand hA hC hM (xs (x3 + 1).toNatClampNeg)
  obtain ⟨e1, rS⟩ := pu_s e1
  rw [rS] at hw2
  refine lv_aload_n hx hb dL_law_1457 rfl (lv_at hl 1 rfl) ?_
  refine lv_aload_n hx hb dL_law_1458 rfl (lv_at hl 0 rfl) ?_
  refine lv_iload_n hx hb dL_law_1459 rfl (lv_at hl 3 rfl) ?_
  refine lv_iconst (v := 1) hx hb dL_law_1460 (by decide) ?_
  refine lv_iadd hx hb dL_law_1461 ?_
  refine va_sld hx hb hX hbl hbA hS h1 dL_law_1462 ?_
  refine r_L_i (w := wd_C) (g := g) (S := S) (As := [.int (xs (x3 + 1).toNatClampNeg)]) (rest := []) (q := v) hx hb hml hown htsG hc.2.2.2.2.1 hc.2.2.2.2.2.2.1 hc.1 hP hP2 (LC_1 hc M) hS hc.2.2.2.2.2.2.2.2.1 hc.2.1.1.2.1 (by rw [hc.2.1.1.1]; rfl) lkL_164 (k_X5_stand l g hc.1 hc.2.1 S (xs (x3 + 1).toNatClampNeg) v e1) ⟨⟨rfl, rfl⟩, Nat.le_of_ble_eq_true rfl, Nat.le_of_ble_eq_true rfl⟩ rfl hl.1 rfl (Nat.le_of_ble_eq_true rfl) dL_law_1463 hfit (fun H locs hP hP2 hS => ?_)
  refine lv_aload_n hx hb dL_law_1466 rfl (lv_at hl 2 rfl) ?_
  refine lv_aload_n hx hb dL_law_1467 rfl (lv_at hl 0 rfl) ?_
  refine lv_iload_n hx hb dL_law_1468 rfl (lv_at hl 3 rfl) ?_
  refine lv_iconst (v := 1) hx hb dL_law_1469 (by decide) ?_
  refine lv_iadd hx hb dL_law_1470 ?_
  refine va_sld hx hb hX hbl hbA hS h1 dL_law_1471 ?_
  refine r_L_w (w := wd_M) (g := gm) (S := M) (As := [.int (xs (x3 + 1).toNatClampNeg)]) (rest := [.int (v)]) (q := (v, M2)) hx hb hml hown htsG hc.2.2.2.2.2.1 trivial hc.2.2.1 hP2 hP (LC_2 hc S) hS hc.2.2.2.2.2.2.2.2.2 hc.2.2.2.1.2.1 (by rw [hc.2.2.2.1.1]; rfl) lkL_167 (k_X6_stand l gm hc.2.2.1 hc.2.2.2.1 M (xs (x3 + 1).toNatClampNeg) (v, M2) e2) ⟨⟨rfl, rfl⟩, Nat.le_of_ble_eq_true rfl, Nat.le_of_ble_eq_true rfl⟩ rfl hl.1 rfl (Nat.le_of_ble_eq_true rfl) dL_law_1472 hfit (fun H locs hP2 hP hS => ?_)
  refine lv_icmp_eq (tgt := 1750) hx hb dL_law_1475 rfl (fun _ => ?_) (fun hz2 => absurd rfl hz2)
  exact kk _ _ _ _ hw2 ⟨hP, hP2, hS⟩
set_option maxRecDepth 100000 in
set_option maxHeartbeats 4000000 in
theorem lc_36 (C0 : lw_At p s m meth c b L xs) (hc : LC g gm s) (hw : RW S M) (h : LSw g gm s S M H locs) (h1 : vp_in (x3 + 1) L) (h2 : vp_in (x3 + 2) L) (h3 : vp_in (x3 + 3) L) (h4 : vp_in (x3 + 4) L) (h5 : vp_in (x3 + 5) L) (hfit : cells + 0 ≤ room_1.cells ∧ slots + 0 ≤ room_1.slots) (hl : lv_has ls 4 [(0, .ref b), (1, .ref (gg_o g 0)), (2, .ref (gg_o gm 0)), (3, .int x3)]) (kk : ∀ (S2 M2 : St) (H2 : Heap) (locs2 : List Loc), RW S2 M2 → LSw g gm s S2 M2 H2 locs2 → W p l e room_1 s m #[Value.ref b] below meth c H2 locs2 cells slots Q (F0 m 1750 ls [])) : W p l e room_1 s m #[Value.ref b] below meth c H locs cells slots Q (F0 m 1480 ls []) := by
  obtain ⟨hx, hb, hr, hml, hown0, hts, hX, hbl, hlocks, hgv⟩ := C0
  have hown : s.vm.findClass RL = some m.cls := hown0
  have htsG : ∀ z ∈ gw_tbl, z.before #[Value.ref b] s = true := fun z hz => hts z (gw_lw z hz)
  have hbA : ¬ (fun z : Nat => s.heap.size ≤ z) b := Nat.not_le.mpr hbl
  obtain ⟨hP, hP2, hS⟩ := h
  obtain ⟨A, kt, sd, hA, hC, hM⟩ := hw
  obtain ⟨v, S2, M2, e1, e2, hw2⟩ := Q_turned hA hC hM (xs (x3 + 1).toNatClampNeg) (xs (x3 + 2).toNatClampNeg)
  refine lv_aload_n hx hb dL_law_1480 rfl (lv_at hl 1 rfl) ?_
  refine lv_aload_n hx hb dL_law_1481 rfl (lv_at hl 0 rfl) ?_
  refine lv_iload_n hx hb dL_law_1482 rfl (lv_at hl 3 rfl) ?_
  refine lv_iconst (v := 1) hx hb dL_law_1483 (by decide) ?_
  refine lv_iadd hx hb dL_law_1484 ?_
  refine va_sld hx hb hX hbl hbA hS h1 dL_law_1485 ?_
  refine lv_aload_n hx hb dL_law_1486 rfl (lv_at hl 0 rfl) ?_
  refine lv_iload_n hx hb dL_law_1487 rfl (lv_at hl 3 rfl) ?_
  refine lv_iconst (v := 2) hx hb dL_law_1488 (by decide) ?_
  refine lv_iadd hx hb dL_law_1489 ?_
  refine va_sld hx hb hX hbl hbA hS h2 dL_law_1490 ?_
  refine r_L_w (w := wd_C) (g := g) (S := S) (As := [.int (xs (x3 + 1).toNatClampNeg), .int (xs (x3 + 2).toNatClampNeg)]) (rest := []) (q := (v, S2)) hx hb hml hown htsG hc.2.2.2.2.1 hc.2.2.2.2.2.2.1 hc.1 hP hP2 (LC_1 hc M) hS hc.2.2.2.2.2.2.2.2.1 hc.2.1.1.2.1 (by rw [hc.2.1.1.1]; rfl) lkL_168 (k_X5_turned l g hc.1 hc.2.1 S (xs (x3 + 1).toNatClampNeg) (xs (x3 + 2).toNatClampNeg) (v, S2) e1) ⟨⟨rfl, rfl⟩, Nat.le_of_ble_eq_true rfl, Nat.le_of_ble_eq_true rfl⟩ rfl hl.1 rfl (Nat.le_of_ble_eq_true rfl) dL_law_1491 hfit (fun H locs hP hP2 hS => ?_)
  refine lv_aload_n hx hb dL_law_1494 rfl (lv_at hl 2 rfl) ?_
  refine lv_aload_n hx hb dL_law_1495 rfl (lv_at hl 0 rfl) ?_
  refine lv_iload_n hx hb dL_law_1496 rfl (lv_at hl 3 rfl) ?_
  refine lv_iconst (v := 1) hx hb dL_law_1497 (by decide) ?_
  refine lv_iadd hx hb dL_law_1498 ?_
  refine va_sld hx hb hX hbl hbA hS h1 dL_law_1499 ?_
  refine lv_aload_n hx hb dL_law_1500 rfl (lv_at hl 0 rfl) ?_
  refine lv_iload_n hx hb dL_law_1501 rfl (lv_at hl 3 rfl) ?_
  refine lv_iconst (v := 2) hx hb dL_law_1502 (by decide) ?_
  refine lv_iadd hx hb dL_law_1503 ?_
  refine va_sld hx hb hX hbl hbA hS h2 dL_law_1504 ?_
  refine r_L_w (w := wd_M) (g := gm) (S := M) (As := [.int (xs (x3 + 1).toNatClampNeg), .int (xs (x3 + 2).toNatClampNeg)]) (rest := [.int (v)]) (q := (v, M2)) hx hb hml hown htsG hc.2.2.2.2.2.1 trivial hc.2.2.1 hP2 hP (LC_2 hc S2) hS hc.2.2.2.2.2.2.2.2.2 hc.2.2.2.1.2.1 (by rw [hc.2.2.2.1.1]; rfl) lkL_171 (k_X6_turned l gm hc.2.2.1 hc.2.2.2.1 M (xs (x3 + 1).toNatClampNeg) (xs (x3 + 2).toNatClampNeg) (v, M2) e2) ⟨⟨rfl, rfl⟩, Nat.le_of_ble_eq_true rfl, Nat.le_of_ble_eq_true rfl⟩ rfl hl.1 rfl (Nat.le_of_ble_eq_true rfl) dL_law_1505 hfit (fun H locs hP2 hP hS => ?_)
  refine lv_icmp_eq (tgt := 1750) hx hb dL_law_1508 rfl (fun _ => ?_) (fun hz2 => absurd rfl hz2)
  exact kk _ _ _ _ hw2 ⟨hP, hP2, hS⟩
set_option maxRecDepth 100000 in
set_option maxHeartbeats 4000000 in
theorem lc_37 (C0 : lw_At p s m meth c b L xs) (hc : LC g gm s) (hw : RW S M) (h : LSw g gm s S M H locs) (h1 : vp_in (x3 + 1) L) (h2 : vp_in (x3 + 2) L) (h3 : vp_in (x3 + 3) L) (h4 : vp_in (x3 + 4) L) (h5 : vp_in (x3 + 5) L) (hfit : cells + 0 ≤ room_1.cells ∧ slots + 0 ≤ room_1.slots) (hl : lv_has ls 4 [(0, .ref b), (1, .ref (gg_o g 0)), (2, .ref (gg_o gm 0)), (3, .int x3)]) (kk : ∀ (S2 M2 : St) (H2 : Heap) (locs2 : List Loc), RW S2 M2 → LSw g gm s S2 M2 H2 locs2 → W p l e room_1 s m #[Value.ref b] below meth c H2 locs2 cells slots Q (F0 m 1750 ls [])) : W p l e room_1 s m #[Value.ref b] below meth c H locs cells slots Q (F0 m 1513 ls []) := by
  obtain ⟨hx, hb, hr, hml, hown0, hts, hX, hbl, hlocks, hgv⟩ := C0
  have hown : s.vm.findClass RL = some m.cls := hown0
  have htsG : ∀ z ∈ gw_tbl, z.before #[Value.ref b] s = true := fun z hz => hts z (gw_lw z hz)
  have hbA : ¬ (fun z : Nat => s.heap.size ≤ z) b := Nat.not_le.mpr hbl
  obtain ⟨hP, hP2, hS⟩ := h
  obtain ⟨A, kt, sd, hA, hC, hM⟩ := hw
  obtain ⟨v, S2, M2, e1, e2, hw2⟩ := Q_odds hA hC hM (xs (x3 + 1).toNatClampNeg) (xs (x3 + 2).toNatClampNeg) (xs (x3 + 3).toNatClampNeg)
  obtain ⟨e1, rS⟩ := pu_s e1
  rw [rS] at hw2
  refine lv_aload_n hx hb dL_law_1513 rfl (lv_at hl 1 rfl) ?_
  refine lv_aload_n hx hb dL_law_1514 rfl (lv_at hl 0 rfl) ?_
  refine lv_iload_n hx hb dL_law_1515 rfl (lv_at hl 3 rfl) ?_
  refine lv_iconst (v := 1) hx hb dL_law_1516 (by decide) ?_
  refine lv_iadd hx hb dL_law_1517 ?_
  refine va_sld hx hb hX hbl hbA hS h1 dL_law_1518 ?_
  refine lv_aload_n hx hb dL_law_1519 rfl (lv_at hl 0 rfl) ?_
  refine lv_iload_n hx hb dL_law_1520 rfl (lv_at hl 3 rfl) ?_
  refine lv_iconst (v := 2) hx hb dL_law_1521 (by decide) ?_
  refine lv_iadd hx hb dL_law_1522 ?_
  refine va_sld hx hb hX hbl hbA hS h2 dL_law_1523 ?_
  refine lv_aload_n hx hb dL_law_1524 rfl (lv_at hl 0 rfl) ?_
  refine lv_iload_n hx hb dL_law_1525 rfl (lv_at hl 3 rfl) ?_
  refine lv_iconst (v := 3) hx hb dL_law_1526 (by decide) ?_
  refine lv_iadd hx hb dL_law_1527 ?_
  refine va_sld hx hb hX hbl hbA hS h3 dL_law_1528 ?_
  refine r_L_i (w := wd_C) (g := g) (S := S) (As := [.int (xs (x3 + 1).toNatClampNeg), .int (xs (x3 + 2).toNatClampNeg), .int (xs (x3 + 3).toNatClampNeg)]) (rest := []) (q := v) hx hb hml hown htsG hc.2.2.2.2.1 hc.2.2.2.2.2.2.1 hc.1 hP hP2 (LC_1 hc M) hS hc.2.2.2.2.2.2.2.2.1 hc.2.1.1.2.1 (by rw [hc.2.1.1.1]; rfl) lkL_172 (k_X5_odds l g hc.1 hc.2.1 S (xs (x3 + 1).toNatClampNeg) (xs (x3 + 2).toNatClampNeg) (xs (x3 + 3).toNatClampNeg) v e1) ⟨⟨rfl, rfl⟩, Nat.le_of_ble_eq_true rfl, Nat.le_of_ble_eq_true rfl⟩ rfl hl.1 rfl (Nat.le_of_ble_eq_true rfl) dL_law_1529 hfit (fun H locs hP hP2 hS => ?_)
  refine lv_aload_n hx hb dL_law_1532 rfl (lv_at hl 2 rfl) ?_
  refine lv_aload_n hx hb dL_law_1533 rfl (lv_at hl 0 rfl) ?_
  refine lv_iload_n hx hb dL_law_1534 rfl (lv_at hl 3 rfl) ?_
  refine lv_iconst (v := 1) hx hb dL_law_1535 (by decide) ?_
  refine lv_iadd hx hb dL_law_1536 ?_
  refine va_sld hx hb hX hbl hbA hS h1 dL_law_1537 ?_
  refine lv_aload_n hx hb dL_law_1538 rfl (lv_at hl 0 rfl) ?_
  refine lv_iload_n hx hb dL_law_1539 rfl (lv_at hl 3 rfl) ?_
  refine lv_iconst (v := 2) hx hb dL_law_1540 (by decide) ?_
  refine lv_iadd hx hb dL_law_1541 ?_
  refine va_sld hx hb hX hbl hbA hS h2 dL_law_1542 ?_
  refine lv_aload_n hx hb dL_law_1543 rfl (lv_at hl 0 rfl) ?_
  refine lv_iload_n hx hb dL_law_1544 rfl (lv_at hl 3 rfl) ?_
  refine lv_iconst (v := 3) hx hb dL_law_1545 (by decide) ?_
  refine lv_iadd hx hb dL_law_1546 ?_
  refine va_sld hx hb hX hbl hbA hS h3 dL_law_1547 ?_
  refine r_L_w (w := wd_M) (g := gm) (S := M) (As := [.int (xs (x3 + 1).toNatClampNeg), .int (xs (x3 + 2).toNatClampNeg), .int (xs (x3 + 3).toNatClampNeg)]) (rest := [.int (v)]) (q := (v, M2)) hx hb hml hown htsG hc.2.2.2.2.2.1 trivial hc.2.2.1 hP2 hP (LC_2 hc S) hS hc.2.2.2.2.2.2.2.2.2 hc.2.2.2.1.2.1 (by rw [hc.2.2.2.1.1]; rfl) lkL_175 (k_X6_odds l gm hc.2.2.1 hc.2.2.2.1 M (xs (x3 + 1).toNatClampNeg) (xs (x3 + 2).toNatClampNeg) (xs (x3 + 3).toNatClampNeg) (v, M2) e2) ⟨⟨rfl, rfl⟩, Nat.le_of_ble_eq_true rfl, Nat.le_of_ble_eq_true rfl⟩ rfl hl.1 rfl (Nat.le_of_ble_eq_true rfl) dL_law_1548 hfit (fun H locs hP2 hP hS => ?_)
  refine lv_icmp_eq (tgt := 1750) hx hb dL_law_1551 rfl (fun _ => ?_) (fun hz2 => absurd rfl hz2)
  exact kk _ _ _ _ hw2 ⟨hP, hP2, hS⟩
set_option maxRecDepth 100000 in
set_option maxHeartbeats 4000000 in
theorem lc_38 (C0 : lw_At p s m meth c b L xs) (hc : LC g gm s) (hw : RW S M) (h : LSw g gm s S M H locs) (h1 : vp_in (x3 + 1) L) (h2 : vp_in (x3 + 2) L) (h3 : vp_in (x3 + 3) L) (h4 : vp_in (x3 + 4) L) (h5 : vp_in (x3 + 5) L) (hfit : cells + 0 ≤ room_1.cells ∧ slots + 0 ≤ room_1.slots) (hl : lv_has ls 4 [(0, .ref b), (1, .ref (gg_o g 0)), (2, .ref (gg_o gm 0)), (3, .int x3)]) (kk : ∀ (S2 M2 : St) (H2 : Heap) (locs2 : List Loc), RW S2 M2 → LSw g gm s S2 M2 H2 locs2 → W p l e room_1 s m #[Value.ref b] below meth c H2 locs2 cells slots Q (F0 m 1750 ls [])) : W p l e room_1 s m #[Value.ref b] below meth c H locs cells slots Q (F0 m 1556 ls []) := by
  obtain ⟨hx, hb, hr, hml, hown0, hts, hX, hbl, hlocks, hgv⟩ := C0
  have hown : s.vm.findClass RL = some m.cls := hown0
  have htsG : ∀ z ∈ gw_tbl, z.before #[Value.ref b] s = true := fun z hz => hts z (gw_lw z hz)
  have hbA : ¬ (fun z : Nat => s.heap.size ≤ z) b := Nat.not_le.mpr hbl
  obtain ⟨hP, hP2, hS⟩ := h
  obtain ⟨A, kt, sd, hA, hC, hM⟩ := hw
  by_cases hz : xs (x3 + 4).toNatClampNeg = 0
  · obtain ⟨v, S2, M2, e1, e2, hw2⟩ := Q_tell hA hC hM (xs (x3 + 1).toNatClampNeg) (xs (x3 + 2).toNatClampNeg) (xs (x3 + 3).toNatClampNeg) false
    refine lv_aload_n hx hb dL_law_1556 rfl (lv_at hl 1 rfl) ?_
    refine lv_aload_n hx hb dL_law_1557 rfl (lv_at hl 0 rfl) ?_
    refine lv_iload_n hx hb dL_law_1558 rfl (lv_at hl 3 rfl) ?_
    refine lv_iconst (v := 1) hx hb dL_law_1559 (by decide) ?_
    refine lv_iadd hx hb dL_law_1560 ?_
    refine va_sld hx hb hX hbl hbA hS h1 dL_law_1561 ?_
    refine lv_aload_n hx hb dL_law_1562 rfl (lv_at hl 0 rfl) ?_
    refine lv_iload_n hx hb dL_law_1563 rfl (lv_at hl 3 rfl) ?_
    refine lv_iconst (v := 2) hx hb dL_law_1564 (by decide) ?_
    refine lv_iadd hx hb dL_law_1565 ?_
    refine va_sld hx hb hX hbl hbA hS h2 dL_law_1566 ?_
    refine lv_aload_n hx hb dL_law_1567 rfl (lv_at hl 0 rfl) ?_
    refine lv_iload_n hx hb dL_law_1568 rfl (lv_at hl 3 rfl) ?_
    refine lv_iconst (v := 3) hx hb dL_law_1569 (by decide) ?_
    refine lv_iadd hx hb dL_law_1570 ?_
    refine va_sld hx hb hX hbl hbA hS h3 dL_law_1571 ?_
    refine lv_aload_n hx hb dL_law_1572 rfl (lv_at hl 0 rfl) ?_
    refine lv_iload_n hx hb dL_law_1573 rfl (lv_at hl 3 rfl) ?_
    refine lv_iconst (v := 4) hx hb dL_law_1574 (by decide) ?_
    refine lv_iadd hx hb dL_law_1575 ?_
    refine va_sld hx hb hX hbl hbA hS h4 dL_law_1576 ?_
    refine lv_if_eq (tgt := 1584) hx hb dL_law_1577 rfl (fun _ => ?_) (fun hz2 => absurd hz hz2)
    refine lv_iconst (v := 0) hx hb dL_law_1584 (by decide) ?_
    refine r_L_w (w := wd_C) (g := g) (S := S) (As := [.int (xs (x3 + 1).toNatClampNeg), .int (xs (x3 + 2).toNatClampNeg), .int (xs (x3 + 3).toNatClampNeg), .int 0]) (rest := []) (q := (v, S2)) hx hb hml hown htsG hc.2.2.2.2.1 hc.2.2.2.2.2.2.1 hc.1 hP hP2 (LC_1 hc M) hS hc.2.2.2.2.2.2.2.2.1 hc.2.1.1.2.1 (by rw [hc.2.1.1.1]; rfl) lkL_176 (k_X5_tell l g hc.1 hc.2.1 S (xs (x3 + 1).toNatClampNeg) (xs (x3 + 2).toNatClampNeg) (xs (x3 + 3).toNatClampNeg) (0 : Int32) (v, S2) e1) ⟨⟨rfl, rfl⟩, Nat.le_of_ble_eq_true rfl, Nat.le_of_ble_eq_true rfl⟩ rfl hl.1 rfl (Nat.le_of_ble_eq_true rfl) dL_law_1585 hfit (fun H locs hP hP2 hS => ?_)
    refine lv_aload_n hx hb dL_law_1588 rfl (lv_at hl 2 rfl) ?_
    refine lv_aload_n hx hb dL_law_1589 rfl (lv_at hl 0 rfl) ?_
    refine lv_iload_n hx hb dL_law_1590 rfl (lv_at hl 3 rfl) ?_
    refine lv_iconst (v := 1) hx hb dL_law_1591 (by decide) ?_
    refine lv_iadd hx hb dL_law_1592 ?_
    refine va_sld hx hb hX hbl hbA hS h1 dL_law_1593 ?_
    refine lv_aload_n hx hb dL_law_1594 rfl (lv_at hl 0 rfl) ?_
    refine lv_iload_n hx hb dL_law_1595 rfl (lv_at hl 3 rfl) ?_
    refine lv_iconst (v := 2) hx hb dL_law_1596 (by decide) ?_
    refine lv_iadd hx hb dL_law_1597 ?_
    refine va_sld hx hb hX hbl hbA hS h2 dL_law_1598 ?_
    refine lv_aload_n hx hb dL_law_1599 rfl (lv_at hl 0 rfl) ?_
    refine lv_iload_n hx hb dL_law_1600 rfl (lv_at hl 3 rfl) ?_
    refine lv_iconst (v := 3) hx hb dL_law_1601 (by decide) ?_
    refine lv_iadd hx hb dL_law_1602 ?_
    refine va_sld hx hb hX hbl hbA hS h3 dL_law_1603 ?_
    refine lv_aload_n hx hb dL_law_1604 rfl (lv_at hl 0 rfl) ?_
    refine lv_iload_n hx hb dL_law_1605 rfl (lv_at hl 3 rfl) ?_
    refine lv_iconst (v := 4) hx hb dL_law_1606 (by decide) ?_
    refine lv_iadd hx hb dL_law_1607 ?_
    refine va_sld hx hb hX hbl hbA hS h4 dL_law_1608 ?_
    refine lv_if_eq (tgt := 1616) hx hb dL_law_1609 rfl (fun _ => ?_) (fun hz2 => absurd hz hz2)
    refine lv_iconst (v := 0) hx hb dL_law_1616 (by decide) ?_
    refine r_L_w (w := wd_M) (g := gm) (S := M) (As := [.int (xs (x3 + 1).toNatClampNeg), .int (xs (x3 + 2).toNatClampNeg), .int (xs (x3 + 3).toNatClampNeg), .int 0]) (rest := [.int (v)]) (q := (v, M2)) hx hb hml hown htsG hc.2.2.2.2.2.1 trivial hc.2.2.1 hP2 hP (LC_2 hc S2) hS hc.2.2.2.2.2.2.2.2.2 hc.2.2.2.1.2.1 (by rw [hc.2.2.2.1.1]; rfl) lkL_180 (k_X6_tell l gm hc.2.2.1 hc.2.2.2.1 M (xs (x3 + 1).toNatClampNeg) (xs (x3 + 2).toNatClampNeg) (xs (x3 + 3).toNatClampNeg) (0 : Int32) (v, M2) e2) ⟨⟨rfl, rfl⟩, Nat.le_of_ble_eq_true rfl, Nat.le_of_ble_eq_true rfl⟩ rfl hl.1 rfl (Nat.le_of_ble_eq_true rfl) dL_law_1617 hfit (fun H locs hP2 hP hS => ?_)
    refine lv_icmp_eq (tgt := 1750) hx hb dL_law_1620 rfl (fun _ => ?_) (fun hz2 => absurd rfl hz2)
    exact kk _ _ _ _ hw2 ⟨hP, hP2, hS⟩
  · obtain ⟨v, S2, M2, e1, e2, hw2⟩ := Q_tell hA hC hM (xs (x3 + 1).toNatClampNeg) (xs (x3 + 2).toNatClampNeg) (xs (x3 + 3).toNatClampNeg) true
    refine lv_aload_n hx hb dL_law_1556 rfl (lv_at hl 1 rfl) ?_
    refine lv_aload_n hx hb dL_law_1557 rfl (lv_at hl 0 rfl) ?_
    refine lv_iload_n hx hb dL_law_1558 rfl (lv_at hl 3 rfl) ?_
    refine lv_iconst (v := 1) hx hb dL_law_1559 (by decide) ?_
    refine lv_iadd hx hb dL_law_1560 ?_
    refine va_sld hx hb hX hbl hbA hS h1 dL_law_1561 ?_
    refine lv_aload_n hx hb dL_law_1562 rfl (lv_at hl 0 rfl) ?_
    refine lv_iload_n hx hb dL_law_1563 rfl (lv_at hl 3 rfl) ?_
    refine lv_iconst (v := 2) hx hb dL_law_1564 (by decide) ?_
    refine lv_iadd hx hb dL_law_1565 ?_
    refine va_sld hx hb hX hbl hbA hS h2 dL_law_1566 ?_
    refine lv_aload_n hx hb dL_law_1567 rfl (lv_at hl 0 rfl) ?_
    refine lv_iload_n hx hb dL_law_1568 rfl (lv_at hl 3 rfl) ?_
    refine lv_iconst (v := 3) hx hb dL_law_1569 (by decide) ?_
    refine lv_iadd hx hb dL_law_1570 ?_
    refine va_sld hx hb hX hbl hbA hS h3 dL_law_1571 ?_
    refine lv_aload_n hx hb dL_law_1572 rfl (lv_at hl 0 rfl) ?_
    refine lv_iload_n hx hb dL_law_1573 rfl (lv_at hl 3 rfl) ?_
    refine lv_iconst (v := 4) hx hb dL_law_1574 (by decide) ?_
    refine lv_iadd hx hb dL_law_1575 ?_
    refine va_sld hx hb hX hbl hbA hS h4 dL_law_1576 ?_
    refine lv_if_eq (tgt := 1584) hx hb dL_law_1577 rfl (fun hz2 => absurd hz2 hz) (fun _ => ?_)
    refine lv_iconst (v := 1) hx hb dL_law_1580 (by decide) ?_
    refine lv_goto (tgt := 1585) hx hb dL_law_1581 rfl ?_
    refine r_L_w (w := wd_C) (g := g) (S := S) (As := [.int (xs (x3 + 1).toNatClampNeg), .int (xs (x3 + 2).toNatClampNeg), .int (xs (x3 + 3).toNatClampNeg), .int 1]) (rest := []) (q := (v, S2)) hx hb hml hown htsG hc.2.2.2.2.1 hc.2.2.2.2.2.2.1 hc.1 hP hP2 (LC_1 hc M) hS hc.2.2.2.2.2.2.2.2.1 hc.2.1.1.2.1 (by rw [hc.2.1.1.1]; rfl) lkL_176 (k_X5_tell l g hc.1 hc.2.1 S (xs (x3 + 1).toNatClampNeg) (xs (x3 + 2).toNatClampNeg) (xs (x3 + 3).toNatClampNeg) (1 : Int32) (v, S2) e1) ⟨⟨rfl, rfl⟩, Nat.le_of_ble_eq_true rfl, Nat.le_of_ble_eq_true rfl⟩ rfl hl.1 rfl (Nat.le_of_ble_eq_true rfl) dL_law_1585 hfit (fun H locs hP hP2 hS => ?_)
    refine lv_aload_n hx hb dL_law_1588 rfl (lv_at hl 2 rfl) ?_
    refine lv_aload_n hx hb dL_law_1589 rfl (lv_at hl 0 rfl) ?_
    refine lv_iload_n hx hb dL_law_1590 rfl (lv_at hl 3 rfl) ?_
    refine lv_iconst (v := 1) hx hb dL_law_1591 (by decide) ?_
    refine lv_iadd hx hb dL_law_1592 ?_
    refine va_sld hx hb hX hbl hbA hS h1 dL_law_1593 ?_
    refine lv_aload_n hx hb dL_law_1594 rfl (lv_at hl 0 rfl) ?_
    refine lv_iload_n hx hb dL_law_1595 rfl (lv_at hl 3 rfl) ?_
    refine lv_iconst (v := 2) hx hb dL_law_1596 (by decide) ?_
    refine lv_iadd hx hb dL_law_1597 ?_
    refine va_sld hx hb hX hbl hbA hS h2 dL_law_1598 ?_
    refine lv_aload_n hx hb dL_law_1599 rfl (lv_at hl 0 rfl) ?_
    refine lv_iload_n hx hb dL_law_1600 rfl (lv_at hl 3 rfl) ?_
    refine lv_iconst (v := 3) hx hb dL_law_1601 (by decide) ?_
    refine lv_iadd hx hb dL_law_1602 ?_
    refine va_sld hx hb hX hbl hbA hS h3 dL_law_1603 ?_
    refine lv_aload_n hx hb dL_law_1604 rfl (lv_at hl 0 rfl) ?_
    refine lv_iload_n hx hb dL_law_1605 rfl (lv_at hl 3 rfl) ?_
    refine lv_iconst (v := 4) hx hb dL_law_1606 (by decide) ?_
    refine lv_iadd hx hb dL_law_1607 ?_
    refine va_sld hx hb hX hbl hbA hS h4 dL_law_1608 ?_
    refine lv_if_eq (tgt := 1616) hx hb dL_law_1609 rfl (fun hz2 => absurd hz2 hz) (fun _ => ?_)
    refine lv_iconst (v := 1) hx hb dL_law_1612 (by decide) ?_
    refine lv_goto (tgt := 1617) hx hb dL_law_1613 rfl ?_
    refine r_L_w (w := wd_M) (g := gm) (S := M) (As := [.int (xs (x3 + 1).toNatClampNeg), .int (xs (x3 + 2).toNatClampNeg), .int (xs (x3 + 3).toNatClampNeg), .int 1]) (rest := [.int (v)]) (q := (v, M2)) hx hb hml hown htsG hc.2.2.2.2.2.1 trivial hc.2.2.1 hP2 hP (LC_2 hc S2) hS hc.2.2.2.2.2.2.2.2.2 hc.2.2.2.1.2.1 (by rw [hc.2.2.2.1.1]; rfl) lkL_180 (k_X6_tell l gm hc.2.2.1 hc.2.2.2.1 M (xs (x3 + 1).toNatClampNeg) (xs (x3 + 2).toNatClampNeg) (xs (x3 + 3).toNatClampNeg) (1 : Int32) (v, M2) e2) ⟨⟨rfl, rfl⟩, Nat.le_of_ble_eq_true rfl, Nat.le_of_ble_eq_true rfl⟩ rfl hl.1 rfl (Nat.le_of_ble_eq_true rfl) dL_law_1617 hfit (fun H locs hP2 hP hS => ?_)
    refine lv_icmp_eq (tgt := 1750) hx hb dL_law_1620 rfl (fun _ => ?_) (fun hz2 => absurd rfl hz2)
    exact kk _ _ _ _ hw2 ⟨hP, hP2, hS⟩
set_option maxRecDepth 100000 in
set_option maxHeartbeats 4000000 in
theorem lc_39 (C0 : lw_At p s m meth c b L xs) (hc : LC g gm s) (hw : RW S M) (h : LSw g gm s S M H locs) (h1 : vp_in (x3 + 1) L) (h2 : vp_in (x3 + 2) L) (h3 : vp_in (x3 + 3) L) (h4 : vp_in (x3 + 4) L) (h5 : vp_in (x3 + 5) L) (hfit : cells + 0 ≤ room_1.cells ∧ slots + 0 ≤ room_1.slots) (hl : lv_has ls 4 [(0, .ref b), (1, .ref (gg_o g 0)), (2, .ref (gg_o gm 0)), (3, .int x3)]) (kk : ∀ (S2 M2 : St) (H2 : Heap) (locs2 : List Loc), RW S2 M2 → LSw g gm s S2 M2 H2 locs2 → W p l e room_1 s m #[Value.ref b] below meth c H2 locs2 cells slots Q (F0 m 1750 ls [])) : W p l e room_1 s m #[Value.ref b] below meth c H locs cells slots Q (F0 m 1625 ls []) := by
  obtain ⟨hx, hb, hr, hml, hown0, hts, hX, hbl, hlocks, hgv⟩ := C0
  have hown : s.vm.findClass RL = some m.cls := hown0
  have htsG : ∀ z ∈ gw_tbl, z.before #[Value.ref b] s = true := fun z hz => hts z (gw_lw z hz)
  have hbA : ¬ (fun z : Nat => s.heap.size ≤ z) b := Nat.not_le.mpr hbl
  obtain ⟨hP, hP2, hS⟩ := h
  obtain ⟨A, kt, sd, hA, hC, hM⟩ := hw
  obtain ⟨v, S2, M2, e1, e2, hw2⟩ := Q_forget hA hC hM 
  refine lv_aload_n hx hb dL_law_1625 rfl (lv_at hl 1 rfl) ?_
  refine r_L_w (w := wd_C) (g := g) (S := S) (As := []) (rest := []) (q := (v, S2)) hx hb hml hown htsG hc.2.2.2.2.1 hc.2.2.2.2.2.2.1 hc.1 hP hP2 (LC_1 hc M) hS hc.2.2.2.2.2.2.2.2.1 hc.2.1.1.2.1 (by rw [hc.2.1.1.1]; rfl) lkL_181 (k_X5_forget l g hc.1 hc.2.1 S  (v, S2) e1) ⟨⟨rfl, rfl⟩, Nat.le_of_ble_eq_true rfl, Nat.le_of_ble_eq_true rfl⟩ rfl hl.1 rfl (Nat.le_of_ble_eq_true rfl) dL_law_1626 hfit (fun H locs hP hP2 hS => ?_)
  refine lv_aload_n hx hb dL_law_1629 rfl (lv_at hl 2 rfl) ?_
  refine r_L_w (w := wd_M) (g := gm) (S := M) (As := []) (rest := [.int (v)]) (q := (v, M2)) hx hb hml hown htsG hc.2.2.2.2.2.1 trivial hc.2.2.1 hP2 hP (LC_2 hc S2) hS hc.2.2.2.2.2.2.2.2.2 hc.2.2.2.1.2.1 (by rw [hc.2.2.2.1.1]; rfl) lkL_184 (k_X6_forget l gm hc.2.2.1 hc.2.2.2.1 M  (v, M2) e2) ⟨⟨rfl, rfl⟩, Nat.le_of_ble_eq_true rfl, Nat.le_of_ble_eq_true rfl⟩ rfl hl.1 rfl (Nat.le_of_ble_eq_true rfl) dL_law_1630 hfit (fun H locs hP2 hP hS => ?_)
  refine lv_icmp_eq (tgt := 1750) hx hb dL_law_1633 rfl (fun _ => ?_) (fun hz2 => absurd rfl hz2)
  exact kk _ _ _ _ hw2 ⟨hP, hP2, hS⟩
end LK
