section LK
variable {p : Program} {l : Launch} {e : Env} {s : State} {m : MethodId} {below : List Frame} {meth : Method} {c : Code} {b L : Nat} {xs : Nat → Int32} {g gm : GG} {S M : St} {H : Heap} {locs : List Loc} {cells slots : Nat} {Q : State → Prop} {ls : Array Slot} {x3 : Int32}
set_option maxRecDepth 100000 in
set_option maxHeartbeats 4000000 in
theorem lc_8 (C0 : lw_At p s m meth c b L xs) (hc : LC g gm s) (hw : RW S M) (h : LSw g gm s S M H locs) (h1 : vp_in (x3 + 1) L) (h2 : vp_in (x3 + 2) L) (h3 : vp_in (x3 + 3) L) (h4 : vp_in (x3 + 4) L) (h5 : vp_in (x3 + 5) L) (hfit : cells + 0 ≤ room_1.cells ∧ slots + 0 ≤ room_1.slots) (hl : lv_has ls 4 [(0, .ref b), (1, .ref (gg_o g 0)), (2, .ref (gg_o gm 0)), (3, .int x3)]) (kk : ∀ (S2 M2 : St) (H2 : Heap) (locs2 : List Loc), RW S2 M2 → LSw g gm s S2 M2 H2 locs2 → W p l e room_1 s m #[Value.ref b] below meth c H2 locs2 cells slots Q (F0 m 1750 ls [])) : W p l e room_1 s m #[Value.ref b] below meth c H locs cells slots Q (F0 m 478 ls []) := by
  obtain ⟨hx, hb, hr, hml, hown0, hts, hX, hbl, hlocks, hgv⟩ := C0
  have hown : s.vm.findClass RL = some m.cls := hown0
  have htsG : ∀ z ∈ gw_tbl, z.before #[Value.ref b] s = true := fun z hz => hts z (gw_lw z hz)
  have hbA : ¬ (fun z : Nat => s.heap.size ≤ z) b := Nat.not_le.mpr hbl
  obtain ⟨hP, hP2, hS⟩ := h
  obtain ⟨A, kt, sd, hA, hC, hM⟩ := hw
  obtain ⟨v, S2, M2, e1, e2, hw2⟩ := Q_raise hA hC hM (xs (x3 + 1).toNatClampNeg) (xs (x3 + 2).toNatClampNeg)
  refine lv_aload_n hx hb dL_law_478 rfl (lv_at hl 1 rfl) ?_
  refine lv_aload_n hx hb dL_law_479 rfl (lv_at hl 0 rfl) ?_
  refine lv_iload_n hx hb dL_law_480 rfl (lv_at hl 3 rfl) ?_
  refine lv_iconst (v := 1) hx hb dL_law_481 (by decide) ?_
  refine lv_iadd hx hb dL_law_482 ?_
  refine va_sld hx hb hX hbl hbA hS h1 dL_law_483 ?_
  refine lv_aload_n hx hb dL_law_484 rfl (lv_at hl 0 rfl) ?_
  refine lv_iload_n hx hb dL_law_485 rfl (lv_at hl 3 rfl) ?_
  refine lv_iconst (v := 2) hx hb dL_law_486 (by decide) ?_
  refine lv_iadd hx hb dL_law_487 ?_
  refine va_sld hx hb hX hbl hbA hS h2 dL_law_488 ?_
  refine r_L_w (w := wd_C) (g := g) (S := S) (As := [.int (xs (x3 + 1).toNatClampNeg), .int (xs (x3 + 2).toNatClampNeg)]) (rest := []) (q := (v, S2)) hx hb hml hown htsG hc.2.2.2.2.1 hc.2.2.2.2.2.2.1 hc.1 hP hP2 (LC_1 hc M) hS hc.2.2.2.2.2.2.2.2.1 hc.2.1.1.2.1 (by rw [hc.2.1.1.1]; rfl) lkL_50 (k_X5_raise l g hc.1 hc.2.1 S (xs (x3 + 1).toNatClampNeg) (xs (x3 + 2).toNatClampNeg) (v, S2) e1) ⟨⟨rfl, rfl⟩, Nat.le_of_ble_eq_true rfl, Nat.le_of_ble_eq_true rfl⟩ rfl hl.1 rfl (Nat.le_of_ble_eq_true rfl) dL_law_489 hfit (fun H locs hP hP2 hS => ?_)
  refine lv_aload_n hx hb dL_law_492 rfl (lv_at hl 2 rfl) ?_
  refine lv_aload_n hx hb dL_law_493 rfl (lv_at hl 0 rfl) ?_
  refine lv_iload_n hx hb dL_law_494 rfl (lv_at hl 3 rfl) ?_
  refine lv_iconst (v := 1) hx hb dL_law_495 (by decide) ?_
  refine lv_iadd hx hb dL_law_496 ?_
  refine va_sld hx hb hX hbl hbA hS h1 dL_law_497 ?_
  refine lv_aload_n hx hb dL_law_498 rfl (lv_at hl 0 rfl) ?_
  refine lv_iload_n hx hb dL_law_499 rfl (lv_at hl 3 rfl) ?_
  refine lv_iconst (v := 2) hx hb dL_law_500 (by decide) ?_
  refine lv_iadd hx hb dL_law_501 ?_
  refine va_sld hx hb hX hbl hbA hS h2 dL_law_502 ?_
  refine r_L_w (w := wd_M) (g := gm) (S := M) (As := [.int (xs (x3 + 1).toNatClampNeg), .int (xs (x3 + 2).toNatClampNeg)]) (rest := [.int (v)]) (q := (v, M2)) hx hb hml hown htsG hc.2.2.2.2.2.1 trivial hc.2.2.1 hP2 hP (LC_2 hc S2) hS hc.2.2.2.2.2.2.2.2.2 hc.2.2.2.1.2.1 (by rw [hc.2.2.2.1.1]; rfl) lkL_53 (k_X6_raise l gm hc.2.2.1 hc.2.2.2.1 M (xs (x3 + 1).toNatClampNeg) (xs (x3 + 2).toNatClampNeg) (v, M2) e2) ⟨⟨rfl, rfl⟩, Nat.le_of_ble_eq_true rfl, Nat.le_of_ble_eq_true rfl⟩ rfl hl.1 rfl (Nat.le_of_ble_eq_true rfl) dL_law_503 hfit (fun H locs hP2 hP hS => ?_)
  refine lv_icmp_eq (tgt := 1750) hx hb dL_law_506 rfl (fun _ => ?_) (fun hz2 => absurd rfl hz2)
  exact kk _ _ _ _ hw2 ⟨hP, hP2, hS⟩
set_option maxRecDepth 100000 in
set_option maxHeartbeats 4000000 in
theorem lc_9 (C0 : lw_At p s m meth c b L xs) (hc : LC g gm s) (hw : RW S M) (h : LSw g gm s S M H locs) (h1 : vp_in (x3 + 1) L) (h2 : vp_in (x3 + 2) L) (h3 : vp_in (x3 + 3) L) (h4 : vp_in (x3 + 4) L) (h5 : vp_in (x3 + 5) L) (hfit : cells + 0 ≤ room_1.cells ∧ slots + 0 ≤ room_1.slots) (hl : lv_has ls 4 [(0, .ref b), (1, .ref (gg_o g 0)), (2, .ref (gg_o gm 0)), (3, .int x3)]) (kk : ∀ (S2 M2 : St) (H2 : Heap) (locs2 : List Loc), RW S2 M2 → LSw g gm s S2 M2 H2 locs2 → W p l e room_1 s m #[Value.ref b] below meth c H2 locs2 cells slots Q (F0 m 1750 ls [])) : W p l e room_1 s m #[Value.ref b] below meth c H locs cells slots Q (F0 m 511 ls []) := by
  obtain ⟨hx, hb, hr, hml, hown0, hts, hX, hbl, hlocks, hgv⟩ := C0
  have hown : s.vm.findClass RL = some m.cls := hown0
  have htsG : ∀ z ∈ gw_tbl, z.before #[Value.ref b] s = true := fun z hz => hts z (gw_lw z hz)
  have hbA : ¬ (fun z : Nat => s.heap.size ≤ z) b := Nat.not_le.mpr hbl
  obtain ⟨hP, hP2, hS⟩ := h
  obtain ⟨A, kt, sd, hA, hC, hM⟩ := hw
  obtain ⟨v, S2, M2, e1, e2, hw2⟩ := Q_carry hA hC hM (xs (x3 + 1).toNatClampNeg) (xs (x3 + 2).toNatClampNeg)
  refine lv_aload_n hx hb dL_law_511 rfl (lv_at hl 1 rfl) ?_
  refine lv_aload_n hx hb dL_law_512 rfl (lv_at hl 0 rfl) ?_
  refine lv_iload_n hx hb dL_law_513 rfl (lv_at hl 3 rfl) ?_
  refine lv_iconst (v := 1) hx hb dL_law_514 (by decide) ?_
  refine lv_iadd hx hb dL_law_515 ?_
  refine va_sld hx hb hX hbl hbA hS h1 dL_law_516 ?_
  refine lv_aload_n hx hb dL_law_517 rfl (lv_at hl 0 rfl) ?_
  refine lv_iload_n hx hb dL_law_518 rfl (lv_at hl 3 rfl) ?_
  refine lv_iconst (v := 2) hx hb dL_law_519 (by decide) ?_
  refine lv_iadd hx hb dL_law_520 ?_
  refine va_sld hx hb hX hbl hbA hS h2 dL_law_521 ?_
  refine r_L_w (w := wd_C) (g := g) (S := S) (As := [.int (xs (x3 + 1).toNatClampNeg), .int (xs (x3 + 2).toNatClampNeg)]) (rest := []) (q := (v, S2)) hx hb hml hown htsG hc.2.2.2.2.1 hc.2.2.2.2.2.2.1 hc.1 hP hP2 (LC_1 hc M) hS hc.2.2.2.2.2.2.2.2.1 hc.2.1.1.2.1 (by rw [hc.2.1.1.1]; rfl) lkL_54 (k_X5_carry l g hc.1 hc.2.1 S (xs (x3 + 1).toNatClampNeg) (xs (x3 + 2).toNatClampNeg) (v, S2) e1) ⟨⟨rfl, rfl⟩, Nat.le_of_ble_eq_true rfl, Nat.le_of_ble_eq_true rfl⟩ rfl hl.1 rfl (Nat.le_of_ble_eq_true rfl) dL_law_522 hfit (fun H locs hP hP2 hS => ?_)
  refine lv_aload_n hx hb dL_law_525 rfl (lv_at hl 2 rfl) ?_
  refine lv_aload_n hx hb dL_law_526 rfl (lv_at hl 0 rfl) ?_
  refine lv_iload_n hx hb dL_law_527 rfl (lv_at hl 3 rfl) ?_
  refine lv_iconst (v := 1) hx hb dL_law_528 (by decide) ?_
  refine lv_iadd hx hb dL_law_529 ?_
  refine va_sld hx hb hX hbl hbA hS h1 dL_law_530 ?_
  refine lv_aload_n hx hb dL_law_531 rfl (lv_at hl 0 rfl) ?_
  refine lv_iload_n hx hb dL_law_532 rfl (lv_at hl 3 rfl) ?_
  refine lv_iconst (v := 2) hx hb dL_law_533 (by decide) ?_
  refine lv_iadd hx hb dL_law_534 ?_
  refine va_sld hx hb hX hbl hbA hS h2 dL_law_535 ?_
  refine r_L_w (w := wd_M) (g := gm) (S := M) (As := [.int (xs (x3 + 1).toNatClampNeg), .int (xs (x3 + 2).toNatClampNeg)]) (rest := [.int (v)]) (q := (v, M2)) hx hb hml hown htsG hc.2.2.2.2.2.1 trivial hc.2.2.1 hP2 hP (LC_2 hc S2) hS hc.2.2.2.2.2.2.2.2.2 hc.2.2.2.1.2.1 (by rw [hc.2.2.2.1.1]; rfl) lkL_57 (k_X6_carry l gm hc.2.2.1 hc.2.2.2.1 M (xs (x3 + 1).toNatClampNeg) (xs (x3 + 2).toNatClampNeg) (v, M2) e2) ⟨⟨rfl, rfl⟩, Nat.le_of_ble_eq_true rfl, Nat.le_of_ble_eq_true rfl⟩ rfl hl.1 rfl (Nat.le_of_ble_eq_true rfl) dL_law_536 hfit (fun H locs hP2 hP hS => ?_)
  refine lv_icmp_eq (tgt := 1750) hx hb dL_law_539 rfl (fun _ => ?_) (fun hz2 => absurd rfl hz2)
  exact kk _ _ _ _ hw2 ⟨hP, hP2, hS⟩
set_option maxRecDepth 100000 in
set_option maxHeartbeats 4000000 in
theorem lc_10 (C0 : lw_At p s m meth c b L xs) (hc : LC g gm s) (hw : RW S M) (h : LSw g gm s S M H locs) (h1 : vp_in (x3 + 1) L) (h2 : vp_in (x3 + 2) L) (h3 : vp_in (x3 + 3) L) (h4 : vp_in (x3 + 4) L) (h5 : vp_in (x3 + 5) L) (hfit : cells + 0 ≤ room_1.cells ∧ slots + 0 ≤ room_1.slots) (hl : lv_has ls 4 [(0, .ref b), (1, .ref (gg_o g 0)), (2, .ref (gg_o gm 0)), (3, .int x3)]) (kk : ∀ (S2 M2 : St) (H2 : Heap) (locs2 : List Loc), RW S2 M2 → LSw g gm s S2 M2 H2 locs2 → W p l e room_1 s m #[Value.ref b] below meth c H2 locs2 cells slots Q (F0 m 1750 ls [])) : W p l e room_1 s m #[Value.ref b] below meth c H locs cells slots Q (F0 m 544 ls []) := by
  obtain ⟨hx, hb, hr, hml, hown0, hts, hX, hbl, hlocks, hgv⟩ := C0
  have hown : s.vm.findClass RL = some m.cls := hown0
  have htsG : ∀ z ∈ gw_tbl, z.before #[Value.ref b] s = true := fun z hz => hts z (gw_lw z hz)
  have hbA : ¬ (fun z : Nat => s.heap.size ≤ z) b := Nat.not_le.mpr hbl
  obtain ⟨hP, hP2, hS⟩ := h
  obtain ⟨A, kt, sd, hA, hC, hM⟩ := hw
  by_cases hz : xs (x3 + 2).toNatClampNeg = 0
  · obtain ⟨v, S2, M2, e1, e2, hw2⟩ := Q_turn hA hC hM (xs (x3 + 1).toNatClampNeg) false
    refine lv_aload_n hx hb dL_law_544 rfl (lv_at hl 1 rfl) ?_
    refine lv_aload_n hx hb dL_law_545 rfl (lv_at hl 0 rfl) ?_
    refine lv_iload_n hx hb dL_law_546 rfl (lv_at hl 3 rfl) ?_
    refine lv_iconst (v := 1) hx hb dL_law_547 (by decide) ?_
    refine lv_iadd hx hb dL_law_548 ?_
    refine va_sld hx hb hX hbl hbA hS h1 dL_law_549 ?_
    refine lv_aload_n hx hb dL_law_550 rfl (lv_at hl 0 rfl) ?_
    refine lv_iload_n hx hb dL_law_551 rfl (lv_at hl 3 rfl) ?_
    refine lv_iconst (v := 2) hx hb dL_law_552 (by decide) ?_
    refine lv_iadd hx hb dL_law_553 ?_
    refine va_sld hx hb hX hbl hbA hS h2 dL_law_554 ?_
    refine lv_if_eq (tgt := 562) hx hb dL_law_555 rfl (fun _ => ?_) (fun hz2 => absurd hz hz2)
    refine lv_iconst (v := 0) hx hb dL_law_562 (by decide) ?_
    refine r_L_w (w := wd_C) (g := g) (S := S) (As := [.int (xs (x3 + 1).toNatClampNeg), .int 0]) (rest := []) (q := (v, S2)) hx hb hml hown htsG hc.2.2.2.2.1 hc.2.2.2.2.2.2.1 hc.1 hP hP2 (LC_1 hc M) hS hc.2.2.2.2.2.2.2.2.1 hc.2.1.1.2.1 (by rw [hc.2.1.1.1]; rfl) lkL_58 (k_X5_turn l g hc.1 hc.2.1 S (xs (x3 + 1).toNatClampNeg) (0 : Int32) (v, S2) e1) ⟨⟨rfl, rfl⟩, Nat.le_of_ble_eq_true rfl, Nat.le_of_ble_eq_true rfl⟩ rfl hl.1 rfl (Nat.le_of_ble_eq_true rfl) dL_law_563 hfit (fun H locs hP hP2 hS => ?_)
    refine lv_aload_n hx hb dL_law_566 rfl (lv_at hl 2 rfl) ?_
    refine lv_aload_n hx hb dL_law_567 rfl (lv_at hl 0 rfl) ?_
    refine lv_iload_n hx hb dL_law_568 rfl (lv_at hl 3 rfl) ?_
    refine lv_iconst (v := 1) hx hb dL_law_569 (by decide) ?_
    refine lv_iadd hx hb dL_law_570 ?_
    refine va_sld hx hb hX hbl hbA hS h1 dL_law_571 ?_
    refine lv_aload_n hx hb dL_law_572 rfl (lv_at hl 0 rfl) ?_
    refine lv_iload_n hx hb dL_law_573 rfl (lv_at hl 3 rfl) ?_
    refine lv_iconst (v := 2) hx hb dL_law_574 (by decide) ?_
    refine lv_iadd hx hb dL_law_575 ?_
    refine va_sld hx hb hX hbl hbA hS h2 dL_law_576 ?_
    refine lv_if_eq (tgt := 584) hx hb dL_law_577 rfl (fun _ => ?_) (fun hz2 => absurd hz hz2)
    refine lv_iconst (v := 0) hx hb dL_law_584 (by decide) ?_
    refine r_L_w (w := wd_M) (g := gm) (S := M) (As := [.int (xs (x3 + 1).toNatClampNeg), .int 0]) (rest := [.int (v)]) (q := (v, M2)) hx hb hml hown htsG hc.2.2.2.2.2.1 trivial hc.2.2.1 hP2 hP (LC_2 hc S2) hS hc.2.2.2.2.2.2.2.2.2 hc.2.2.2.1.2.1 (by rw [hc.2.2.2.1.1]; rfl) lkL_62 (k_X6_turn l gm hc.2.2.1 hc.2.2.2.1 M (xs (x3 + 1).toNatClampNeg) (0 : Int32) (v, M2) e2) ⟨⟨rfl, rfl⟩, Nat.le_of_ble_eq_true rfl, Nat.le_of_ble_eq_true rfl⟩ rfl hl.1 rfl (Nat.le_of_ble_eq_true rfl) dL_law_585 hfit (fun H locs hP2 hP hS => ?_)
    refine lv_icmp_eq (tgt := 1750) hx hb dL_law_588 rfl (fun _ => ?_) (fun hz2 => absurd rfl hz2)
    exact kk _ _ _ _ hw2 ⟨hP, hP2, hS⟩
  · obtain ⟨v, S2, M2, e1, e2, hw2⟩ := Q_turn hA hC hM (xs (x3 + 1).toNatClampNeg) true
    refine lv_aload_n hx hb dL_law_544 rfl (lv_at hl 1 rfl) ?_
    refine lv_aload_n hx hb dL_law_545 rfl (lv_at hl 0 rfl) ?_
    refine lv_iload_n hx hb dL_law_546 rfl (lv_at hl 3 rfl) ?_
    refine lv_iconst (v := 1) hx hb dL_law_547 (by decide) ?_
    refine lv_iadd hx hb dL_law_548 ?_
    refine va_sld hx hb hX hbl hbA hS h1 dL_law_549 ?_
    refine lv_aload_n hx hb dL_law_550 rfl (lv_at hl 0 rfl) ?_
    refine lv_iload_n hx hb dL_law_551 rfl (lv_at hl 3 rfl) ?_
    refine lv_iconst (v := 2) hx hb dL_law_552 (by decide) ?_
    refine lv_iadd hx hb dL_law_553 ?_
    refine va_sld hx hb hX hbl hbA hS h2 dL_law_554 ?_
    refine lv_if_eq (tgt := 562) hx hb dL_law_555 rfl (fun hz2 => absurd hz2 hz) (fun _ => ?_)
    refine lv_iconst (v := 1) hx hb dL_law_558 (by decide) ?_
    refine lv_goto (tgt := 563) hx hb dL_law_559 rfl ?_
    refine r_L_w (w := wd_C) (g := g) (S := S) (As := [.int (xs (x3 + 1).toNatClampNeg), .int 1]) (rest := []) (q := (v, S2)) hx hb hml hown htsG hc.2.2.2.2.1 hc.2.2.2.2.2.2.1 hc.1 hP hP2 (LC_1 hc M) hS hc.2.2.2.2.2.2.2.2.1 hc.2.1.1.2.1 (by rw [hc.2.1.1.1]; rfl) lkL_58 (k_X5_turn l g hc.1 hc.2.1 S (xs (x3 + 1).toNatClampNeg) (1 : Int32) (v, S2) e1) ⟨⟨rfl, rfl⟩, Nat.le_of_ble_eq_true rfl, Nat.le_of_ble_eq_true rfl⟩ rfl hl.1 rfl (Nat.le_of_ble_eq_true rfl) dL_law_563 hfit (fun H locs hP hP2 hS => ?_)
    refine lv_aload_n hx hb dL_law_566 rfl (lv_at hl 2 rfl) ?_
    refine lv_aload_n hx hb dL_law_567 rfl (lv_at hl 0 rfl) ?_
    refine lv_iload_n hx hb dL_law_568 rfl (lv_at hl 3 rfl) ?_
    refine lv_iconst (v := 1) hx hb dL_law_569 (by decide) ?_
    refine lv_iadd hx hb dL_law_570 ?_
    refine va_sld hx hb hX hbl hbA hS h1 dL_law_571 ?_
    refine lv_aload_n hx hb dL_law_572 rfl (lv_at hl 0 rfl) ?_
    refine lv_iload_n hx hb dL_law_573 rfl (lv_at hl 3 rfl) ?_
    refine lv_iconst (v := 2) hx hb dL_law_574 (by decide) ?_
    refine lv_iadd hx hb dL_law_575 ?_
    refine va_sld hx hb hX hbl hbA hS h2 dL_law_576 ?_
    refine lv_if_eq (tgt := 584) hx hb dL_law_577 rfl (fun hz2 => absurd hz2 hz) (fun _ => ?_)
    refine lv_iconst (v := 1) hx hb dL_law_580 (by decide) ?_
    refine lv_goto (tgt := 585) hx hb dL_law_581 rfl ?_
    refine r_L_w (w := wd_M) (g := gm) (S := M) (As := [.int (xs (x3 + 1).toNatClampNeg), .int 1]) (rest := [.int (v)]) (q := (v, M2)) hx hb hml hown htsG hc.2.2.2.2.2.1 trivial hc.2.2.1 hP2 hP (LC_2 hc S2) hS hc.2.2.2.2.2.2.2.2.2 hc.2.2.2.1.2.1 (by rw [hc.2.2.2.1.1]; rfl) lkL_62 (k_X6_turn l gm hc.2.2.1 hc.2.2.2.1 M (xs (x3 + 1).toNatClampNeg) (1 : Int32) (v, M2) e2) ⟨⟨rfl, rfl⟩, Nat.le_of_ble_eq_true rfl, Nat.le_of_ble_eq_true rfl⟩ rfl hl.1 rfl (Nat.le_of_ble_eq_true rfl) dL_law_585 hfit (fun H locs hP2 hP hS => ?_)
    refine lv_icmp_eq (tgt := 1750) hx hb dL_law_588 rfl (fun _ => ?_) (fun hz2 => absurd rfl hz2)
    exact kk _ _ _ _ hw2 ⟨hP, hP2, hS⟩
set_option maxRecDepth 100000 in
set_option maxHeartbeats 4000000 in
theorem lc_11 (C0 : lw_At p s m meth c b L xs) (hc : LC g gm s) (hw : RW S M) (h : LSw g gm s S M H locs) (h1 : vp_in (x3 + 1) L) (h2 : vp_in (x3 + 2) L) (h3 : vp_in (x3 + 3) L) (h4 : vp_in (x3 + 4) L) (h5 : vp_in (x3 + 5) L) (hfit : cells + 0 ≤ room_1.cells ∧ slots + 0 ≤ room_1.slots) (hl : lv_has ls 4 [(0, .ref b), (1, .ref (gg_o g 0)), (2, .ref (gg_o gm 0)), (3, .int x3)]) (kk : ∀ (S2 M2 : St) (H2 : Heap) (locs2 : List Loc), RW S2 M2 → LSw g gm s S2 M2 H2 locs2 → W p l e room_1 s m #[Value.ref b] below meth c H2 locs2 cells slots Q (F0 m 1750 ls [])) : W p l e room_1 s m #[Value.ref b] below meth c H locs cells slots Q (F0 m 593 ls []) := by
  obtain ⟨hx, hb, hr, hml, hown0, hts, hX, hbl, hlocks, hgv⟩ := C0
  have hown : s.vm.findClass RL = some m.cls := hown0
  have htsG : ∀ z ∈ gw_tbl, z.before #[Value.ref b] s = true := fun z hz => hts z (gw_lw z hz)
  have hbA : ¬ (fun z : Nat => s.heap.size ≤ z) b := Nat.not_le.mpr hbl
  obtain ⟨hP, hP2, hS⟩ := h
  obtain ⟨A, kt, sd, hA, hC, hM⟩ := hw
  obtain ⟨v, S2, M2, e1, e2, hw2⟩ := Q_smash hA hC hM (xs (x3 + 1).toNatClampNeg)
  refine lv_aload_n hx hb dL_law_593 rfl (lv_at hl 1 rfl) ?_
  refine lv_aload_n hx hb dL_law_594 rfl (lv_at hl 0 rfl) ?_
  refine lv_iload_n hx hb dL_law_595 rfl (lv_at hl 3 rfl) ?_
  refine lv_iconst (v := 1) hx hb dL_law_596 (by decide) ?_
  refine lv_iadd hx hb dL_law_597 ?_
  refine va_sld hx hb hX hbl hbA hS h1 dL_law_598 ?_
  refine r_L_w (w := wd_C) (g := g) (S := S) (As := [.int (xs (x3 + 1).toNatClampNeg)]) (rest := []) (q := (v, S2)) hx hb hml hown htsG hc.2.2.2.2.1 hc.2.2.2.2.2.2.1 hc.1 hP hP2 (LC_1 hc M) hS hc.2.2.2.2.2.2.2.2.1 hc.2.1.1.2.1 (by rw [hc.2.1.1.1]; rfl) lkL_63 (k_X5_smash l g hc.1 hc.2.1 S (xs (x3 + 1).toNatClampNeg) (v, S2) e1) ⟨⟨rfl, rfl⟩, Nat.le_of_ble_eq_true rfl, Nat.le_of_ble_eq_true rfl⟩ rfl hl.1 rfl (Nat.le_of_ble_eq_true rfl) dL_law_599 hfit (fun H locs hP hP2 hS => ?_)
  refine lv_aload_n hx hb dL_law_602 rfl (lv_at hl 2 rfl) ?_
  refine lv_aload_n hx hb dL_law_603 rfl (lv_at hl 0 rfl) ?_
  refine lv_iload_n hx hb dL_law_604 rfl (lv_at hl 3 rfl) ?_
  refine lv_iconst (v := 1) hx hb dL_law_605 (by decide) ?_
  refine lv_iadd hx hb dL_law_606 ?_
  refine va_sld hx hb hX hbl hbA hS h1 dL_law_607 ?_
  refine r_L_w (w := wd_M) (g := gm) (S := M) (As := [.int (xs (x3 + 1).toNatClampNeg)]) (rest := [.int (v)]) (q := (v, M2)) hx hb hml hown htsG hc.2.2.2.2.2.1 trivial hc.2.2.1 hP2 hP (LC_2 hc S2) hS hc.2.2.2.2.2.2.2.2.2 hc.2.2.2.1.2.1 (by rw [hc.2.2.2.1.1]; rfl) lkL_67 (k_X6_smash l gm hc.2.2.1 hc.2.2.2.1 M (xs (x3 + 1).toNatClampNeg) (v, M2) e2) ⟨⟨rfl, rfl⟩, Nat.le_of_ble_eq_true rfl, Nat.le_of_ble_eq_true rfl⟩ rfl hl.1 rfl (Nat.le_of_ble_eq_true rfl) dL_law_608 hfit (fun H locs hP2 hP hS => ?_)
  refine lv_icmp_eq (tgt := 1750) hx hb dL_law_611 rfl (fun _ => ?_) (fun hz2 => absurd rfl hz2)
  exact kk _ _ _ _ hw2 ⟨hP, hP2, hS⟩
set_option maxRecDepth 100000 in
set_option maxHeartbeats 4000000 in
theorem lc_12 (C0 : lw_At p s m meth c b L xs) (hc : LC g gm s) (hw : RW S M) (h : LSw g gm s S M H locs) (h1 : vp_in (x3 + 1) L) (h2 : vp_in (x3 + 2) L) (h3 : vp_in (x3 + 3) L) (h4 : vp_in (x3 + 4) L) (h5 : vp_in (x3 + 5) L) (hfit : cells + 0 ≤ room_1.cells ∧ slots + 0 ≤ room_1.slots) (hl : lv_has ls 4 [(0, .ref b), (1, .ref (gg_o g 0)), (2, .ref (gg_o gm 0)), (3, .int x3)]) (kk : ∀ (S2 M2 : St) (H2 : Heap) (locs2 : List Loc), RW S2 M2 → LSw g gm s S2 M2 H2 locs2 → W p l e room_1 s m #[Value.ref b] below meth c H2 locs2 cells slots Q (F0 m 1750 ls [])) : W p l e room_1 s m #[Value.ref b] below meth c H locs cells slots Q (F0 m 616 ls []) := by
  obtain ⟨hx, hb, hr, hml, hown0, hts, hX, hbl, hlocks, hgv⟩ := C0
  have hown : s.vm.findClass RL = some m.cls := hown0
  have htsG : ∀ z ∈ gw_tbl, z.before #[Value.ref b] s = true := fun z hz => hts z (gw_lw z hz)
  have hbA : ¬ (fun z : Nat => s.heap.size ≤ z) b := Nat.not_le.mpr hbl
  obtain ⟨hP, hP2, hS⟩ := h
  obtain ⟨A, kt, sd, hA, hC, hM⟩ := hw
  obtain ⟨v, S2, M2, e1, e2, hw2⟩ := Q_undo hA hC hM 
  refine lv_aload_n hx hb dL_law_616 rfl (lv_at hl 1 rfl) ?_
  refine r_L_w (w := wd_C) (g := g) (S := S) (As := []) (rest := []) (q := (v, S2)) hx hb hml hown htsG hc.2.2.2.2.1 hc.2.2.2.2.2.2.1 hc.1 hP hP2 (LC_1 hc M) hS hc.2.2.2.2.2.2.2.2.1 hc.2.1.1.2.1 (by rw [hc.2.1.1.1]; rfl) lkL_68 (k_X5_undo l g hc.1 hc.2.1 S  (v, S2) e1) ⟨⟨rfl, rfl⟩, Nat.le_of_ble_eq_true rfl, Nat.le_of_ble_eq_true rfl⟩ rfl hl.1 rfl (Nat.le_of_ble_eq_true rfl) dL_law_617 hfit (fun H locs hP hP2 hS => ?_)
  refine lv_aload_n hx hb dL_law_620 rfl (lv_at hl 2 rfl) ?_
  refine r_L_w (w := wd_M) (g := gm) (S := M) (As := []) (rest := [.int (v)]) (q := (v, M2)) hx hb hml hown htsG hc.2.2.2.2.2.1 trivial hc.2.2.1 hP2 hP (LC_2 hc S2) hS hc.2.2.2.2.2.2.2.2.2 hc.2.2.2.1.2.1 (by rw [hc.2.2.2.1.1]; rfl) lkL_72 (k_X6_undo l gm hc.2.2.1 hc.2.2.2.1 M  (v, M2) e2) ⟨⟨rfl, rfl⟩, Nat.le_of_ble_eq_true rfl, Nat.le_of_ble_eq_true rfl⟩ rfl hl.1 rfl (Nat.le_of_ble_eq_true rfl) dL_law_621 hfit (fun H locs hP2 hP hS => ?_)
  refine lv_icmp_eq (tgt := 1750) hx hb dL_law_624 rfl (fun _ => ?_) (fun hz2 => absurd rfl hz2)
  exact kk _ _ _ _ hw2 ⟨hP, hP2, hS⟩
set_option maxRecDepth 100000 in
set_option maxHeartbeats 4000000 in
theorem lc_13 (C0 : lw_At p s m meth c b L xs) (hc : LC g gm s) (hw : RW S M) (h : LSw g gm s S M H locs) (h1 : vp_in (x3 + 1) L) (h2 : vp_in (x3 + 2) L) (h3 : vp_in (x3 + 3) L) (h4 : vp_in (x3 + 4) L) (h5 : vp_in (x3 + 5) L) (hfit : cells + 0 ≤ room_1.cells ∧ slots + 0 ≤ room_1.slots) (hl : lv_has ls 4 [(0, .ref b), (1, .ref (gg_o g 0)), (2, .ref (gg_o gm 0)), (3, .int x3)]) (kk : ∀ (S2 M2 : St) (H2 : Heap) (locs2 : List Loc), RW S2 M2 → LSw g gm s S2 M2 H2 locs2 → W p l e room_1 s m #[Value.ref b] below meth c H2 locs2 cells slots Q (F0 m 1750 ls [])) : W p l e room_1 s m #[Value.ref b] below meth c H locs cells slots Q (F0 m 629 ls []) := by
  obtain ⟨hx, hb, hr, hml, hown0, hts, hX, hbl, hlocks, hgv⟩ := C0
  have hown : s.vm.findClass RL = some m.cls := hown0
  have htsG : ∀ z ∈ gw_tbl, z.before #[Value.ref b] s = true := fun z hz => hts z (gw_lw z hz)
  have hbA : ¬ (fun z : Nat => s.heap.size ≤ z) b := Nat.not_le.mpr hbl
  obtain ⟨hP, hP2, hS⟩ := h
  obtain ⟨A, kt, sd, hA, hC, hM⟩ := hw
  obtain ⟨v, S2, M2, e1, e2, hw2⟩ := Q_look hA hC hM (xs (x3 + 1).toNatClampNeg) (xs (x3 + 2).toNatClampNeg) (xs (x3 + 3).toNatClampNeg) (xs (x3 + 4).toNatClampNeg)
  obtain ⟨e1, rS⟩ := pu_s e1
  rw [rS] at hw2
  refine lv_aload_n hx hb dL_law_629 rfl (lv_at hl 1 rfl) ?_
  refine lv_aload_n hx hb dL_law_630 rfl (lv_at hl 0 rfl) ?_
  refine lv_iload_n hx hb dL_law_631 rfl (lv_at hl 3 rfl) ?_
  refine lv_iconst (v := 1) hx hb dL_law_632 (by decide) ?_
  refine lv_iadd hx hb dL_law_633 ?_
  refine va_sld hx hb hX hbl hbA hS h1 dL_law_634 ?_
  refine lv_aload_n hx hb dL_law_635 rfl (lv_at hl 0 rfl) ?_
  refine lv_iload_n hx hb dL_law_636 rfl (lv_at hl 3 rfl) ?_
  refine lv_iconst (v := 2) hx hb dL_law_637 (by decide) ?_
  refine lv_iadd hx hb dL_law_638 ?_
  refine va_sld hx hb hX hbl hbA hS h2 dL_law_639 ?_
  refine lv_aload_n hx hb dL_law_640 rfl (lv_at hl 0 rfl) ?_
  refine lv_iload_n hx hb dL_law_641 rfl (lv_at hl 3 rfl) ?_
  refine lv_iconst (v := 3) hx hb dL_law_642 (by decide) ?_
  refine lv_iadd hx hb dL_law_643 ?_
  refine va_sld hx hb hX hbl hbA hS h3 dL_law_644 ?_
  refine lv_aload_n hx hb dL_law_645 rfl (lv_at hl 0 rfl) ?_
  refine lv_iload_n hx hb dL_law_646 rfl (lv_at hl 3 rfl) ?_
  refine lv_iconst (v := 4) hx hb dL_law_647 (by decide) ?_
  refine lv_iadd hx hb dL_law_648 ?_
  refine va_sld hx hb hX hbl hbA hS h4 dL_law_649 ?_
  refine r_L_i (w := wd_C) (g := g) (S := S) (As := [.int (xs (x3 + 1).toNatClampNeg), .int (xs (x3 + 2).toNatClampNeg), .int (xs (x3 + 3).toNatClampNeg), .int (xs (x3 + 4).toNatClampNeg)]) (rest := []) (q := v) hx hb hml hown htsG hc.2.2.2.2.1 hc.2.2.2.2.2.2.1 hc.1 hP hP2 (LC_1 hc M) hS hc.2.2.2.2.2.2.2.2.1 hc.2.1.1.2.1 (by rw [hc.2.1.1.1]; rfl) lkL_73 (k_X5_look l g hc.1 hc.2.1 S (xs (x3 + 1).toNatClampNeg) (xs (x3 + 2).toNatClampNeg) (xs (x3 + 3).toNatClampNeg) (xs (x3 + 4).toNatClampNeg) v e1) ⟨⟨rfl, rfl⟩, Nat.le_of_ble_eq_true rfl, Nat.le_of_ble_eq_true rfl⟩ rfl hl.1 rfl (Nat.le_of_ble_eq_true rfl) dL_law_650 hfit (fun H locs hP hP2 hS => ?_)
  refine lv_aload_n hx hb dL_law_653 rfl (lv_at hl 2 rfl) ?_
  refine lv_aload_n hx hb dL_law_654 rfl (lv_at hl 0 rfl) ?_
  refine lv_iload_n hx hb dL_law_655 rfl (lv_at hl 3 rfl) ?_
  refine lv_iconst (v := 1) hx hb dL_law_656 (by decide) ?_
  refine lv_iadd hx hb dL_law_657 ?_
  refine va_sld hx hb hX hbl hbA hS h1 dL_law_658 ?_
  refine lv_aload_n hx hb dL_law_659 rfl (lv_at hl 0 rfl) ?_
  refine lv_iload_n hx hb dL_law_660 rfl (lv_at hl 3 rfl) ?_
  refine lv_iconst (v := 2) hx hb dL_law_661 (by decide) ?_
  refine lv_iadd hx hb dL_law_662 ?_
  refine va_sld hx hb hX hbl hbA hS h2 dL_law_663 ?_
  refine lv_aload_n hx hb dL_law_664 rfl (lv_at hl 0 rfl) ?_
  refine lv_iload_n hx hb dL_law_665 rfl (lv_at hl 3 rfl) ?_
  refine lv_iconst (v := 3) hx hb dL_law_666 (by decide) ?_
  refine lv_iadd hx hb dL_law_667 ?_
  refine va_sld hx hb hX hbl hbA hS h3 dL_law_668 ?_
  refine lv_aload_n hx hb dL_law_669 rfl (lv_at hl 0 rfl) ?_
  refine lv_iload_n hx hb dL_law_670 rfl (lv_at hl 3 rfl) ?_
  refine lv_iconst (v := 4) hx hb dL_law_671 (by decide) ?_
  refine lv_iadd hx hb dL_law_672 ?_
  refine va_sld hx hb hX hbl hbA hS h4 dL_law_673 ?_
  refine r_L_w (w := wd_M) (g := gm) (S := M) (As := [.int (xs (x3 + 1).toNatClampNeg), .int (xs (x3 + 2).toNatClampNeg), .int (xs (x3 + 3).toNatClampNeg), .int (xs (x3 + 4).toNatClampNeg)]) (rest := [.int (v)]) (q := (v, M2)) hx hb hml hown htsG hc.2.2.2.2.2.1 trivial hc.2.2.1 hP2 hP (LC_2 hc S) hS hc.2.2.2.2.2.2.2.2.2 hc.2.2.2.1.2.1 (by rw [hc.2.2.2.1.1]; rfl) lkL_77 (k_X6_look l gm hc.2.2.1 hc.2.2.2.1 M (xs (x3 + 1).toNatClampNeg) (xs (x3 + 2).toNatClampNeg) (xs (x3 + 3).toNatClampNeg) (xs (x3 + 4).toNatClampNeg) (v, M2) e2) ⟨⟨rfl, rfl⟩, Nat.le_of_ble_eq_true rfl, Nat.le_of_ble_eq_true rfl⟩ rfl hl.1 rfl (Nat.le_of_ble_eq_true rfl) dL_law_674 hfit (fun H locs hP2 hP hS => ?_)
  refine lv_icmp_eq (tgt := 1750) hx hb dL_law_677 rfl (fun _ => ?_) (fun hz2 => absurd rfl hz2)
  exact kk _ _ _ _ hw2 ⟨hP, hP2, hS⟩
set_option maxRecDepth 100000 in
set_option maxHeartbeats 4000000 in
theorem lc_14 (C0 : lw_At p s m meth c b L xs) (hc : LC g gm s) (hw : RW S M) (h : LSw g gm s S M H locs) (h1 : vp_in (x3 + 1) L) (h2 : vp_in (x3 + 2) L) (h3 : vp_in (x3 + 3) L) (h4 : vp_in (x3 + 4) L) (h5 : vp_in (x3 + 5) L) (hfit : cells + 0 ≤ room_1.cells ∧ slots + 0 ≤ room_1.slots) (hl : lv_has ls 4 [(0, .ref b), (1, .ref (gg_o g 0)), (2, .ref (gg_o gm 0)), (3, .int x3)]) (kk : ∀ (S2 M2 : St) (H2 : Heap) (locs2 : List Loc), RW S2 M2 → LSw g gm s S2 M2 H2 locs2 → W p l e room_1 s m #[Value.ref b] below meth c H2 locs2 cells slots Q (F0 m 1750 ls [])) : W p l e room_1 s m #[Value.ref b] below meth c H locs cells slots Q (F0 m 682 ls []) := by
  obtain ⟨hx, hb, hr, hml, hown0, hts, hX, hbl, hlocks, hgv⟩ := C0
  have hown : s.vm.findClass RL = some m.cls := hown0
  have htsG : ∀ z ∈ gw_tbl, z.before #[Value.ref b] s = true := fun z hz => hts z (gw_lw z hz)
  have hbA : ¬ (fun z : Nat => s.heap.size ≤ z) b := Nat.not_le.mpr hbl
  obtain ⟨hP, hP2, hS⟩ := h
  obtain ⟨A, kt, sd, hA, hC, hM⟩ := hw
  obtain ⟨v, S2, M2, e1, e2, hw2⟩ := Q_last hA hC hM (xs (x3 + 1).toNatClampNeg) (xs (x3 + 2).toNatClampNeg)
  obtain ⟨e1, rS⟩ := pu_s e1
  rw [rS] at hw2
  obtain ⟨e2, rM⟩ := pu_s e2
  rw [rM] at hw2
  refine lv_aload_n hx hb dL_law_682 rfl (lv_at hl 1 rfl) ?_
  refine lv_aload_n hx hb dL_law_683 rfl (lv_at hl 0 rfl) ?_
  refine lv_iload_n hx hb dL_law_684 rfl (lv_at hl 3 rfl) ?_
  refine lv_iconst (v := 1) hx hb dL_law_685 (by decide) ?_
  refine lv_iadd hx hb dL_law_686 ?_
  refine va_sld hx hb hX hbl hbA hS h1 dL_law_687 ?_
  refine lv_aload_n hx hb dL_law_688 rfl (lv_at hl 0 rfl) ?_
  refine lv_iload_n hx hb dL_law_689 rfl (lv_at hl 3 rfl) ?_
  refine lv_iconst (v := 2) hx hb dL_law_690 (by decide) ?_
  refine lv_iadd hx hb dL_law_691 ?_
  refine va_sld hx hb hX hbl hbA hS h2 dL_law_692 ?_
  refine r_L_i (w := wd_C) (g := g) (S := S) (As := [.int (xs (x3 + 1).toNatClampNeg), .int (xs (x3 + 2).toNatClampNeg)]) (rest := []) (q := v) hx hb hml hown htsG hc.2.2.2.2.1 hc.2.2.2.2.2.2.1 hc.1 hP hP2 (LC_1 hc M) hS hc.2.2.2.2.2.2.2.2.1 hc.2.1.1.2.1 (by rw [hc.2.1.1.1]; rfl) lkL_78 (k_X5_last l g hc.1 hc.2.1 S (xs (x3 + 1).toNatClampNeg) (xs (x3 + 2).toNatClampNeg) v e1) ⟨⟨rfl, rfl⟩, Nat.le_of_ble_eq_true rfl, Nat.le_of_ble_eq_true rfl⟩ rfl hl.1 rfl (Nat.le_of_ble_eq_true rfl) dL_law_693 hfit (fun H locs hP hP2 hS => ?_)
  refine lv_aload_n hx hb dL_law_696 rfl (lv_at hl 2 rfl) ?_
  refine lv_aload_n hx hb dL_law_697 rfl (lv_at hl 0 rfl) ?_
  refine lv_iload_n hx hb dL_law_698 rfl (lv_at hl 3 rfl) ?_
  refine lv_iconst (v := 1) hx hb dL_law_699 (by decide) ?_
  refine lv_iadd hx hb dL_law_700 ?_
  refine va_sld hx hb hX hbl hbA hS h1 dL_law_701 ?_
  refine lv_aload_n hx hb dL_law_702 rfl (lv_at hl 0 rfl) ?_
  refine lv_iload_n hx hb dL_law_703 rfl (lv_at hl 3 rfl) ?_
  refine lv_iconst (v := 2) hx hb dL_law_704 (by decide) ?_
  refine lv_iadd hx hb dL_law_705 ?_
  refine va_sld hx hb hX hbl hbA hS h2 dL_law_706 ?_
  refine r_L_i (w := wd_M) (g := gm) (S := M) (As := [.int (xs (x3 + 1).toNatClampNeg), .int (xs (x3 + 2).toNatClampNeg)]) (rest := [.int (v)]) (q := v) hx hb hml hown htsG hc.2.2.2.2.2.1 trivial hc.2.2.1 hP2 hP (LC_2 hc S) hS hc.2.2.2.2.2.2.2.2.2 hc.2.2.2.1.2.1 (by rw [hc.2.2.2.1.1]; rfl) lkL_82 (k_X6_last l gm hc.2.2.1 hc.2.2.2.1 M (xs (x3 + 1).toNatClampNeg) (xs (x3 + 2).toNatClampNeg) v e2) ⟨⟨rfl, rfl⟩, Nat.le_of_ble_eq_true rfl, Nat.le_of_ble_eq_true rfl⟩ rfl hl.1 rfl (Nat.le_of_ble_eq_true rfl) dL_law_707 hfit (fun H locs hP2 hP hS => ?_)
  refine lv_icmp_eq (tgt := 1750) hx hb dL_law_710 rfl (fun _ => ?_) (fun hz2 => absurd rfl hz2)
  exact kk _ _ _ _ hw2 ⟨hP, hP2, hS⟩
set_option maxRecDepth 100000 in
set_option maxHeartbeats 4000000 in
theorem lc_15 (C0 : lw_At p s m meth c b L xs) (hc : LC g gm s) (hw : RW S M) (h : LSw g gm s S M H locs) (h1 : vp_in (x3 + 1) L) (h2 : vp_in (x3 + 2) L) (h3 : vp_in (x3 + 3) L) (h4 : vp_in (x3 + 4) L) (h5 : vp_in (x3 + 5) L) (hfit : cells + 0 ≤ room_1.cells ∧ slots + 0 ≤ room_1.slots) (hl : lv_has ls 4 [(0, .ref b), (1, .ref (gg_o g 0)), (2, .ref (gg_o gm 0)), (3, .int x3)]) (kk : ∀ (S2 M2 : St) (H2 : Heap) (locs2 : List Loc), RW S2 M2 → LSw g gm s S2 M2 H2 locs2 → W p l e room_1 s m #[Value.ref b] below meth c H2 locs2 cells slots Q (F0 m 1750 ls [])) : W p l e room_1 s m #[Value.ref b] below meth c H locs cells slots Q (F0 m 715 ls []) := by
  obtain ⟨hx, hb, hr, hml, hown0, hts, hX, hbl, hlocks, hgv⟩ := C0
  have hown : s.vm.findClass RL = some m.cls := hown0
  have htsG : ∀ z ∈ gw_tbl, z.before #[Value.ref b] s = true := fun z hz => hts z (gw_lw z hz)
  have hbA : ¬ (fun z : Nat => s.heap.size ≤ z) b := Nat.not_le.mpr hbl
  obtain ⟨hP, hP2, hS⟩ := h
  obtain ⟨A, kt, sd, hA, hC, hM⟩ := hw
  obtain ⟨v, S2, M2, e1, e2, hw2⟩ := Q_visits hA hC hM (xs (x3 + 1).toNatClampNeg) (xs (x3 + 2).toNatClampNeg)
  obtain ⟨e1, rS⟩ := pu_s e1
  rw [rS] at hw2
  obtain ⟨e2, rM⟩ := pu_s e2
  rw [rM] at hw2
  refine lv_aload_n hx hb dL_law_715 rfl (lv_at hl 1 rfl) ?_
  refine lv_aload_n hx hb dL_law_716 rfl (lv_at hl 0 rfl) ?_
  refine lv_iload_n hx hb dL_law_717 rfl (lv_at hl 3 rfl) ?_
  refine lv_iconst (v := 1) hx hb dL_law_718 (by decide) ?_
  refine lv_iadd hx hb dL_law_719 ?_
  refine va_sld hx hb hX hbl hbA hS h1 dL_law_720 ?_
  refine lv_aload_n hx hb dL_law_721 rfl (lv_at hl 0 rfl) ?_
  refine lv_iload_n hx hb dL_law_722 rfl (lv_at hl 3 rfl) ?_
  refine lv_iconst (v := 2) hx hb dL_law_723 (by decide) ?_
  refine lv_iadd hx hb dL_law_724 ?_
  refine va_sld hx hb hX hbl hbA hS h2 dL_law_725 ?_
  refine r_L_i (w := wd_C) (g := g) (S := S) (As := [.int (xs (x3 + 1).toNatClampNeg), .int (xs (x3 + 2).toNatClampNeg)]) (rest := []) (q := v) hx hb hml hown htsG hc.2.2.2.2.1 hc.2.2.2.2.2.2.1 hc.1 hP hP2 (LC_1 hc M) hS hc.2.2.2.2.2.2.2.2.1 hc.2.1.1.2.1 (by rw [hc.2.1.1.1]; rfl) lkL_83 (k_X5_visits l g hc.1 hc.2.1 S (xs (x3 + 1).toNatClampNeg) (xs (x3 + 2).toNatClampNeg) v e1) ⟨⟨rfl, rfl⟩, Nat.le_of_ble_eq_true rfl, Nat.le_of_ble_eq_true rfl⟩ rfl hl.1 rfl (Nat.le_of_ble_eq_true rfl) dL_law_726 hfit (fun H locs hP hP2 hS => ?_)
  refine lv_aload_n hx hb dL_law_729 rfl (lv_at hl 2 rfl) ?_
  refine lv_aload_n hx hb dL_law_730 rfl (lv_at hl 0 rfl) ?_
  refine lv_iload_n hx hb dL_law_731 rfl (lv_at hl 3 rfl) ?_
  refine lv_iconst (v := 1) hx hb dL_law_732 (by decide) ?_
  refine lv_iadd hx hb dL_law_733 ?_
  refine va_sld hx hb hX hbl hbA hS h1 dL_law_734 ?_
  refine lv_aload_n hx hb dL_law_735 rfl (lv_at hl 0 rfl) ?_
  refine lv_iload_n hx hb dL_law_736 rfl (lv_at hl 3 rfl) ?_
  refine lv_iconst (v := 2) hx hb dL_law_737 (by decide) ?_
  refine lv_iadd hx hb dL_law_738 ?_
  refine va_sld hx hb hX hbl hbA hS h2 dL_law_739 ?_
  refine r_L_i (w := wd_M) (g := gm) (S := M) (As := [.int (xs (x3 + 1).toNatClampNeg), .int (xs (x3 + 2).toNatClampNeg)]) (rest := [.int (v)]) (q := v) hx hb hml hown htsG hc.2.2.2.2.2.1 trivial hc.2.2.1 hP2 hP (LC_2 hc S) hS hc.2.2.2.2.2.2.2.2.2 hc.2.2.2.1.2.1 (by rw [hc.2.2.2.1.1]; rfl) lkL_86 (k_X6_visits l gm hc.2.2.1 hc.2.2.2.1 M (xs (x3 + 1).toNatClampNeg) (xs (x3 + 2).toNatClampNeg) v e2) ⟨⟨rfl, rfl⟩, Nat.le_of_ble_eq_true rfl, Nat.le_of_ble_eq_true rfl⟩ rfl hl.1 rfl (Nat.le_of_ble_eq_true rfl) dL_law_740 hfit (fun H locs hP2 hP hS => ?_)
  refine lv_icmp_eq (tgt := 1750) hx hb dL_law_743 rfl (fun _ => ?_) (fun hz2 => absurd rfl hz2)
  exact kk _ _ _ _ hw2 ⟨hP, hP2, hS⟩
end LK
