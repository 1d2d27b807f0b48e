def f_X6_init (S : St)  : Option (St) :=
  (f_X6_plain  S (0 : Int32)).bind (fun (q1 : St) => (f_X6_word   (114 : Int32) (111 : Int32) (111 : Int32) (109 : Int32) (0 : Int32) (0 : Int32) (0 : Int32)).bind (fun (q2 : Int64) => chk (ib (0 : Int32) 17) (lt_v (up_L q1 (ky 0 9) (vp_updL (st_L q1 (ky 0 9)) (0 : Int32).toNatClampNeg q2)) (fun (S3 : St) => (f_X6_word   (100 : Int32) (111 : Int32) (111 : Int32) (114 : Int32) (0 : Int32) (0 : Int32) (0 : Int32)).bind (fun (q4 : Int64) => chk (ib (1 : Int32) 17) (lt_v (up_L S3 (ky 0 9) (vp_updL (st_L S3 (ky 0 9)) (1 : Int32).toNatClampNeg q4)) (fun (S5 : St) => (f_X6_word   (109 : Int32) (97 : Int32) (110 : Int32) (0 : Int32) (0 : Int32) (0 : Int32) (0 : Int32)).bind (fun (q6 : Int64) => chk (ib (2 : Int32) 17) (lt_v (up_L S5 (ky 0 9) (vp_updL (st_L S5 (ky 0 9)) (2 : Int32).toNatClampNeg q6)) (fun (S7 : St) => (f_X6_word   (103 : Int32) (111 : Int32) (101 : Int32) (115 : Int32) (0 : Int32) (0 : Int32) (0 : Int32)).bind (fun (q8 : Int64) => chk (ib (3 : Int32) 17) (lt_v (up_L S7 (ky 0 9) (vp_updL (st_L S7 (ky 0 9)) (3 : Int32).toNatClampNeg q8)) (fun (S9 : St) => (f_X6_word   (109 : Int32) (105 : Int32) (114 : Int32) (114 : Int32) (111 : Int32) (114 : Int32) (0 : Int32)).bind (fun (q10 : Int64) => chk (ib (4 : Int32) 17) (lt_v (up_L S9 (ky 0 9) (vp_updL (st_L S9 (ky 0 9)) (4 : Int32).toNatClampNeg q10)) (fun (S11 : St) => (f_X6_word   (108 : Int32) (97 : Int32) (116 : Int32) (101 : Int32) (0 : Int32) (0 : Int32) (0 : Int32)).bind (fun (q12 : Int64) => chk (ib (5 : Int32) 17) (lt_v (up_L S11 (ky 0 9) (vp_updL (st_L S11 (ky 0 9)) (5 : Int32).toNatClampNeg q12)) (fun (S13 : St) => (f_X6_word   (98 : Int32) (114 : Int32) (101 : Int32) (97 : Int32) (107 : Int32) (115 : Int32) (0 : Int32)).bind (fun (q14 : Int64) => chk (ib (6 : Int32) 17) (lt_v (up_L S13 (ky 0 9) (vp_updL (st_L S13 (ky 0 9)) (6 : Int32).toNatClampNeg q14)) (fun (S15 : St) => (f_X6_word   (115 : Int32) (101 : Int32) (101 : Int32) (100 : Int32) (0 : Int32) (0 : Int32) (0 : Int32)).bind (fun (q16 : Int64) => chk (ib (7 : Int32) 17) (lt_v (up_L S15 (ky 0 9) (vp_updL (st_L S15 (ky 0 9)) (7 : Int32).toNatClampNeg q16)) (fun (S17 : St) => (f_X6_word   (105 : Int32) (102 : Int32) (0 : Int32) (0 : Int32) (0 : Int32) (0 : Int32) (0 : Int32)).bind (fun (q18 : Int64) => chk (ib (8 : Int32) 17) (lt_v (up_L S17 (ky 0 9) (vp_updL (st_L S17 (ky 0 9)) (8 : Int32).toNatClampNeg q18)) (fun (S19 : St) => (f_X6_word   (116 : Int32) (104 : Int32) (101 : Int32) (110 : Int32) (0 : Int32) (0 : Int32) (0 : Int32)).bind (fun (q20 : Int64) => chk (ib (9 : Int32) 17) (lt_v (up_L S19 (ky 0 9) (vp_updL (st_L S19 (ky 0 9)) (9 : Int32).toNatClampNeg q20)) (fun (S21 : St) => (f_X6_word   (101 : Int32) (108 : Int32) (115 : Int32) (101 : Int32) (0 : Int32) (0 : Int32) (0 : Int32)).bind (fun (q22 : Int64) => chk (ib (10 : Int32) 17) (lt_v (up_L S21 (ky 0 9) (vp_updL (st_L S21 (ky 0 9)) (10 : Int32).toNatClampNeg q22)) (fun (S23 : St) => (f_X6_word   (109 : Int32) (105 : Int32) (110 : Int32) (117 : Int32) (116 : Int32) (101 : Int32) (0 : Int32)).bind (fun (q24 : Int64) => chk (ib (11 : Int32) 17) (lt_v (up_L S23 (ky 0 9) (vp_updL (st_L S23 (ky 0 9)) (11 : Int32).toNatClampNeg q24)) (fun (S25 : St) => (f_X6_word   (104 : Int32) (101 : Int32) (114 : Int32) (101 : Int32) (0 : Int32) (0 : Int32) (0 : Int32)).bind (fun (q26 : Int64) => chk (ib (12 : Int32) 17) (lt_v (up_L S25 (ky 0 9) (vp_updL (st_L S25 (ky 0 9)) (12 : Int32).toNatClampNeg q26)) (fun (S27 : St) => (f_X6_word   (114 : Int32) (97 : Int32) (110 : Int32) (107 : Int32) (0 : Int32) (0 : Int32) (0 : Int32)).bind (fun (q28 : Int64) => chk (ib (13 : Int32) 17) (lt_v (up_L S27 (ky 0 9) (vp_updL (st_L S27 (ky 0 9)) (13 : Int32).toNatClampNeg q28)) (fun (S29 : St) => (f_X6_word   (110 : Int32) (117 : Int32) (109 : Int32) (98 : Int32) (101 : Int32) (114 : Int32) (0 : Int32)).bind (fun (q30 : Int64) => chk (ib (14 : Int32) 17) (lt_v (up_L S29 (ky 0 9) (vp_updL (st_L S29 (ky 0 9)) (14 : Int32).toNatClampNeg q30)) (fun (S31 : St) => (f_X6_word   (119 : Int32) (97 : Int32) (121 : Int32) (115 : Int32) (0 : Int32) (0 : Int32) (0 : Int32)).bind (fun (q32 : Int64) => chk (ib (15 : Int32) 17) (lt_v (up_L S31 (ky 0 9) (vp_updL (st_L S31 (ky 0 9)) (15 : Int32).toNatClampNeg q32)) (fun (S33 : St) => (f_X6_word   (119 : Int32) (105 : Int32) (116 : Int32) (104 : Int32) (0 : Int32) (0 : Int32) (0 : Int32)).bind (fun (q34 : Int64) => chk (ib (16 : Int32) 17) (lt_v (up_L S33 (ky 0 9) (vp_updL (st_L S33 (ky 0 9)) (16 : Int32).toNatClampNeg q34)) (fun (S35 : St) => (f_X6_begins  S35 ).bind (fun (q36 : St) => (f_X6_keepsRows  q36 (0 : Int32)).bind (fun (q37 : St) => some q37))))))))))))))))))))))))))))))))))))))))))))))))))))))
abbrev rm_X6_init : Room := { frames := 60, cells := 52, slots := 69623, locals := 3000 }
set_option maxRecDepth 100000 in
set_option maxHeartbeats 4000000 in
theorem kt_X6_init {p : Program} {l : Launch} {e : Env} {s : State} {m : MethodId} {args : Array Value} {below : List Frame} {meth : Method} {c : Code} {H : Heap} {locs : List Loc} {ls : Array Slot} {g : GG} (hg : gd wd_M g) (cx : CX wd_M g p s m args c cX6_init 1 RX6) (hM : hs wd_M g 0 6) {S : St} (hw : HH wd_M g s S H locs) (hr : meth.sig.returnType = none) (hlk : meth.locks = false) (hl : lv_has ls 1 [(0, .ref (gg_o g 0))]) {q : St} (hf : f_X6_init  S  = some q) : W p l e rm_X6_init s m args below meth c H locs 52 69623 (MQ below (qc_v wd_M g q) args s 52 69623 (aw g)) (F0 m 439 ls []) := by
  have hx := cx.1
  have hb := cx.2.1
  have hown := cx.2.2.2.1
  have hts := cx.2.2.2.2.1
  replace hf := h_top hf
  unfold f_X6_init at hf
  refine lv_aload_n hx hb dX6_init_439 rfl (lv_at hl 0 rfl) ?_
  refine lv_iconst (v := 0) hx hb dX6_init_440 (by decide) ?_
  refine r_V_v (As := [.int (0 : Int32)]) (rest := []) cx hw hf hM.2.1 (by rw [hM.1]; rfl) lk_X6_176 (fun q1 hq => k_X6_plain l g hg  hM S (0 : Int32) q1 hq) ⟨⟨rfl, rfl⟩, Nat.le_of_ble_eq_true rfl, Nat.le_of_ble_eq_true rfl⟩ rfl hl.1 rfl (Nat.le_of_ble_eq_true rfl) dX6_init_441 ⟨Nat.le_of_ble_eq_true rfl, Nat.le_of_ble_eq_true rfl⟩ (fun q1 H locs hw hf => ?_)
  refine lv_aload_n hx hb dX6_init_444 rfl (lv_at hl 0 rfl) ?_
  refine gf_X6_34 cx hw hM dX6_init_445 ?_
  refine lv_iconst (v := 0) hx hb dX6_init_448 (by decide) ?_
  refine lv_bipush (v := 114) hx hb dX6_init_449 (by decide) ?_
  refine lv_bipush (v := 111) hx hb dX6_init_451 (by decide) ?_
  refine lv_bipush (v := 111) hx hb dX6_init_453 (by decide) ?_
  refine lv_bipush (v := 109) hx hb dX6_init_455 (by decide) ?_
  refine lv_iconst (v := 0) hx hb dX6_init_457 (by decide) ?_
  refine lv_iconst (v := 0) hx hb dX6_init_458 (by decide) ?_
  refine lv_iconst (v := 0) hx hb dX6_init_459 (by decide) ?_
  refine r_S_l (As := [.int (114 : Int32), .int (111 : Int32), .int (111 : Int32), .int (109 : Int32), .int (0 : Int32), .int (0 : Int32), .int (0 : Int32)]) (rest := [.int (0 : Int32), .ref (gg_l g (ky 0 9))]) cx hw hf lk_X6_180 (fun q2 hq => k_X6_word l g hg   q1 (114 : Int32) (111 : Int32) (111 : Int32) (109 : Int32) (0 : Int32) (0 : Int32) (0 : Int32) q2 hq) ⟨⟨rfl, rfl⟩, Nat.le_of_ble_eq_true rfl, Nat.le_of_ble_eq_true rfl⟩ rfl hl.1 rfl (Nat.le_of_ble_eq_true rfl) dX6_init_460 ⟨Nat.le_of_ble_eq_true rfl, Nat.le_of_ble_eq_true rfl⟩ (fun q2 H locs hw hf => ?_)
  refine r_last cx hw (hM.2.2.2.1 9 rfl) rfl hf dX6_init_463 (fun S3 H locs hw hf => ?_)
  refine lv_aload_n hx hb dX6_init_464 rfl (lv_at hl 0 rfl) ?_
  refine gf_X6_34 cx hw hM dX6_init_465 ?_
  refine lv_iconst (v := 1) hx hb dX6_init_468 (by decide) ?_
  refine lv_bipush (v := 100) hx hb dX6_init_469 (by decide) ?_
  refine lv_bipush (v := 111) hx hb dX6_init_471 (by decide) ?_
  refine lv_bipush (v := 111) hx hb dX6_init_473 (by decide) ?_
  refine lv_bipush (v := 114) hx hb dX6_init_475 (by decide) ?_
  refine lv_iconst (v := 0) hx hb dX6_init_477 (by decide) ?_
  refine lv_iconst (v := 0) hx hb dX6_init_478 (by decide) ?_
  refine lv_iconst (v := 0) hx hb dX6_init_479 (by decide) ?_
  refine r_S_l (As := [.int (100 : Int32), .int (111 : Int32), .int (111 : Int32), .int (114 : Int32), .int (0 : Int32), .int (0 : Int32), .int (0 : Int32)]) (rest := [.int (1 : Int32), .ref (gg_l g (ky 0 9))]) cx hw hf lk_X6_180 (fun q4 hq => k_X6_word l g hg   S3 (100 : Int32) (111 : Int32) (111 : Int32) (114 : Int32) (0 : Int32) (0 : Int32) (0 : Int32) q4 hq) ⟨⟨rfl, rfl⟩, Nat.le_of_ble_eq_true rfl, Nat.le_of_ble_eq_true rfl⟩ rfl hl.1 rfl (Nat.le_of_ble_eq_true rfl) dX6_init_480 ⟨Nat.le_of_ble_eq_true rfl, Nat.le_of_ble_eq_true rfl⟩ (fun q4 H locs hw hf => ?_)
  refine r_last cx hw (hM.2.2.2.1 9 rfl) rfl hf dX6_init_483 (fun S5 H locs hw hf => ?_)
  refine lv_aload_n hx hb dX6_init_484 rfl (lv_at hl 0 rfl) ?_
  refine gf_X6_34 cx hw hM dX6_init_485 ?_
  refine lv_iconst (v := 2) hx hb dX6_init_488 (by decide) ?_
  refine lv_bipush (v := 109) hx hb dX6_init_489 (by decide) ?_
  refine lv_bipush (v := 97) hx hb dX6_init_491 (by decide) ?_
  refine lv_bipush (v := 110) hx hb dX6_init_493 (by decide) ?_
  refine lv_iconst (v := 0) hx hb dX6_init_495 (by decide) ?_
  refine lv_iconst (v := 0) hx hb dX6_init_496 (by decide) ?_
  refine lv_iconst (v := 0) hx hb dX6_init_497 (by decide) ?_
  refine lv_iconst (v := 0) hx hb dX6_init_498 (by decide) ?_
  refine r_S_l (As := [.int (109 : Int32), .int (97 : Int32), .int (110 : Int32), .int (0 : Int32), .int (0 : Int32), .int (0 : Int32), .int (0 : Int32)]) (rest := [.int (2 : Int32), .ref (gg_l g (ky 0 9))]) cx hw hf lk_X6_180 (fun q6 hq => k_X6_word l g hg   S5 (109 : Int32) (97 : Int32) (110 : Int32) (0 : Int32) (0 : Int32) (0 : Int32) (0 : Int32) q6 hq) ⟨⟨rfl, rfl⟩, Nat.le_of_ble_eq_true rfl, Nat.le_of_ble_eq_true rfl⟩ rfl hl.1 rfl (Nat.le_of_ble_eq_true rfl) dX6_init_499 ⟨Nat.le_of_ble_eq_true rfl, Nat.le_of_ble_eq_true rfl⟩ (fun q6 H locs hw hf => ?_)
  refine r_last cx hw (hM.2.2.2.1 9 rfl) rfl hf dX6_init_502 (fun S7 H locs hw hf => ?_)
  refine lv_aload_n hx hb dX6_init_503 rfl (lv_at hl 0 rfl) ?_
  refine gf_X6_34 cx hw hM dX6_init_504 ?_
  refine lv_iconst (v := 3) hx hb dX6_init_507 (by decide) ?_
  refine lv_bipush (v := 103) hx hb dX6_init_508 (by decide) ?_
  refine lv_bipush (v := 111) hx hb dX6_init_510 (by decide) ?_
  refine lv_bipush (v := 101) hx hb dX6_init_512 (by decide) ?_
  refine lv_bipush (v := 115) hx hb dX6_init_514 (by decide) ?_
  refine lv_iconst (v := 0) hx hb dX6_init_516 (by decide) ?_
  refine lv_iconst (v := 0) hx hb dX6_init_517 (by decide) ?_
  refine lv_iconst (v := 0) hx hb dX6_init_518 (by decide) ?_
  refine r_S_l (As := [.int (103 : Int32), .int (111 : Int32), .int (101 : Int32), .int (115 : Int32), .int (0 : Int32), .int (0 : Int32), .int (0 : Int32)]) (rest := [.int (3 : Int32), .ref (gg_l g (ky 0 9))]) cx hw hf lk_X6_180 (fun q8 hq => k_X6_word l g hg   S7 (103 : Int32) (111 : Int32) (101 : Int32) (115 : Int32) (0 : Int32) (0 : Int32) (0 : Int32) q8 hq) ⟨⟨rfl, rfl⟩, Nat.le_of_ble_eq_true rfl, Nat.le_of_ble_eq_true rfl⟩ rfl hl.1 rfl (Nat.le_of_ble_eq_true rfl) dX6_init_519 ⟨Nat.le_of_ble_eq_true rfl, Nat.le_of_ble_eq_true rfl⟩ (fun q8 H locs hw hf => ?_)
  refine r_last cx hw (hM.2.2.2.1 9 rfl) rfl hf dX6_init_522 (fun S9 H locs hw hf => ?_)
  refine lv_aload_n hx hb dX6_init_523 rfl (lv_at hl 0 rfl) ?_
  refine gf_X6_34 cx hw hM dX6_init_524 ?_
  refine lv_iconst (v := 4) hx hb dX6_init_527 (by decide) ?_
  refine lv_bipush (v := 109) hx hb dX6_init_528 (by decide) ?_
  refine lv_bipush (v := 105) hx hb dX6_init_530 (by decide) ?_
  refine lv_bipush (v := 114) hx hb dX6_init_532 (by decide) ?_
  refine lv_bipush (v := 114) hx hb dX6_init_534 (by decide) ?_
  refine lv_bipush (v := 111) hx hb dX6_init_536 (by decide) ?_
  refine lv_bipush (v := 114) hx hb dX6_init_538 (by decide) ?_
  refine lv_iconst (v := 0) hx hb dX6_init_540 (by decide) ?_
  refine r_S_l (As := [.int (109 : Int32), .int (105 : Int32), .int (114 : Int32), .int (114 : Int32), .int (111 : Int32), .int (114 : Int32), .int (0 : Int32)]) (rest := [.int (4 : Int32), .ref (gg_l g (ky 0 9))]) cx hw hf lk_X6_180 (fun q10 hq => k_X6_word l g hg   S9 (109 : Int32) (105 : Int32) (114 : Int32) (114 : Int32) (111 : Int32) (114 : Int32) (0 : Int32) q10 hq) ⟨⟨rfl, rfl⟩, Nat.le_of_ble_eq_true rfl, Nat.le_of_ble_eq_true rfl⟩ rfl hl.1 rfl (Nat.le_of_ble_eq_true rfl) dX6_init_541 ⟨Nat.le_of_ble_eq_true rfl, Nat.le_of_ble_eq_true rfl⟩ (fun q10 H locs hw hf => ?_)
  refine r_last cx hw (hM.2.2.2.1 9 rfl) rfl hf dX6_init_544 (fun S11 H locs hw hf => ?_)
  refine lv_aload_n hx hb dX6_init_545 rfl (lv_at hl 0 rfl) ?_
  refine gf_X6_34 cx hw hM dX6_init_546 ?_
  refine lv_iconst (v := 5) hx hb dX6_init_549 (by decide) ?_
  refine lv_bipush (v := 108) hx hb dX6_init_550 (by decide) ?_
  refine lv_bipush (v := 97) hx hb dX6_init_552 (by decide) ?_
  refine lv_bipush (v := 116) hx hb dX6_init_554 (by decide) ?_
  refine lv_bipush (v := 101) hx hb dX6_init_556 (by decide) ?_
  refine lv_iconst (v := 0) hx hb dX6_init_558 (by decide) ?_
  refine lv_iconst (v := 0) hx hb dX6_init_559 (by decide) ?_
  refine lv_iconst (v := 0) hx hb dX6_init_560 (by decide) ?_
  refine r_S_l (As := [.int (108 : Int32), .int (97 : Int32), .int (116 : Int32), .int (101 : Int32), .int (0 : Int32), .int (0 : Int32), .int (0 : Int32)]) (rest := [.int (5 : Int32), .ref (gg_l g (ky 0 9))]) cx hw hf lk_X6_180 (fun q12 hq => k_X6_word l g hg   S11 (108 : Int32) (97 : Int32) (116 : Int32) (101 : Int32) (0 : Int32) (0 : Int32) (0 : Int32) q12 hq) ⟨⟨rfl, rfl⟩, Nat.le_of_ble_eq_true rfl, Nat.le_of_ble_eq_true rfl⟩ rfl hl.1 rfl (Nat.le_of_ble_eq_true rfl) dX6_init_561 ⟨Nat.le_of_ble_eq_true rfl, Nat.le_of_ble_eq_true rfl⟩ (fun q12 H locs hw hf => ?_)
  refine r_last cx hw (hM.2.2.2.1 9 rfl) rfl hf dX6_init_564 (fun S13 H locs hw hf => ?_)
  refine lv_aload_n hx hb dX6_init_565 rfl (lv_at hl 0 rfl) ?_
  refine gf_X6_34 cx hw hM dX6_init_566 ?_
  refine lv_bipush (v := 6) hx hb dX6_init_569 (by decide) ?_
  refine lv_bipush (v := 98) hx hb dX6_init_571 (by decide) ?_
  refine lv_bipush (v := 114) hx hb dX6_init_573 (by decide) ?_
  refine lv_bipush (v := 101) hx hb dX6_init_575 (by decide) ?_
  refine lv_bipush (v := 97) hx hb dX6_init_577 (by decide) ?_
  refine lv_bipush (v := 107) hx hb dX6_init_579 (by decide) ?_
  refine lv_bipush (v := 115) hx hb dX6_init_581 (by decide) ?_
  refine lv_iconst (v := 0) hx hb dX6_init_583 (by decide) ?_
  refine r_S_l (As := [.int (98 : Int32), .int (114 : Int32), .int (101 : Int32), .int (97 : Int32), .int (107 : Int32), .int (115 : Int32), .int (0 : Int32)]) (rest := [.int (6 : Int32), .ref (gg_l g (ky 0 9))]) cx hw hf lk_X6_180 (fun q14 hq => k_X6_word l g hg   S13 (98 : Int32) (114 : Int32) (101 : Int32) (97 : Int32) (107 : Int32) (115 : Int32) (0 : Int32) q14 hq) ⟨⟨rfl, rfl⟩, Nat.le_of_ble_eq_true rfl, Nat.le_of_ble_eq_true rfl⟩ rfl hl.1 rfl (Nat.le_of_ble_eq_true rfl) dX6_init_584 ⟨Nat.le_of_ble_eq_true rfl, Nat.le_of_ble_eq_true rfl⟩ (fun q14 H locs hw hf => ?_)
  refine r_last cx hw (hM.2.2.2.1 9 rfl) rfl hf dX6_init_587 (fun S15 H locs hw hf => ?_)
  refine lv_aload_n hx hb dX6_init_588 rfl (lv_at hl 0 rfl) ?_
  refine gf_X6_34 cx hw hM dX6_init_589 ?_
  refine lv_bipush (v := 7) hx hb dX6_init_592 (by decide) ?_
  refine lv_bipush (v := 115) hx hb dX6_init_594 (by decide) ?_
  refine lv_bipush (v := 101) hx hb dX6_init_596 (by decide) ?_
  refine lv_bipush (v := 101) hx hb dX6_init_598 (by decide) ?_
  refine lv_bipush (v := 100) hx hb dX6_init_600 (by decide) ?_
  refine lv_iconst (v := 0) hx hb dX6_init_602 (by decide) ?_
  refine lv_iconst (v := 0) hx hb dX6_init_603 (by decide) ?_
  refine lv_iconst (v := 0) hx hb dX6_init_604 (by decide) ?_
  refine r_S_l (As := [.int (115 : Int32), .int (101 : Int32), .int (101 : Int32), .int (100 : Int32), .int (0 : Int32), .int (0 : Int32), .int (0 : Int32)]) (rest := [.int (7 : Int32), .ref (gg_l g (ky 0 9))]) cx hw hf lk_X6_180 (fun q16 hq => k_X6_word l g hg   S15 (115 : Int32) (101 : Int32) (101 : Int32) (100 : Int32) (0 : Int32) (0 : Int32) (0 : Int32) q16 hq) ⟨⟨rfl, rfl⟩, Nat.le_of_ble_eq_true rfl, Nat.le_of_ble_eq_true rfl⟩ rfl hl.1 rfl (Nat.le_of_ble_eq_true rfl) dX6_init_605 ⟨Nat.le_of_ble_eq_true rfl, Nat.le_of_ble_eq_true rfl⟩ (fun q16 H locs hw hf => ?_)
  refine r_last cx hw (hM.2.2.2.1 9 rfl) rfl hf dX6_init_608 (fun S17 H locs hw hf => ?_)
  refine lv_aload_n hx hb dX6_init_609 rfl (lv_at hl 0 rfl) ?_
  refine gf_X6_34 cx hw hM dX6_init_610 ?_
  refine lv_bipush (v := 8) hx hb dX6_init_613 (by decide) ?_
  refine lv_bipush (v := 105) hx hb dX6_init_615 (by decide) ?_
  refine lv_bipush (v := 102) hx hb dX6_init_617 (by decide) ?_
  refine lv_iconst (v := 0) hx hb dX6_init_619 (by decide) ?_
  refine lv_iconst (v := 0) hx hb dX6_init_620 (by decide) ?_
  refine lv_iconst (v := 0) hx hb dX6_init_621 (by decide) ?_
  refine lv_iconst (v := 0) hx hb dX6_init_622 (by decide) ?_
  refine lv_iconst (v := 0) hx hb dX6_init_623 (by decide) ?_
  refine r_S_l (As := [.int (105 : Int32), .int (102 : Int32), .int (0 : Int32), .int (0 : Int32), .int (0 : Int32), .int (0 : Int32), .int (0 : Int32)]) (rest := [.int (8 : Int32), .ref (gg_l g (ky 0 9))]) cx hw hf lk_X6_180 (fun q18 hq => k_X6_word l g hg   S17 (105 : Int32) (102 : Int32) (0 : Int32) (0 : Int32) (0 : Int32) (0 : Int32) (0 : Int32) q18 hq) ⟨⟨rfl, rfl⟩, Nat.le_of_ble_eq_true rfl, Nat.le_of_ble_eq_true rfl⟩ rfl hl.1 rfl (Nat.le_of_ble_eq_true rfl) dX6_init_624 ⟨Nat.le_of_ble_eq_true rfl, Nat.le_of_ble_eq_true rfl⟩ (fun q18 H locs hw hf => ?_)
  refine r_last cx hw (hM.2.2.2.1 9 rfl) rfl hf dX6_init_627 (fun S19 H locs hw hf => ?_)
  refine lv_aload_n hx hb dX6_init_628 rfl (lv_at hl 0 rfl) ?_
  refine gf_X6_34 cx hw hM dX6_init_629 ?_
  refine lv_bipush (v := 9) hx hb dX6_init_632 (by decide) ?_
  refine lv_bipush (v := 116) hx hb dX6_init_634 (by decide) ?_
  refine lv_bipush (v := 104) hx hb dX6_init_636 (by decide) ?_
  refine lv_bipush (v := 101) hx hb dX6_init_638 (by decide) ?_
  refine lv_bipush (v := 110) hx hb dX6_init_640 (by decide) ?_
  refine lv_iconst (v := 0) hx hb dX6_init_642 (by decide) ?_
  refine lv_iconst (v := 0) hx hb dX6_init_643 (by decide) ?_
  refine lv_iconst (v := 0) hx hb dX6_init_644 (by decide) ?_
  refine r_S_l (As := [.int (116 : Int32), .int (104 : Int32), .int (101 : Int32), .int (110 : Int32), .int (0 : Int32), .int (0 : Int32), .int (0 : Int32)]) (rest := [.int (9 : Int32), .ref (gg_l g (ky 0 9))]) cx hw hf lk_X6_180 (fun q20 hq => k_X6_word l g hg   S19 (116 : Int32) (104 : Int32) (101 : Int32) (110 : Int32) (0 : Int32) (0 : Int32) (0 : Int32) q20 hq) ⟨⟨rfl, rfl⟩, Nat.le_of_ble_eq_true rfl, Nat.le_of_ble_eq_true rfl⟩ rfl hl.1 rfl (Nat.le_of_ble_eq_true rfl) dX6_init_645 ⟨Nat.le_of_ble_eq_true rfl, Nat.le_of_ble_eq_true rfl⟩ (fun q20 H locs hw hf => ?_)
  refine r_last cx hw (hM.2.2.2.1 9 rfl) rfl hf dX6_init_648 (fun S21 H locs hw hf => ?_)
  refine lv_aload_n hx hb dX6_init_649 rfl (lv_at hl 0 rfl) ?_
  refine gf_X6_34 cx hw hM dX6_init_650 ?_
  refine lv_bipush (v := 10) hx hb dX6_init_653 (by decide) ?_
  refine lv_bipush (v := 101) hx hb dX6_init_655 (by decide) ?_
  refine lv_bipush (v := 108) hx hb dX6_init_657 (by decide) ?_
  refine lv_bipush (v := 115) hx hb dX6_init_659 (by decide) ?_
  refine lv_bipush (v := 101) hx hb dX6_init_661 (by decide) ?_
  refine lv_iconst (v := 0) hx hb dX6_init_663 (by decide) ?_
  refine lv_iconst (v := 0) hx hb dX6_init_664 (by decide) ?_
  refine lv_iconst (v := 0) hx hb dX6_init_665 (by decide) ?_
  refine r_S_l (As := [.int (101 : Int32), .int (108 : Int32), .int (115 : Int32), .int (101 : Int32), .int (0 : Int32), .int (0 : Int32), .int (0 : Int32)]) (rest := [.int (10 : Int32), .ref (gg_l g (ky 0 9))]) cx hw hf lk_X6_180 (fun q22 hq => k_X6_word l g hg   S21 (101 : Int32) (108 : Int32) (115 : Int32) (101 : Int32) (0 : Int32) (0 : Int32) (0 : Int32) q22 hq) ⟨⟨rfl, rfl⟩, Nat.le_of_ble_eq_true rfl, Nat.le_of_ble_eq_true rfl⟩ rfl hl.1 rfl (Nat.le_of_ble_eq_true rfl) dX6_init_666 ⟨Nat.le_of_ble_eq_true rfl, Nat.le_of_ble_eq_true rfl⟩ (fun q22 H locs hw hf => ?_)
  refine r_last cx hw (hM.2.2.2.1 9 rfl) rfl hf dX6_init_669 (fun S23 H locs hw hf => ?_)
  refine lv_aload_n hx hb dX6_init_670 rfl (lv_at hl 0 rfl) ?_
  refine gf_X6_34 cx hw hM dX6_init_671 ?_
  refine lv_bipush (v := 11) hx hb dX6_init_674 (by decide) ?_
  refine lv_bipush (v := 109) hx hb dX6_init_676 (by decide) ?_
  refine lv_bipush (v := 105) hx hb dX6_init_678 (by decide) ?_
  refine lv_bipush (v := 110) hx hb dX6_init_680 (by decide) ?_
  refine lv_bipush (v := 117) hx hb dX6_init_682 (by decide) ?_
  refine lv_bipush (v := 116) hx hb dX6_init_684 (by decide) ?_
  refine lv_bipush (v := 101) hx hb dX6_init_686 (by decide) ?_
  refine lv_iconst (v := 0) hx hb dX6_init_688 (by decide) ?_
  refine r_S_l (As := [.int (109 : Int32), .int (105 : Int32), .int (110 : Int32), .int (117 : Int32), .int (116 : Int32), .int (101 : Int32), .int (0 : Int32)]) (rest := [.int (11 : Int32), .ref (gg_l g (ky 0 9))]) cx hw hf lk_X6_180 (fun q24 hq => k_X6_word l g hg   S23 (109 : Int32) (105 : Int32) (110 : Int32) (117 : Int32) (116 : Int32) (101 : Int32) (0 : Int32) q24 hq) ⟨⟨rfl, rfl⟩, Nat.le_of_ble_eq_true rfl, Nat.le_of_ble_eq_true rfl⟩ rfl hl.1 rfl (Nat.le_of_ble_eq_true rfl) dX6_init_689 ⟨Nat.le_of_ble_eq_true rfl, Nat.le_of_ble_eq_true rfl⟩ (fun q24 H locs hw hf => ?_)
  refine r_last cx hw (hM.2.2.2.1 9 rfl) rfl hf dX6_init_692 (fun S25 H locs hw hf => ?_)
  refine lv_aload_n hx hb dX6_init_693 rfl (lv_at hl 0 rfl) ?_
  refine gf_X6_34 cx hw hM dX6_init_694 ?_
  refine lv_bipush (v := 12) hx hb dX6_init_697 (by decide) ?_
  refine lv_bipush (v := 104) hx hb dX6_init_699 (by decide) ?_
  refine lv_bipush (v := 101) hx hb dX6_init_701 (by decide) ?_
  refine lv_bipush (v := 114) hx hb dX6_init_703 (by decide) ?_
  refine lv_bipush (v := 101) hx hb dX6_init_705 (by decide) ?_
  refine lv_iconst (v := 0) hx hb dX6_init_707 (by decide) ?_
  refine lv_iconst (v := 0) hx hb dX6_init_708 (by decide) ?_
  refine lv_iconst (v := 0) hx hb dX6_init_709 (by decide) ?_
  refine r_S_l (As := [.int (104 : Int32), .int (101 : Int32), .int (114 : Int32), .int (101 : Int32), .int (0 : Int32), .int (0 : Int32), .int (0 : Int32)]) (rest := [.int (12 : Int32), .ref (gg_l g (ky 0 9))]) cx hw hf lk_X6_180 (fun q26 hq => k_X6_word l g hg   S25 (104 : Int32) (101 : Int32) (114 : Int32) (101 : Int32) (0 : Int32) (0 : Int32) (0 : Int32) q26 hq) ⟨⟨rfl, rfl⟩, Nat.le_of_ble_eq_true rfl, Nat.le_of_ble_eq_true rfl⟩ rfl hl.1 rfl (Nat.le_of_ble_eq_true rfl) dX6_init_710 ⟨Nat.le_of_ble_eq_true rfl, Nat.le_of_ble_eq_true rfl⟩ (fun q26 H locs hw hf => ?_)
  refine r_last cx hw (hM.2.2.2.1 9 rfl) rfl hf dX6_init_713 (fun S27 H locs hw hf => ?_)
  refine lv_aload_n hx hb dX6_init_714 rfl (lv_at hl 0 rfl) ?_
  refine gf_X6_34 cx hw hM dX6_init_715 ?_
  refine lv_bipush (v := 13) hx hb dX6_init_718 (by decide) ?_
  refine lv_bipush (v := 114) hx hb dX6_init_720 (by decide) ?_
  refine lv_bipush (v := 97) hx hb dX6_init_722 (by decide) ?_
  refine lv_bipush (v := 110) hx hb dX6_init_724 (by decide) ?_
  refine lv_bipush (v := 107) hx hb dX6_init_726 (by decide) ?_
  refine lv_iconst (v := 0) hx hb dX6_init_728 (by decide) ?_
  refine lv_iconst (v := 0) hx hb dX6_init_729 (by decide) ?_
  refine lv_iconst (v := 0) hx hb dX6_init_730 (by decide) ?_
  refine r_S_l (As := [.int (114 : Int32), .int (97 : Int32), .int (110 : Int32), .int (107 : Int32), .int (0 : Int32), .int (0 : Int32), .int (0 : Int32)]) (rest := [.int (13 : Int32), .ref (gg_l g (ky 0 9))]) cx hw hf lk_X6_180 (fun q28 hq => k_X6_word l g hg   S27 (114 : Int32) (97 : Int32) (110 : Int32) (107 : Int32) (0 : Int32) (0 : Int32) (0 : Int32) q28 hq) ⟨⟨rfl, rfl⟩, Nat.le_of_ble_eq_true rfl, Nat.le_of_ble_eq_true rfl⟩ rfl hl.1 rfl (Nat.le_of_ble_eq_true rfl) dX6_init_731 ⟨Nat.le_of_ble_eq_true rfl, Nat.le_of_ble_eq_true rfl⟩ (fun q28 H locs hw hf => ?_)
  refine r_last cx hw (hM.2.2.2.1 9 rfl) rfl hf dX6_init_734 (fun S29 H locs hw hf => ?_)
  refine lv_aload_n hx hb dX6_init_735 rfl (lv_at hl 0 rfl) ?_
  refine gf_X6_34 cx hw hM dX6_init_736 ?_
  refine lv_bipush (v := 14) hx hb dX6_init_739 (by decide) ?_
  refine lv_bipush (v := 110) hx hb dX6_init_741 (by decide) ?_
  refine lv_bipush (v := 117) hx hb dX6_init_743 (by decide) ?_
  refine lv_bipush (v := 109) hx hb dX6_init_745 (by decide) ?_
  refine lv_bipush (v := 98) hx hb dX6_init_747 (by decide) ?_
  refine lv_bipush (v := 101) hx hb dX6_init_749 (by decide) ?_
  refine lv_bipush (v := 114) hx hb dX6_init_751 (by decide) ?_
  refine lv_iconst (v := 0) hx hb dX6_init_753 (by decide) ?_
  refine r_S_l (As := [.int (110 : Int32), .int (117 : Int32), .int (109 : Int32), .int (98 : Int32), .int (101 : Int32), .int (114 : Int32), .int (0 : Int32)]) (rest := [.int (14 : Int32), .ref (gg_l g (ky 0 9))]) cx hw hf lk_X6_180 (fun q30 hq => k_X6_word l g hg   S29 (110 : Int32) (117 : Int32) (109 : Int32) (98 : Int32) (101 : Int32) (114 : Int32) (0 : Int32) q30 hq) ⟨⟨rfl, rfl⟩, Nat.le_of_ble_eq_true rfl, Nat.le_of_ble_eq_true rfl⟩ rfl hl.1 rfl (Nat.le_of_ble_eq_true rfl) dX6_init_754 ⟨Nat.le_of_ble_eq_true rfl, Nat.le_of_ble_eq_true rfl⟩ (fun q30 H locs hw hf => ?_)
  refine r_last cx hw (hM.2.2.2.1 9 rfl) rfl hf dX6_init_757 (fun S31 H locs hw hf => ?_)
  refine lv_aload_n hx hb dX6_init_758 rfl (lv_at hl 0 rfl) ?_
  refine gf_X6_34 cx hw hM dX6_init_759 ?_
  refine lv_bipush (v := 15) hx hb dX6_init_762 (by decide) ?_
  refine lv_bipush (v := 119) hx hb dX6_init_764 (by decide) ?_
  refine lv_bipush (v := 97) hx hb dX6_init_766 (by decide) ?_
  refine lv_bipush (v := 121) hx hb dX6_init_768 (by decide) ?_
  refine lv_bipush (v := 115) hx hb dX6_init_770 (by decide) ?_
  refine lv_iconst (v := 0) hx hb dX6_init_772 (by decide) ?_
  refine lv_iconst (v := 0) hx hb dX6_init_773 (by decide) ?_
  refine lv_iconst (v := 0) hx hb dX6_init_774 (by decide) ?_
  refine r_S_l (As := [.int (119 : Int32), .int (97 : Int32), .int (121 : Int32), .int (115 : Int32), .int (0 : Int32), .int (0 : Int32), .int (0 : Int32)]) (rest := [.int (15 : Int32), .ref (gg_l g (ky 0 9))]) cx hw hf lk_X6_180 (fun q32 hq => k_X6_word l g hg   S31 (119 : Int32) (97 : Int32) (121 : Int32) (115 : Int32) (0 : Int32) (0 : Int32) (0 : Int32) q32 hq) ⟨⟨rfl, rfl⟩, Nat.le_of_ble_eq_true rfl, Nat.le_of_ble_eq_true rfl⟩ rfl hl.1 rfl (Nat.le_of_ble_eq_true rfl) dX6_init_775 ⟨Nat.le_of_ble_eq_true rfl, Nat.le_of_ble_eq_true rfl⟩ (fun q32 H locs hw hf => ?_)
  refine r_last cx hw (hM.2.2.2.1 9 rfl) rfl hf dX6_init_778 (fun S33 H locs hw hf => ?_)
  refine lv_aload_n hx hb dX6_init_779 rfl (lv_at hl 0 rfl) ?_
  refine gf_X6_34 cx hw hM dX6_init_780 ?_
  refine lv_bipush (v := 16) hx hb dX6_init_783 (by decide) ?_
  refine lv_bipush (v := 119) hx hb dX6_init_785 (by decide) ?_
  refine lv_bipush (v := 105) hx hb dX6_init_787 (by decide) ?_
  refine lv_bipush (v := 116) hx hb dX6_init_789 (by decide) ?_
  refine lv_bipush (v := 104) hx hb dX6_init_791 (by decide) ?_
  refine lv_iconst (v := 0) hx hb dX6_init_793 (by decide) ?_
  refine lv_iconst (v := 0) hx hb dX6_init_794 (by decide) ?_
  refine lv_iconst (v := 0) hx hb dX6_init_795 (by decide) ?_
  refine r_S_l (As := [.int (119 : Int32), .int (105 : Int32), .int (116 : Int32), .int (104 : Int32), .int (0 : Int32), .int (0 : Int32), .int (0 : Int32)]) (rest := [.int (16 : Int32), .ref (gg_l g (ky 0 9))]) cx hw hf lk_X6_180 (fun q34 hq => k_X6_word l g hg   S33 (119 : Int32) (105 : Int32) (116 : Int32) (104 : Int32) (0 : Int32) (0 : Int32) (0 : Int32) q34 hq) ⟨⟨rfl, rfl⟩, Nat.le_of_ble_eq_true rfl, Nat.le_of_ble_eq_true rfl⟩ rfl hl.1 rfl (Nat.le_of_ble_eq_true rfl) dX6_init_796 ⟨Nat.le_of_ble_eq_true rfl, Nat.le_of_ble_eq_true rfl⟩ (fun q34 H locs hw hf => ?_)
  refine r_last cx hw (hM.2.2.2.1 9 rfl) rfl hf dX6_init_799 (fun S35 H locs hw hf => ?_)
  refine lv_aload_n hx hb dX6_init_800 rfl (lv_at hl 0 rfl) ?_
  refine r_V_v (As := []) (rest := []) cx hw hf hM.2.1 (by rw [hM.1]; rfl) lk_X6_184 (fun q36 hq => k_X6_begins l g hg  hM S35  q36 hq) ⟨⟨rfl, rfl⟩, Nat.le_of_ble_eq_true rfl, Nat.le_of_ble_eq_true rfl⟩ rfl hl.1 rfl (Nat.le_of_ble_eq_true rfl) dX6_init_801 ⟨Nat.le_of_ble_eq_true rfl, Nat.le_of_ble_eq_true rfl⟩ (fun q36 H locs hw hf => ?_)
  refine lv_aload_n hx hb dX6_init_804 rfl (lv_at hl 0 rfl) ?_
  refine lv_iconst (v := 0) hx hb dX6_init_805 (by decide) ?_
  refine r_V_v (As := [.int (0 : Int32)]) (rest := []) cx hw hf hM.2.1 (by rw [hM.1]; rfl) lk_X6_187 (fun q37 hq => k_X6_keepsRows l g hg  hM q36 (0 : Int32) q37 hq) ⟨⟨rfl, rfl⟩, Nat.le_of_ble_eq_true rfl, Nat.le_of_ble_eq_true rfl⟩ rfl hl.1 rfl (Nat.le_of_ble_eq_true rfl) dX6_init_806 ⟨Nat.le_of_ble_eq_true rfl, Nat.le_of_ble_eq_true rfl⟩ (fun q37 H locs hw hf => ?_)
  exact r_vret cx hw hr hlk hf dX6_init_809
