/-! THE LAW'S LOOP. -/
theorem ix_6 {L k : Nat} (hL : L ≤ 3072) (h : ¬ nI L - 6 < nI (6 * k)) (hk : 6 * k ≤ L + 5) : 6 * k + 6 ≤ L := by
  by_cases c : 6 ≤ L
  · have e : nI L - 6 = nI (L - 6) := pk_sub (a := L) (b := 6) c
    rw [e] at h
    have h2 : ¬ L - 6 < 6 * k := fun z => h (nI_lt z (by omega))
    omega
  · exfalso
    have hl : L = 0 ∨ L = 1 ∨ L = 2 ∨ L = 3 ∨ L = 4 ∨ L = 5 := by omega
    have h3 : nI L - 6 < 0 := by
      rcases hl with rfl | rfl | rfl | rfl | rfl | rfl <;> decide
    exact h (Int32.lt_of_lt_of_le h3 (nI_pos' (by omega)))
theorem vp_6 {L k j : Nat} (hL : L ≤ 3072) (hk : 6 * k + 6 ≤ L) (hj : j < 6) : vp_in (nI (6 * k) + nI j) L := by
  rw [nI_add]
  exact vp_in_nI (by omega) (by omega)
set_option maxRecDepth 100000 in
set_option maxHeartbeats 4000000 in
theorem law_loop {p : Program} {l : Launch} {e : Env} {s : State} {m : MethodId} {below : List Frame} {meth : Method} {c : Code} {b L : Nat} {xs : Nat → Int32} {g gm : GG} {cells slots : Nat} (hL : L ≤ 3072) (C0 : lw_At p s m meth c b L xs) (hc : LC g gm s) (hfit : cells + 0 ≤ room_1.cells ∧ slots + 0 ≤ room_1.slots) : ∀ (n k : Nat) (S M : St) (H : Heap) (locs : List Loc) (ls : Array Slot), L + 6 ≤ 6 * (k + n) → 6 * k ≤ L + 5 → RW S M → LSw g gm s S M H locs → lv_has ls 4 [(0, .ref b), (1, .ref (gg_o g 0)), (2, .ref (gg_o gm 0)), (3, .int (nI (6 * k)))] → W p l e room_1 s m #[Value.ref b] below meth c H locs cells slots (lw_Z below #[Value.ref b] s) (F0 m 18 ls []) := by
  intro n
  induction n with
  | zero =>
    intro k S M H locs ls h1 h2
    omega
  | succ n ih =>
    intro k S M H locs ls h1 h2 hw h hl
    obtain ⟨hx, hb, hr, hml, hown, hts, hX, hbl, hlocks, hgv⟩ := id C0
    have hbA : ¬ (fun z : Nat => s.heap.size ≤ z) b := Nat.not_le.mpr hbl
    have hS := h.2.2
    refine lv_iload_n hx hb dL_law_18 rfl (lv_at hl 3 rfl) ?_
    refine lv_aload_n hx hb dL_law_19 rfl (lv_at hl 0 rfl) ?_
    refine va_slen hx hb hX hbl hbA hS dL_law_20 ?_
    refine lv_bipush (v := 6) hx hb dL_law_21 (by decide) ?_
    refine lv_isub hx hb dL_law_23 ?_
    refine lv_icmp_gt (tgt := 1756) hx hb dL_law_24 rfl (fun c1 => ?_) (fun c1 => ?_)
    · refine lv_iconst (v := 1) hx hb dL_law_1756 (by decide) ?_
      refine va_forget (fun q hq => hS.2.2 q hq) ?_
      refine W.widen (k := 600000) (n := 7302250) hfit.1 hfit.2 ?_
      exact lw_ret hx hb hr hlocks dL_law_1757
    · have c2 : 6 * k + 6 ≤ L := ix_6 hL (by first | exact c1 | exact fun z => c1 z) h2
      have kk : ∀ (S2 M2 : St) (H2 : Heap) (locs2 : List Loc), RW S2 M2 → LSw g gm s S2 M2 H2 locs2 → W p l e room_1 s m #[Value.ref b] below meth c H2 locs2 cells slots (lw_Z below #[Value.ref b] s) (F0 m 1750 ls []) := fun S2 M2 H2 locs2 hw2 h3 => by
        refine lv_iinc (v := nI (6 * (k + 1))) (lv' := [(3, .int (nI (6 * (k + 1)))), (0, .ref b), (1, .ref (gg_o g 0)), (2, .ref (gg_o gm 0))]) hx hb dL_law_1750 hl (k := 3) rfl (by rw [show Int32.ofInt 6 = nI 6 from rfl, nI_add]; rfl) (by decide) rfl (fun ls hl => ?_)
        refine lv_goto (tgt := 18) hx hb dL_law_1753 rfl ?_
        exact ih (k + 1) S2 M2 H2 locs2 ls (by omega) (by omega) hw2 h3 (lv_sub hl [1, 2, 3, 0] rfl)
      have v0 : vp_in (nI (6 * k)) L := vp_in_nI (by omega) (by omega)
      have v1 : vp_in (nI (6 * k) + 1) L := vp_6 (j := 1) hL c2 (by decide)
      have v2 : vp_in (nI (6 * k) + 2) L := vp_6 (j := 2) hL c2 (by decide)
      have v3 : vp_in (nI (6 * k) + 3) L := vp_6 (j := 3) hL c2 (by decide)
      have v4 : vp_in (nI (6 * k) + 4) L := vp_6 (j := 4) hL c2 (by decide)
      have v5 : vp_in (nI (6 * k) + 5) L := vp_6 (j := 5) hL c2 (by decide)
      refine lv_aload_n hx hb dL_law_27 rfl (lv_at hl 0 rfl) ?_
      refine lv_iload_n hx hb dL_law_28 rfl (lv_at hl 3 rfl) ?_
      refine va_sld hx hb hX hbl hbA hS v0 dL_law_29 ?_
      refine lv_bipush (v := 63) hx hb dL_law_30 (by decide) ?_
      refine lv_iand hx hb dL_law_32 ?_
      refine lv_topi (fun x0 ex0 => ?_)
      by_cases hr0 : x0.toInt < 0 ∨ 43 < x0.toInt
      · exact lv_tableOut hx hb dL_law_33 hr0 (tgt := 1750) rfl (kk S M H locs hw h)
      · have hn0 : ¬ x0 < 0 := fun z => hr0 (Or.inl (by have := Int32.lt_iff_toInt_lt.mp z; simpa using this))
        obtain ⟨j, hj, rfl⟩ := nI_of hn0
        have hj2 : j < 44 := by
          rw [nI_toInt hj] at hr0
          omega
        rcases (show j = 0 ∨ j = 1 ∨ j = 2 ∨ j = 3 ∨ j = 4 ∨ j = 5 ∨ j = 6 ∨ j = 7 ∨ j = 8 ∨ j = 9 ∨ j = 10 ∨ j = 11 ∨ j = 12 ∨ j = 13 ∨ j = 14 ∨ j = 15 ∨ j = 16 ∨ j = 17 ∨ j = 18 ∨ j = 19 ∨ j = 20 ∨ j = 21 ∨ j = 22 ∨ j = 23 ∨ j = 24 ∨ j = 25 ∨ j = 26 ∨ j = 27 ∨ j = 28 ∨ j = 29 ∨ j = 30 ∨ j = 31 ∨ j = 32 ∨ j = 33 ∨ j = 34 ∨ j = 35 ∨ j = 36 ∨ j = 37 ∨ j = 38 ∨ j = 39 ∨ j = 40 ∨ j = 41 ∨ j = 42 ∨ j = 43 by omega) with rfl | rfl | rfl | rfl | rfl | rfl | rfl | rfl | rfl | rfl | rfl | rfl | rfl | rfl | rfl | rfl | rfl | rfl | rfl | rfl | rfl | rfl | rfl | rfl | rfl | rfl | rfl | rfl | rfl | rfl | rfl | rfl | rfl | rfl | rfl | rfl | rfl | rfl | rfl | rfl | rfl | rfl | rfl | rfl
        · exact lv_tableIn hx hb dL_law_33 (by decide) (by decide) (off := 191) rfl (tgt := 224) rfl (lc_0 C0 hc hw h v1 v2 v3 v4 v5 hfit hl kk)
        · exact lv_tableIn hx hb dL_law_33 (by decide) (by decide) (off := 254) rfl (tgt := 287) rfl (lc_1 C0 hc hw h v1 v2 v3 v4 v5 hfit hl kk)
        · exact lv_tableIn hx hb dL_law_33 (by decide) (by decide) (off := 277) rfl (tgt := 310) rfl (lc_2 C0 hc hw h v1 v2 v3 v4 v5 hfit hl kk)
        · exact lv_tableIn hx hb dL_law_33 (by decide) (by decide) (off := 290) rfl (tgt := 323) rfl (lc_3 C0 hc hw h v1 v2 v3 v4 v5 hfit hl kk)
        · exact lv_tableIn hx hb dL_law_33 (by decide) (by decide) (off := 303) rfl (tgt := 336) rfl (lc_4 C0 hc hw h v1 v2 v3 v4 v5 hfit hl kk)
        · exact lv_tableIn hx hb dL_law_33 (by decide) (by decide) (off := 346) rfl (tgt := 379) rfl (lc_5 C0 hc hw h v1 v2 v3 v4 v5 hfit hl kk)
        · exact lv_tableIn hx hb dL_law_33 (by decide) (by decide) (off := 389) rfl (tgt := 422) rfl (lc_6 C0 hc hw h v1 v2 v3 v4 v5 hfit hl kk)
        · exact lv_tableIn hx hb dL_law_33 (by decide) (by decide) (off := 412) rfl (tgt := 445) rfl (lc_7 C0 hc hw h v1 v2 v3 v4 v5 hfit hl kk)
        · exact lv_tableIn hx hb dL_law_33 (by decide) (by decide) (off := 445) rfl (tgt := 478) rfl (lc_8 C0 hc hw h v1 v2 v3 v4 v5 hfit hl kk)
        · exact lv_tableIn hx hb dL_law_33 (by decide) (by decide) (off := 478) rfl (tgt := 511) rfl (lc_9 C0 hc hw h v1 v2 v3 v4 v5 hfit hl kk)
        · exact lv_tableIn hx hb dL_law_33 (by decide) (by decide) (off := 511) rfl (tgt := 544) rfl (lc_10 C0 hc hw h v1 v2 v3 v4 v5 hfit hl kk)
        · exact lv_tableIn hx hb dL_law_33 (by decide) (by decide) (off := 560) rfl (tgt := 593) rfl (lc_11 C0 hc hw h v1 v2 v3 v4 v5 hfit hl kk)
        · exact lv_tableIn hx hb dL_law_33 (by decide) (by decide) (off := 583) rfl (tgt := 616) rfl (lc_12 C0 hc hw h v1 v2 v3 v4 v5 hfit hl kk)
        · exact lv_tableIn hx hb dL_law_33 (by decide) (by decide) (off := 596) rfl (tgt := 629) rfl (lc_13 C0 hc hw h v1 v2 v3 v4 v5 hfit hl kk)
        · exact lv_tableIn hx hb dL_law_33 (by decide) (by decide) (off := 649) rfl (tgt := 682) rfl (lc_14 C0 hc hw h v1 v2 v3 v4 v5 hfit hl kk)
        · exact lv_tableIn hx hb dL_law_33 (by decide) (by decide) (off := 682) rfl (tgt := 715) rfl (lc_15 C0 hc hw h v1 v2 v3 v4 v5 hfit hl kk)
        · exact lv_tableIn hx hb dL_law_33 (by decide) (by decide) (off := 715) rfl (tgt := 748) rfl (lc_16 C0 hc hw h v1 v2 v3 v4 v5 hfit hl kk)
        · exact lv_tableIn hx hb dL_law_33 (by decide) (by decide) (off := 764) rfl (tgt := 797) rfl (lc_17 C0 hc hw h v1 v2 v3 v4 v5 hfit hl kk)
        · exact lv_tableIn hx hb dL_law_33 (by decide) (by decide) (off := 777) rfl (tgt := 810) rfl (lc_18 C0 hc hw h v1 v2 v3 v4 v5 hfit hl kk)
        · exact lv_tableIn hx hb dL_law_33 (by decide) (by decide) (off := 820) rfl (tgt := 853) rfl (lc_19 C0 hc hw h v1 v2 v3 v4 v5 hfit hl kk)
        · exact lv_tableIn hx hb dL_law_33 (by decide) (by decide) (off := 863) rfl (tgt := 896) rfl (lc_20 C0 hc hw h v1 v2 v3 v4 v5 hfit hl kk)
        · exact lv_tableIn hx hb dL_law_33 (by decide) (by decide) (off := 906) rfl (tgt := 939) rfl (lc_21 C0 hc hw h v1 v2 v3 v4 v5 hfit hl kk)
        · exact lv_tableIn hx hb dL_law_33 (by decide) (by decide) (off := 929) rfl (tgt := 962) rfl (lc_22 C0 hc hw h v1 v2 v3 v4 v5 hfit hl kk)
        · exact lv_tableIn hx hb dL_law_33 (by decide) (by decide) (off := 952) rfl (tgt := 985) rfl (lc_23 C0 hc hw h v1 v2 v3 v4 v5 hfit hl kk)
        · exact lv_tableIn hx hb dL_law_33 (by decide) (by decide) (off := 1001) rfl (tgt := 1034) rfl (lc_24 C0 hc hw h v1 v2 v3 v4 v5 hfit hl kk)
        · exact lv_tableIn hx hb dL_law_33 (by decide) (by decide) (off := 1034) rfl (tgt := 1067) rfl (lc_25 C0 hc hw h v1 v2 v3 v4 v5 hfit hl kk)
        · exact lv_tableIn hx hb dL_law_33 (by decide) (by decide) (off := 1067) rfl (tgt := 1100) rfl (lc_26 C0 hc hw h v1 v2 v3 v4 v5 hfit hl kk)
        · exact lv_tableIn hx hb dL_law_33 (by decide) (by decide) (off := 1100) rfl (tgt := 1133) rfl (lc_27 C0 hc hw h v1 v2 v3 v4 v5 hfit hl kk)
        · exact lv_tableIn hx hb dL_law_33 (by decide) (by decide) (off := 1153) rfl (tgt := 1186) rfl (lc_28 C0 hc hw h v1 v2 v3 v4 v5 hfit hl kk)
        · exact lv_tableIn hx hb dL_law_33 (by decide) (by decide) (off := 1186) rfl (tgt := 1219) rfl (lc_29 C0 hc hw h v1 v2 v3 v4 v5 hfit hl kk)
        · exact lv_tableIn hx hb dL_law_33 (by decide) (by decide) (off := 1229) rfl (tgt := 1262) rfl (lc_30 C0 hc hw h v1 v2 v3 v4 v5 hfit hl kk)
        · exact lv_tableIn hx hb dL_law_33 (by decide) (by decide) (off := 1262) rfl (tgt := 1295) rfl (lc_31 C0 hc hw h v1 v2 v3 v4 v5 hfit hl kk)
        · exact lv_tableIn hx hb dL_law_33 (by decide) (by decide) (off := 1305) rfl (tgt := 1338) rfl (lc_32 C0 hc hw h v1 v2 v3 v4 v5 hfit hl kk)
        · exact lv_tableIn hx hb dL_law_33 (by decide) (by decide) (off := 1338) rfl (tgt := 1371) rfl (lc_33 C0 hc hw h v1 v2 v3 v4 v5 hfit hl kk)
        · exact lv_tableIn hx hb dL_law_33 (by decide) (by decide) (off := 1381) rfl (tgt := 1414) rfl (lc_34 C0 hc hw h v1 v2 v3 v4 v5 hfit hl kk)
        · exact lv_tableIn hx hb dL_law_33 (by decide) (by decide) (off := 1424) rfl (tgt := 1457) rfl (lc_35 C0 hc hw h v1 v2 v3 v4 v5 hfit hl kk)
        · exact lv_tableIn hx hb dL_law_33 (by decide) (by decide) (off := 1447) rfl (tgt := 1480) rfl (lc_36 C0 hc hw h v1 v2 v3 v4 v5 hfit hl kk)
        · exact lv_tableIn hx hb dL_law_33 (by decide) (by decide) (off := 1480) rfl (tgt := 1513) rfl (lc_37 C0 hc hw h v1 v2 v3 v4 v5 hfit hl kk)
        · exact lv_tableIn hx hb dL_law_33 (by decide) (by decide) (off := 1523) rfl (tgt := 1556) rfl (lc_38 C0 hc hw h v1 v2 v3 v4 v5 hfit hl kk)
        · exact lv_tableIn hx hb dL_law_33 (by decide) (by decide) (off := 1592) rfl (tgt := 1625) rfl (lc_39 C0 hc hw h v1 v2 v3 v4 v5 hfit hl kk)
        · exact lv_tableIn hx hb dL_law_33 (by decide) (by decide) (off := 1605) rfl (tgt := 1638) rfl (lc_40 C0 hc hw h v1 v2 v3 v4 v5 hfit hl kk)
        · exact lv_tableIn hx hb dL_law_33 (by decide) (by decide) (off := 1648) rfl (tgt := 1681) rfl (lc_41 C0 hc hw h v1 v2 v3 v4 v5 hfit hl kk)
        · exact lv_tableIn hx hb dL_law_33 (by decide) (by decide) (off := 1671) rfl (tgt := 1704) rfl (lc_42 C0 hc hw h v1 v2 v3 v4 v5 hfit hl kk)
        · exact lv_tableIn hx hb dL_law_33 (by decide) (by decide) (off := 1694) rfl (tgt := 1727) rfl (lc_43 C0 hc hw h v1 v2 v3 v4 v5 hfit hl kk)
