section LK
variable {p : Program} {l : Launch} {e : Env} {s : State} {m : MethodId} {below : List Frame} {meth : Method} {c : Code} {b L : Nat} {xs : Nat → Int32} {g gm : GG} {S M : St} {H : Heap} {locs : List Loc} {cells slots : Nat} {Q : State → Prop} {ls : Array Slot} {x3 : Int32}
set_option maxRecDepth 100000 in
set_option maxHeartbeats 4000000 in
theorem lc_40 (C0 : lw_At p s m meth c b L xs) (hc : LC g gm s) (hw : RW S M) (h : LSw g gm s S M H locs) (h1 : vp_in (x3 + 1) L) (h2 : vp_in (x3 + 2) L) (h3 : vp_in (x3 + 3) L) (h4 : vp_in (x3 + 4) L) (h5 : vp_in (x3 + 5) L) (hfit : cells + 0 ≤ room_1.cells ∧ slots + 0 ≤ room_1.slots) (hl : lv_has ls 4 [(0, .ref b), (1, .ref (gg_o g 0)), (2, .ref (gg_o gm 0)), (3, .int x3)]) (kk : ∀ (S2 M2 : St) (H2 : Heap) (locs2 : List Loc), RW S2 M2 → LSw g gm s S2 M2 H2 locs2 → W p l e room_1 s m #[Value.ref b] below meth c H2 locs2 cells slots Q (F0 m 1750 ls [])) : W p l e room_1 s m #[Value.ref b] below meth c H locs cells slots Q (F0 m 1638 ls []) := by
  obtain ⟨hx, hb, hr, hml, hown0, hts, hX, hbl, hlocks, hgv⟩ := C0
  have hown : s.vm.findClass RL = some m.cls := hown0
  have htsG : ∀ z ∈ gw_tbl, z.before #[Value.ref b] s = true := fun z hz => hts z (gw_lw z hz)
  have hbA : ¬ (fun z : Nat => s.heap.size ≤ z) b := Nat.not_le.mpr hbl
  obtain ⟨hP, hP2, hS⟩ := h
  obtain ⟨A, kt, sd, hA, hC, hM⟩ := hw
  obtain ⟨v, S2, M2, e1, e2, hw2⟩ := Q_began hA hC hM (xs (x3 + 1).toNatClampNeg) (xs (x3 + 2).toNatClampNeg) (xs (x3 + 3).toNatClampNeg)
  refine lv_aload_n hx hb dL_law_1638 rfl (lv_at hl 1 rfl) ?_
  refine lv_aload_n hx hb dL_law_1639 rfl (lv_at hl 0 rfl) ?_
  refine lv_iload_n hx hb dL_law_1640 rfl (lv_at hl 3 rfl) ?_
  refine lv_iconst (v := 1) hx hb dL_law_1641 (by decide) ?_
  refine lv_iadd hx hb dL_law_1642 ?_
  refine va_sld hx hb hX hbl hbA hS h1 dL_law_1643 ?_
  refine lv_aload_n hx hb dL_law_1644 rfl (lv_at hl 0 rfl) ?_
  refine lv_iload_n hx hb dL_law_1645 rfl (lv_at hl 3 rfl) ?_
  refine lv_iconst (v := 2) hx hb dL_law_1646 (by decide) ?_
  refine lv_iadd hx hb dL_law_1647 ?_
  refine va_sld hx hb hX hbl hbA hS h2 dL_law_1648 ?_
  refine lv_aload_n hx hb dL_law_1649 rfl (lv_at hl 0 rfl) ?_
  refine lv_iload_n hx hb dL_law_1650 rfl (lv_at hl 3 rfl) ?_
  refine lv_iconst (v := 3) hx hb dL_law_1651 (by decide) ?_
  refine lv_iadd hx hb dL_law_1652 ?_
  refine va_sld hx hb hX hbl hbA hS h3 dL_law_1653 ?_
  refine r_L_w (w := wd_C) (g := g) (S := S) (As := [.int (xs (x3 + 1).toNatClampNeg), .int (xs (x3 + 2).toNatClampNeg), .int (xs (x3 + 3).toNatClampNeg)]) (rest := []) (q := (v, S2)) hx hb hml hown htsG hc.2.2.2.2.1 hc.2.2.2.2.2.2.1 hc.1 hP hP2 (LC_1 hc M) hS hc.2.2.2.2.2.2.2.2.1 hc.2.1.1.2.1 (by rw [hc.2.1.1.1]; rfl) lkL_185 (k_X5_began l g hc.1 hc.2.1 S (xs (x3 + 1).toNatClampNeg) (xs (x3 + 2).toNatClampNeg) (xs (x3 + 3).toNatClampNeg) (v, S2) e1) ⟨⟨rfl, rfl⟩, Nat.le_of_ble_eq_true rfl, Nat.le_of_ble_eq_true rfl⟩ rfl hl.1 rfl (Nat.le_of_ble_eq_true rfl) dL_law_1654 hfit (fun H locs hP hP2 hS => ?_)
  refine lv_aload_n hx hb dL_law_1657 rfl (lv_at hl 2 rfl) ?_
  refine lv_aload_n hx hb dL_law_1658 rfl (lv_at hl 0 rfl) ?_
  refine lv_iload_n hx hb dL_law_1659 rfl (lv_at hl 3 rfl) ?_
  refine lv_iconst (v := 1) hx hb dL_law_1660 (by decide) ?_
  refine lv_iadd hx hb dL_law_1661 ?_
  refine va_sld hx hb hX hbl hbA hS h1 dL_law_1662 ?_
  refine lv_aload_n hx hb dL_law_1663 rfl (lv_at hl 0 rfl) ?_
  refine lv_iload_n hx hb dL_law_1664 rfl (lv_at hl 3 rfl) ?_
  refine lv_iconst (v := 2) hx hb dL_law_1665 (by decide) ?_
  refine lv_iadd hx hb dL_law_1666 ?_
  refine va_sld hx hb hX hbl hbA hS h2 dL_law_1667 ?_
  refine lv_aload_n hx hb dL_law_1668 rfl (lv_at hl 0 rfl) ?_
  refine lv_iload_n hx hb dL_law_1669 rfl (lv_at hl 3 rfl) ?_
  refine lv_iconst (v := 3) hx hb dL_law_1670 (by decide) ?_
  refine lv_iadd hx hb dL_law_1671 ?_
  refine va_sld hx hb hX hbl hbA hS h3 dL_law_1672 ?_
  refine r_L_w (w := wd_M) (g := gm) (S := M) (As := [.int (xs (x3 + 1).toNatClampNeg), .int (xs (x3 + 2).toNatClampNeg), .int (xs (x3 + 3).toNatClampNeg)]) (rest := [.int (v)]) (q := (v, M2)) hx hb hml hown htsG hc.2.2.2.2.2.1 trivial hc.2.2.1 hP2 hP (LC_2 hc S2) hS hc.2.2.2.2.2.2.2.2.2 hc.2.2.2.1.2.1 (by rw [hc.2.2.2.1.1]; rfl) lkL_188 (k_X6_began l gm hc.2.2.1 hc.2.2.2.1 M (xs (x3 + 1).toNatClampNeg) (xs (x3 + 2).toNatClampNeg) (xs (x3 + 3).toNatClampNeg) (v, M2) e2) ⟨⟨rfl, rfl⟩, Nat.le_of_ble_eq_true rfl, Nat.le_of_ble_eq_true rfl⟩ rfl hl.1 rfl (Nat.le_of_ble_eq_true rfl) dL_law_1673 hfit (fun H locs hP2 hP hS => ?_)
  refine lv_icmp_eq (tgt := 1750) hx hb dL_law_1676 rfl (fun _ => ?_) (fun hz2 => absurd rfl hz2)
  exact kk _ _ _ _ hw2 ⟨hP, hP2, hS⟩
set_option maxRecDepth 100000 in
set_option maxHeartbeats 4000000 in
theorem lc_41 (C0 : lw_At p s m meth c b L xs) (hc : LC g gm s) (hw : RW S M) (h : LSw g gm s S M H locs) (h1 : vp_in (x3 + 1) L) (h2 : vp_in (x3 + 2) L) (h3 : vp_in (x3 + 3) L) (h4 : vp_in (x3 + 4) L) (h5 : vp_in (x3 + 5) L) (hfit : cells + 0 ≤ room_1.cells ∧ slots + 0 ≤ room_1.slots) (hl : lv_has ls 4 [(0, .ref b), (1, .ref (gg_o g 0)), (2, .ref (gg_o gm 0)), (3, .int x3)]) (kk : ∀ (S2 M2 : St) (H2 : Heap) (locs2 : List Loc), RW S2 M2 → LSw g gm s S2 M2 H2 locs2 → W p l e room_1 s m #[Value.ref b] below meth c H2 locs2 cells slots Q (F0 m 1750 ls [])) : W p l e room_1 s m #[Value.ref b] below meth c H locs cells slots Q (F0 m 1681 ls []) := by
  obtain ⟨hx, hb, hr, hml, hown0, hts, hX, hbl, hlocks, hgv⟩ := C0
  have hown : s.vm.findClass RL = some m.cls := hown0
  have htsG : ∀ z ∈ gw_tbl, z.before #[Value.ref b] s = true := fun z hz => hts z (gw_lw z hz)
  have hbA : ¬ (fun z : Nat => s.heap.size ≤ z) b := Nat.not_le.mpr hbl
  obtain ⟨hP, hP2, hS⟩ := h
  obtain ⟨A, kt, sd, hA, hC, hM⟩ := hw
  obtain ⟨v, S2, M2, e1, e2, hw2⟩ := Q_hold hA hC hM (xs (x3 + 1).toNatClampNeg)
  refine lv_aload_n hx hb dL_law_1681 rfl (lv_at hl 1 rfl) ?_
  refine lv_aload_n hx hb dL_law_1682 rfl (lv_at hl 0 rfl) ?_
  refine lv_iload_n hx hb dL_law_1683 rfl (lv_at hl 3 rfl) ?_
  refine lv_iconst (v := 1) hx hb dL_law_1684 (by decide) ?_
  refine lv_iadd hx hb dL_law_1685 ?_
  refine va_sld hx hb hX hbl hbA hS h1 dL_law_1686 ?_
  refine r_L_w (w := wd_C) (g := g) (S := S) (As := [.int (xs (x3 + 1).toNatClampNeg)]) (rest := []) (q := (v, S2)) hx hb hml hown htsG hc.2.2.2.2.1 hc.2.2.2.2.2.2.1 hc.1 hP hP2 (LC_1 hc M) hS hc.2.2.2.2.2.2.2.2.1 hc.2.1.1.2.1 (by rw [hc.2.1.1.1]; rfl) lkL_189 (k_X5_hold l g hc.1 hc.2.1 S (xs (x3 + 1).toNatClampNeg) (v, S2) e1) ⟨⟨rfl, rfl⟩, Nat.le_of_ble_eq_true rfl, Nat.le_of_ble_eq_true rfl⟩ rfl hl.1 rfl (Nat.le_of_ble_eq_true rfl) dL_law_1687 hfit (fun H locs hP hP2 hS => ?_)
  refine lv_aload_n hx hb dL_law_1690 rfl (lv_at hl 2 rfl) ?_
  refine lv_aload_n hx hb dL_law_1691 rfl (lv_at hl 0 rfl) ?_
  refine lv_iload_n hx hb dL_law_1692 rfl (lv_at hl 3 rfl) ?_
  refine lv_iconst (v := 1) hx hb dL_law_1693 (by decide) ?_
  refine lv_iadd hx hb dL_law_1694 ?_
  refine va_sld hx hb hX hbl hbA hS h1 dL_law_1695 ?_
  refine r_L_w (w := wd_M) (g := gm) (S := M) (As := [.int (xs (x3 + 1).toNatClampNeg)]) (rest := [.int (v)]) (q := (v, M2)) hx hb hml hown htsG hc.2.2.2.2.2.1 trivial hc.2.2.1 hP2 hP (LC_2 hc S2) hS hc.2.2.2.2.2.2.2.2.2 hc.2.2.2.1.2.1 (by rw [hc.2.2.2.1.1]; rfl) lkL_192 (k_X6_hold l gm hc.2.2.1 hc.2.2.2.1 M (xs (x3 + 1).toNatClampNeg) (v, M2) e2) ⟨⟨rfl, rfl⟩, Nat.le_of_ble_eq_true rfl, Nat.le_of_ble_eq_true rfl⟩ rfl hl.1 rfl (Nat.le_of_ble_eq_true rfl) dL_law_1696 hfit (fun H locs hP2 hP hS => ?_)
  refine lv_icmp_eq (tgt := 1750) hx hb dL_law_1699 rfl (fun _ => ?_) (fun hz2 => absurd rfl hz2)
  exact kk _ _ _ _ hw2 ⟨hP, hP2, hS⟩
set_option maxRecDepth 100000 in
set_option maxHeartbeats 4000000 in
theorem lc_42 (C0 : lw_At p s m meth c b L xs) (hc : LC g gm s) (hw : RW S M) (h : LSw g gm s S M H locs) (h1 : vp_in (x3 + 1) L) (h2 : vp_in (x3 + 2) L) (h3 : vp_in (x3 + 3) L) (h4 : vp_in (x3 + 4) L) (h5 : vp_in (x3 + 5) L) (hfit : cells + 0 ≤ room_1.cells ∧ slots + 0 ≤ room_1.slots) (hl : lv_has ls 4 [(0, .ref b), (1, .ref (gg_o g 0)), (2, .ref (gg_o gm 0)), (3, .int x3)]) (kk : ∀ (S2 M2 : St) (H2 : Heap) (locs2 : List Loc), RW S2 M2 → LSw g gm s S2 M2 H2 locs2 → W p l e room_1 s m #[Value.ref b] below meth c H2 locs2 cells slots Q (F0 m 1750 ls [])) : W p l e room_1 s m #[Value.ref b] below meth c H locs cells slots Q (F0 m 1704 ls []) := by
  obtain ⟨hx, hb, hr, hml, hown0, hts, hX, hbl, hlocks, hgv⟩ := C0
  have hown : s.vm.findClass RL = some m.cls := hown0
  have htsG : ∀ z ∈ gw_tbl, z.before #[Value.ref b] s = true := fun z hz => hts z (gw_lw z hz)
  have hbA : ¬ (fun z : Nat => s.heap.size ≤ z) b := Nat.not_le.mpr hbl
  obtain ⟨hP, hP2, hS⟩ := h
  obtain ⟨A, kt, sd, hA, hC, hM⟩ := hw
  obtain ⟨v, S2, M2, e1, e2, hw2⟩ := Q_restore hA hC hM (xs (x3 + 1).toNatClampNeg)
  refine lv_aload_n hx hb dL_law_1704 rfl (lv_at hl 1 rfl) ?_
  refine lv_aload_n hx hb dL_law_1705 rfl (lv_at hl 0 rfl) ?_
  refine lv_iload_n hx hb dL_law_1706 rfl (lv_at hl 3 rfl) ?_
  refine lv_iconst (v := 1) hx hb dL_law_1707 (by decide) ?_
  refine lv_iadd hx hb dL_law_1708 ?_
  refine va_sld hx hb hX hbl hbA hS h1 dL_law_1709 ?_
  refine r_L_w (w := wd_C) (g := g) (S := S) (As := [.int (xs (x3 + 1).toNatClampNeg)]) (rest := []) (q := (v, S2)) hx hb hml hown htsG hc.2.2.2.2.1 hc.2.2.2.2.2.2.1 hc.1 hP hP2 (LC_1 hc M) hS hc.2.2.2.2.2.2.2.2.1 hc.2.1.1.2.1 (by rw [hc.2.1.1.1]; rfl) lkL_193 (k_X5_restore l g hc.1 hc.2.1 S (xs (x3 + 1).toNatClampNeg) (v, S2) e1) ⟨⟨rfl, rfl⟩, Nat.le_of_ble_eq_true rfl, Nat.le_of_ble_eq_true rfl⟩ rfl hl.1 rfl (Nat.le_of_ble_eq_true rfl) dL_law_1710 hfit (fun H locs hP hP2 hS => ?_)
  refine lv_aload_n hx hb dL_law_1713 rfl (lv_at hl 2 rfl) ?_
  refine lv_aload_n hx hb dL_law_1714 rfl (lv_at hl 0 rfl) ?_
  refine lv_iload_n hx hb dL_law_1715 rfl (lv_at hl 3 rfl) ?_
  refine lv_iconst (v := 1) hx hb dL_law_1716 (by decide) ?_
  refine lv_iadd hx hb dL_law_1717 ?_
  refine va_sld hx hb hX hbl hbA hS h1 dL_law_1718 ?_
  refine r_L_w (w := wd_M) (g := gm) (S := M) (As := [.int (xs (x3 + 1).toNatClampNeg)]) (rest := [.int (v)]) (q := (v, M2)) hx hb hml hown htsG hc.2.2.2.2.2.1 trivial hc.2.2.1 hP2 hP (LC_2 hc S2) hS hc.2.2.2.2.2.2.2.2.2 hc.2.2.2.1.2.1 (by rw [hc.2.2.2.1.1]; rfl) lkL_196 (k_X6_restore l gm hc.2.2.1 hc.2.2.2.1 M (xs (x3 + 1).toNatClampNeg) (v, M2) e2) ⟨⟨rfl, rfl⟩, Nat.le_of_ble_eq_true rfl, Nat.le_of_ble_eq_true rfl⟩ rfl hl.1 rfl (Nat.le_of_ble_eq_true rfl) dL_law_1719 hfit (fun H locs hP2 hP hS => ?_)
  refine lv_icmp_eq (tgt := 1750) hx hb dL_law_1722 rfl (fun _ => ?_) (fun hz2 => absurd rfl hz2)
  exact kk _ _ _ _ hw2 ⟨hP, hP2, hS⟩
set_option maxRecDepth 100000 in
set_option maxHeartbeats 4000000 in
theorem lc_43 (C0 : lw_At p s m meth c b L xs) (hc : LC g gm s) (hw : RW S M) (h : LSw g gm s S M H locs) (h1 : vp_in (x3 + 1) L) (h2 : vp_in (x3 + 2) L) (h3 : vp_in (x3 + 3) L) (h4 : vp_in (x3 + 4) L) (h5 : vp_in (x3 + 5) L) (hfit : cells + 0 ≤ room_1.cells ∧ slots + 0 ≤ room_1.slots) (hl : lv_has ls 4 [(0, .ref b), (1, .ref (gg_o g 0)), (2, .ref (gg_o gm 0)), (3, .int x3)]) (kk : ∀ (S2 M2 : St) (H2 : Heap) (locs2 : List Loc), RW S2 M2 → LSw g gm s S2 M2 H2 locs2 → W p l e room_1 s m #[Value.ref b] below meth c H2 locs2 cells slots Q (F0 m 1750 ls [])) : W p l e room_1 s m #[Value.ref b] below meth c H locs cells slots Q (F0 m 1727 ls []) := by
  obtain ⟨hx, hb, hr, hml, hown0, hts, hX, hbl, hlocks, hgv⟩ := C0
  have hown : s.vm.findClass RL = some m.cls := hown0
  have htsG : ∀ z ∈ gw_tbl, z.before #[Value.ref b] s = true := fun z hz => hts z (gw_lw z hz)
  have hbA : ¬ (fun z : Nat => s.heap.size ≤ z) b := Nat.not_le.mpr hbl
  obtain ⟨hP, hP2, hS⟩ := h
  obtain ⟨A, kt, sd, hA, hC, hM⟩ := hw
  obtain ⟨v, S2, M2, e1, e2, hw2⟩ := Q_count hA hC hM (xs (x3 + 1).toNatClampNeg)
  obtain ⟨e1, rS⟩ := pu_s e1
  rw [rS] at hw2
  obtain ⟨e2, rM⟩ := pu_s e2
  rw [rM] at hw2
  refine lv_aload_n hx hb dL_law_1727 rfl (lv_at hl 1 rfl) ?_
  refine lv_aload_n hx hb dL_law_1728 rfl (lv_at hl 0 rfl) ?_
  refine lv_iload_n hx hb dL_law_1729 rfl (lv_at hl 3 rfl) ?_
  refine lv_iconst (v := 1) hx hb dL_law_1730 (by decide) ?_
  refine lv_iadd hx hb dL_law_1731 ?_
  refine va_sld hx hb hX hbl hbA hS h1 dL_law_1732 ?_
  refine r_L_i (w := wd_C) (g := g) (S := S) (As := [.int (xs (x3 + 1).toNatClampNeg)]) (rest := []) (q := v) hx hb hml hown htsG hc.2.2.2.2.1 hc.2.2.2.2.2.2.1 hc.1 hP hP2 (LC_1 hc M) hS hc.2.2.2.2.2.2.2.2.1 hc.2.1.1.2.1 (by rw [hc.2.1.1.1]; rfl) lkL_197 (k_X5_count l g hc.1 hc.2.1 S (xs (x3 + 1).toNatClampNeg) v e1) ⟨⟨rfl, rfl⟩, Nat.le_of_ble_eq_true rfl, Nat.le_of_ble_eq_true rfl⟩ rfl hl.1 rfl (Nat.le_of_ble_eq_true rfl) dL_law_1733 hfit (fun H locs hP hP2 hS => ?_)
  refine lv_aload_n hx hb dL_law_1736 rfl (lv_at hl 2 rfl) ?_
  refine lv_aload_n hx hb dL_law_1737 rfl (lv_at hl 0 rfl) ?_
  refine lv_iload_n hx hb dL_law_1738 rfl (lv_at hl 3 rfl) ?_
  refine lv_iconst (v := 1) hx hb dL_law_1739 (by decide) ?_
  refine lv_iadd hx hb dL_law_1740 ?_
  refine va_sld hx hb hX hbl hbA hS h1 dL_law_1741 ?_
  refine r_L_i (w := wd_M) (g := gm) (S := M) (As := [.int (xs (x3 + 1).toNatClampNeg)]) (rest := [.int (v)]) (q := v) hx hb hml hown htsG hc.2.2.2.2.2.1 trivial hc.2.2.1 hP2 hP (LC_2 hc S) hS hc.2.2.2.2.2.2.2.2.2 hc.2.2.2.1.2.1 (by rw [hc.2.2.2.1.1]; rfl) lkL_200 (k_X6_count l gm hc.2.2.1 hc.2.2.2.1 M (xs (x3 + 1).toNatClampNeg) v e2) ⟨⟨rfl, rfl⟩, Nat.le_of_ble_eq_true rfl, Nat.le_of_ble_eq_true rfl⟩ rfl hl.1 rfl (Nat.le_of_ble_eq_true rfl) dL_law_1742 hfit (fun H locs hP2 hP hS => ?_)
  refine lv_icmp_eq (tgt := 1750) hx hb dL_law_1745 rfl (fun _ => ?_) (fun hz2 => absurd rfl hz2)
  exact kk _ _ _ _ hw2 ⟨hP, hP2, hS⟩
end LK
