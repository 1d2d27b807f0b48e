section LK
variable {p : Program} {l : Launch} {e : Env} {s : State} {m : MethodId} {below : List Frame} {meth : Method} {c : Code} {b L : Nat} {xs : Nat → Int32} {g gm : GG} {S M : St} {H : Heap} {locs : List Loc} {cells slots : Nat} {Q : State → Prop} {ls : Array Slot} {x3 : Int32}
set_option maxRecDepth 100000 in
set_option maxHeartbeats 4000000 in
theorem lc_16 (C0 : lw_At p s m meth c b L xs) (hc : LC g gm s) (hw : RW S M) (h : LSw g gm s S M H locs) (h1 : vp_in (x3 + 1) L) (h2 : vp_in (x3 + 2) L) (h3 : vp_in (x3 + 3) L) (h4 : vp_in (x3 + 4) L) (h5 : vp_in (x3 + 5) L) (hfit : cells + 0 ≤ room_1.cells ∧ slots + 0 ≤ room_1.slots) (hl : lv_has ls 4 [(0, .ref b), (1, .ref (gg_o g 0)), (2, .ref (gg_o gm 0)), (3, .int x3)]) (kk : ∀ (S2 M2 : St) (H2 : Heap) (locs2 : List Loc), RW S2 M2 → LSw g gm s S2 M2 H2 locs2 → W p l e room_1 s m #[Value.ref b] below meth c H2 locs2 cells slots Q (F0 m 1750 ls [])) : W p l e room_1 s m #[Value.ref b] below meth c H locs cells slots Q (F0 m 748 ls []) := by
  obtain ⟨hx, hb, hr, hml, hown0, hts, hX, hbl, hlocks, hgv⟩ := C0
  have hown : s.vm.findClass RL = some m.cls := hown0
  have htsG : ∀ z ∈ gw_tbl, z.before #[Value.ref b] s = true := fun z hz => hts z (gw_lw z hz)
  have hbA : ¬ (fun z : Nat => s.heap.size ≤ z) b := Nat.not_le.mpr hbl
  obtain ⟨hP, hP2, hS⟩ := h
  obtain ⟨A, kt, sd, hA, hC, hM⟩ := hw
  by_cases hz : xs (x3 + 2).toNatClampNeg = 0
  · obtain ⟨v, S2, M2, e1, e2, hw2⟩ := Q_alone hA hC hM (xs (x3 + 1).toNatClampNeg) false
    obtain ⟨e1, rS⟩ := pu_s e1
    rw [rS] at hw2
    refine lv_aload_n hx hb dL_law_748 rfl (lv_at hl 1 rfl) ?_
    refine lv_aload_n hx hb dL_law_749 rfl (lv_at hl 0 rfl) ?_
    refine lv_iload_n hx hb dL_law_750 rfl (lv_at hl 3 rfl) ?_
    refine lv_iconst (v := 1) hx hb dL_law_751 (by decide) ?_
    refine lv_iadd hx hb dL_law_752 ?_
    refine va_sld hx hb hX hbl hbA hS h1 dL_law_753 ?_
    refine lv_aload_n hx hb dL_law_754 rfl (lv_at hl 0 rfl) ?_
    refine lv_iload_n hx hb dL_law_755 rfl (lv_at hl 3 rfl) ?_
    refine lv_iconst (v := 2) hx hb dL_law_756 (by decide) ?_
    refine lv_iadd hx hb dL_law_757 ?_
    refine va_sld hx hb hX hbl hbA hS h2 dL_law_758 ?_
    refine lv_if_eq (tgt := 766) hx hb dL_law_759 rfl (fun _ => ?_) (fun hz2 => absurd hz hz2)
    refine lv_iconst (v := 0) hx hb dL_law_766 (by decide) ?_
    refine r_L_i (w := wd_C) (g := g) (S := S) (As := [.int (xs (x3 + 1).toNatClampNeg), .int 0]) (rest := []) (q := v) hx hb hml hown htsG hc.2.2.2.2.1 hc.2.2.2.2.2.2.1 hc.1 hP hP2 (LC_1 hc M) hS hc.2.2.2.2.2.2.2.2.1 hc.2.1.1.2.1 (by rw [hc.2.1.1.1]; rfl) lkL_87 (k_X5_alone l g hc.1 hc.2.1 S (xs (x3 + 1).toNatClampNeg) (0 : Int32) v e1) ⟨⟨rfl, rfl⟩, Nat.le_of_ble_eq_true rfl, Nat.le_of_ble_eq_true rfl⟩ rfl hl.1 rfl (Nat.le_of_ble_eq_true rfl) dL_law_767 hfit (fun H locs hP hP2 hS => ?_)
    refine lv_aload_n hx hb dL_law_770 rfl (lv_at hl 2 rfl) ?_
    refine lv_aload_n hx hb dL_law_771 rfl (lv_at hl 0 rfl) ?_
    refine lv_iload_n hx hb dL_law_772 rfl (lv_at hl 3 rfl) ?_
    refine lv_iconst (v := 1) hx hb dL_law_773 (by decide) ?_
    refine lv_iadd hx hb dL_law_774 ?_
    refine va_sld hx hb hX hbl hbA hS h1 dL_law_775 ?_
    refine lv_aload_n hx hb dL_law_776 rfl (lv_at hl 0 rfl) ?_
    refine lv_iload_n hx hb dL_law_777 rfl (lv_at hl 3 rfl) ?_
    refine lv_iconst (v := 2) hx hb dL_law_778 (by decide) ?_
    refine lv_iadd hx hb dL_law_779 ?_
    refine va_sld hx hb hX hbl hbA hS h2 dL_law_780 ?_
    refine lv_if_eq (tgt := 788) hx hb dL_law_781 rfl (fun _ => ?_) (fun hz2 => absurd hz hz2)
    refine lv_iconst (v := 0) hx hb dL_law_788 (by decide) ?_
    refine r_L_w (w := wd_M) (g := gm) (S := M) (As := [.int (xs (x3 + 1).toNatClampNeg), .int 0]) (rest := [.int (v)]) (q := (v, M2)) hx hb hml hown htsG hc.2.2.2.2.2.1 trivial hc.2.2.1 hP2 hP (LC_2 hc S) hS hc.2.2.2.2.2.2.2.2.2 hc.2.2.2.1.2.1 (by rw [hc.2.2.2.1.1]; rfl) lkL_91 (k_X6_alone l gm hc.2.2.1 hc.2.2.2.1 M (xs (x3 + 1).toNatClampNeg) (0 : Int32) (v, M2) e2) ⟨⟨rfl, rfl⟩, Nat.le_of_ble_eq_true rfl, Nat.le_of_ble_eq_true rfl⟩ rfl hl.1 rfl (Nat.le_of_ble_eq_true rfl) dL_law_789 hfit (fun H locs hP2 hP hS => ?_)
    refine lv_icmp_eq (tgt := 1750) hx hb dL_law_792 rfl (fun _ => ?_) (fun hz2 => absurd rfl hz2)
    exact kk _ _ _ _ hw2 ⟨hP, hP2, hS⟩
  · obtain ⟨v, S2, M2, e1, e2, hw2⟩ := Q_alone hA hC hM (xs (x3 + 1).toNatClampNeg) true
    obtain ⟨e1, rS⟩ := pu_s e1
    rw [rS] at hw2
    refine lv_aload_n hx hb dL_law_748 rfl (lv_at hl 1 rfl) ?_
    refine lv_aload_n hx hb dL_law_749 rfl (lv_at hl 0 rfl) ?_
    refine lv_iload_n hx hb dL_law_750 rfl (lv_at hl 3 rfl) ?_
    refine lv_iconst (v := 1) hx hb dL_law_751 (by decide) ?_
    refine lv_iadd hx hb dL_law_752 ?_
    refine va_sld hx hb hX hbl hbA hS h1 dL_law_753 ?_
    refine lv_aload_n hx hb dL_law_754 rfl (lv_at hl 0 rfl) ?_
    refine lv_iload_n hx hb dL_law_755 rfl (lv_at hl 3 rfl) ?_
    refine lv_iconst (v := 2) hx hb dL_law_756 (by decide) ?_
    refine lv_iadd hx hb dL_law_757 ?_
    refine va_sld hx hb hX hbl hbA hS h2 dL_law_758 ?_
    refine lv_if_eq (tgt := 766) hx hb dL_law_759 rfl (fun hz2 => absurd hz2 hz) (fun _ => ?_)
    refine lv_iconst (v := 1) hx hb dL_law_762 (by decide) ?_
    refine lv_goto (tgt := 767) hx hb dL_law_763 rfl ?_
    refine r_L_i (w := wd_C) (g := g) (S := S) (As := [.int (xs (x3 + 1).toNatClampNeg), .int 1]) (rest := []) (q := v) hx hb hml hown htsG hc.2.2.2.2.1 hc.2.2.2.2.2.2.1 hc.1 hP hP2 (LC_1 hc M) hS hc.2.2.2.2.2.2.2.2.1 hc.2.1.1.2.1 (by rw [hc.2.1.1.1]; rfl) lkL_87 (k_X5_alone l g hc.1 hc.2.1 S (xs (x3 + 1).toNatClampNeg) (1 : Int32) v e1) ⟨⟨rfl, rfl⟩, Nat.le_of_ble_eq_true rfl, Nat.le_of_ble_eq_true rfl⟩ rfl hl.1 rfl (Nat.le_of_ble_eq_true rfl) dL_law_767 hfit (fun H locs hP hP2 hS => ?_)
    refine lv_aload_n hx hb dL_law_770 rfl (lv_at hl 2 rfl) ?_
    refine lv_aload_n hx hb dL_law_771 rfl (lv_at hl 0 rfl) ?_
    refine lv_iload_n hx hb dL_law_772 rfl (lv_at hl 3 rfl) ?_
    refine lv_iconst (v := 1) hx hb dL_law_773 (by decide) ?_
    refine lv_iadd hx hb dL_law_774 ?_
    refine va_sld hx hb hX hbl hbA hS h1 dL_law_775 ?_
    refine lv_aload_n hx hb dL_law_776 rfl (lv_at hl 0 rfl) ?_
    refine lv_iload_n hx hb dL_law_777 rfl (lv_at hl 3 rfl) ?_
    refine lv_iconst (v := 2) hx hb dL_law_778 (by decide) ?_
    refine lv_iadd hx hb dL_law_779 ?_
    refine va_sld hx hb hX hbl hbA hS h2 dL_law_780 ?_
    refine lv_if_eq (tgt := 788) hx hb dL_law_781 rfl (fun hz2 => absurd hz2 hz) (fun _ => ?_)
    refine lv_iconst (v := 1) hx hb dL_law_784 (by decide) ?_
    refine lv_goto (tgt := 789) hx hb dL_law_785 rfl ?_
    refine r_L_w (w := wd_M) (g := gm) (S := M) (As := [.int (xs (x3 + 1).toNatClampNeg), .int 1]) (rest := [.int (v)]) (q := (v, M2)) hx hb hml hown htsG hc.2.2.2.2.2.1 trivial hc.2.2.1 hP2 hP (LC_2 hc S) hS hc.2.2.2.2.2.2.2.2.2 hc.2.2.2.1.2.1 (by rw [hc.2.2.2.1.1]; rfl) lkL_91 (k_X6_alone l gm hc.2.2.1 hc.2.2.2.1 M (xs (x3 + 1).toNatClampNeg) (1 : Int32) (v, M2) e2) ⟨⟨rfl, rfl⟩, Nat.le_of_ble_eq_true rfl, Nat.le_of_ble_eq_true rfl⟩ rfl hl.1 rfl (Nat.le_of_ble_eq_true rfl) dL_law_789 hfit (fun H locs hP2 hP hS => ?_)
    refine lv_icmp_eq (tgt := 1750) hx hb dL_law_792 rfl (fun _ => ?_) (fun hz2 => absurd rfl hz2)
    exact kk _ _ _ _ hw2 ⟨hP, hP2, hS⟩
set_option maxRecDepth 100000 in
set_option maxHeartbeats 4000000 in
theorem lc_17 (C0 : lw_At p s m meth c b L xs) (hc : LC g gm s) (hw : RW S M) (h : LSw g gm s S M H locs) (h1 : vp_in (x3 + 1) L) (h2 : vp_in (x3 + 2) L) (h3 : vp_in (x3 + 3) L) (h4 : vp_in (x3 + 4) L) (h5 : vp_in (x3 + 5) L) (hfit : cells + 0 ≤ room_1.cells ∧ slots + 0 ≤ room_1.slots) (hl : lv_has ls 4 [(0, .ref b), (1, .ref (gg_o g 0)), (2, .ref (gg_o gm 0)), (3, .int x3)]) (kk : ∀ (S2 M2 : St) (H2 : Heap) (locs2 : List Loc), RW S2 M2 → LSw g gm s S2 M2 H2 locs2 → W p l e room_1 s m #[Value.ref b] below meth c H2 locs2 cells slots Q (F0 m 1750 ls [])) : W p l e room_1 s m #[Value.ref b] below meth c H locs cells slots Q (F0 m 797 ls []) := by
  obtain ⟨hx, hb, hr, hml, hown0, hts, hX, hbl, hlocks, hgv⟩ := C0
  have hown : s.vm.findClass RL = some m.cls := hown0
  have htsG : ∀ z ∈ gw_tbl, z.before #[Value.ref b] s = true := fun z hz => hts z (gw_lw z hz)
  have hbA : ¬ (fun z : Nat => s.heap.size ≤ z) b := Nat.not_le.mpr hbl
  obtain ⟨hP, hP2, hS⟩ := h
  obtain ⟨A, kt, sd, hA, hC, hM⟩ := hw
  obtain ⟨v, S2, M2, e1, e2, hw2⟩ := Q_lonely hA hC hM 
  obtain ⟨e1, rS⟩ := pu_s e1
  rw [rS] at hw2
  refine lv_aload_n hx hb dL_law_797 rfl (lv_at hl 1 rfl) ?_
  refine r_L_i (w := wd_C) (g := g) (S := S) (As := []) (rest := []) (q := v) hx hb hml hown htsG hc.2.2.2.2.1 hc.2.2.2.2.2.2.1 hc.1 hP hP2 (LC_1 hc M) hS hc.2.2.2.2.2.2.2.2.1 hc.2.1.1.2.1 (by rw [hc.2.1.1.1]; rfl) lkL_92 (k_X5_lonely l g hc.1 hc.2.1 S  v e1) ⟨⟨rfl, rfl⟩, Nat.le_of_ble_eq_true rfl, Nat.le_of_ble_eq_true rfl⟩ rfl hl.1 rfl (Nat.le_of_ble_eq_true rfl) dL_law_798 hfit (fun H locs hP hP2 hS => ?_)
  refine lv_aload_n hx hb dL_law_801 rfl (lv_at hl 2 rfl) ?_
  refine r_L_w (w := wd_M) (g := gm) (S := M) (As := []) (rest := [.int (v)]) (q := (v, M2)) hx hb hml hown htsG hc.2.2.2.2.2.1 trivial hc.2.2.1 hP2 hP (LC_2 hc S) hS hc.2.2.2.2.2.2.2.2.2 hc.2.2.2.1.2.1 (by rw [hc.2.2.2.1.1]; rfl) lkL_95 (k_X6_lonely l gm hc.2.2.1 hc.2.2.2.1 M  (v, M2) e2) ⟨⟨rfl, rfl⟩, Nat.le_of_ble_eq_true rfl, Nat.le_of_ble_eq_true rfl⟩ rfl hl.1 rfl (Nat.le_of_ble_eq_true rfl) dL_law_802 hfit (fun H locs hP2 hP hS => ?_)
  refine lv_icmp_eq (tgt := 1750) hx hb dL_law_805 rfl (fun _ => ?_) (fun hz2 => absurd rfl hz2)
  exact kk _ _ _ _ hw2 ⟨hP, hP2, hS⟩
set_option maxRecDepth 100000 in
set_option maxHeartbeats 4000000 in
theorem lc_18 (C0 : lw_At p s m meth c b L xs) (hc : LC g gm s) (hw : RW S M) (h : LSw g gm s S M H locs) (h1 : vp_in (x3 + 1) L) (h2 : vp_in (x3 + 2) L) (h3 : vp_in (x3 + 3) L) (h4 : vp_in (x3 + 4) L) (h5 : vp_in (x3 + 5) L) (hfit : cells + 0 ≤ room_1.cells ∧ slots + 0 ≤ room_1.slots) (hl : lv_has ls 4 [(0, .ref b), (1, .ref (gg_o g 0)), (2, .ref (gg_o gm 0)), (3, .int x3)]) (kk : ∀ (S2 M2 : St) (H2 : Heap) (locs2 : List Loc), RW S2 M2 → LSw g gm s S2 M2 H2 locs2 → W p l e room_1 s m #[Value.ref b] below meth c H2 locs2 cells slots Q (F0 m 1750 ls [])) : W p l e room_1 s m #[Value.ref b] below meth c H locs cells slots Q (F0 m 810 ls []) := by
  obtain ⟨hx, hb, hr, hml, hown0, hts, hX, hbl, hlocks, hgv⟩ := C0
  have hown : s.vm.findClass RL = some m.cls := hown0
  have htsG : ∀ z ∈ gw_tbl, z.before #[Value.ref b] s = true := fun z hz => hts z (gw_lw z hz)
  have hbA : ¬ (fun z : Nat => s.heap.size ≤ z) b := Nat.not_le.mpr hbl
  obtain ⟨hP, hP2, hS⟩ := h
  obtain ⟨A, kt, sd, hA, hC, hM⟩ := hw
  obtain ⟨v, S2, M2, e1, e2, hw2⟩ := Q_together hA hC hM (xs (x3 + 1).toNatClampNeg) (xs (x3 + 2).toNatClampNeg) (xs (x3 + 3).toNatClampNeg)
  obtain ⟨e1, rS⟩ := pu_s e1
  rw [rS] at hw2
  obtain ⟨e2, rM⟩ := pu_s e2
  rw [rM] at hw2
  refine lv_aload_n hx hb dL_law_810 rfl (lv_at hl 1 rfl) ?_
  refine lv_aload_n hx hb dL_law_811 rfl (lv_at hl 0 rfl) ?_
  refine lv_iload_n hx hb dL_law_812 rfl (lv_at hl 3 rfl) ?_
  refine lv_iconst (v := 1) hx hb dL_law_813 (by decide) ?_
  refine lv_iadd hx hb dL_law_814 ?_
  refine va_sld hx hb hX hbl hbA hS h1 dL_law_815 ?_
  refine lv_aload_n hx hb dL_law_816 rfl (lv_at hl 0 rfl) ?_
  refine lv_iload_n hx hb dL_law_817 rfl (lv_at hl 3 rfl) ?_
  refine lv_iconst (v := 2) hx hb dL_law_818 (by decide) ?_
  refine lv_iadd hx hb dL_law_819 ?_
  refine va_sld hx hb hX hbl hbA hS h2 dL_law_820 ?_
  refine lv_aload_n hx hb dL_law_821 rfl (lv_at hl 0 rfl) ?_
  refine lv_iload_n hx hb dL_law_822 rfl (lv_at hl 3 rfl) ?_
  refine lv_iconst (v := 3) hx hb dL_law_823 (by decide) ?_
  refine lv_iadd hx hb dL_law_824 ?_
  refine va_sld hx hb hX hbl hbA hS h3 dL_law_825 ?_
  refine r_L_i (w := wd_C) (g := g) (S := S) (As := [.int (xs (x3 + 1).toNatClampNeg), .int (xs (x3 + 2).toNatClampNeg), .int (xs (x3 + 3).toNatClampNeg)]) (rest := []) (q := v) hx hb hml hown htsG hc.2.2.2.2.1 hc.2.2.2.2.2.2.1 hc.1 hP hP2 (LC_1 hc M) hS hc.2.2.2.2.2.2.2.2.1 hc.2.1.1.2.1 (by rw [hc.2.1.1.1]; rfl) lkL_96 (k_X5_together l g hc.1 hc.2.1 S (xs (x3 + 1).toNatClampNeg) (xs (x3 + 2).toNatClampNeg) (xs (x3 + 3).toNatClampNeg) v e1) ⟨⟨rfl, rfl⟩, Nat.le_of_ble_eq_true rfl, Nat.le_of_ble_eq_true rfl⟩ rfl hl.1 rfl (Nat.le_of_ble_eq_true rfl) dL_law_826 hfit (fun H locs hP hP2 hS => ?_)
  refine lv_aload_n hx hb dL_law_829 rfl (lv_at hl 2 rfl) ?_
  refine lv_aload_n hx hb dL_law_830 rfl (lv_at hl 0 rfl) ?_
  refine lv_iload_n hx hb dL_law_831 rfl (lv_at hl 3 rfl) ?_
  refine lv_iconst (v := 1) hx hb dL_law_832 (by decide) ?_
  refine lv_iadd hx hb dL_law_833 ?_
  refine va_sld hx hb hX hbl hbA hS h1 dL_law_834 ?_
  refine lv_aload_n hx hb dL_law_835 rfl (lv_at hl 0 rfl) ?_
  refine lv_iload_n hx hb dL_law_836 rfl (lv_at hl 3 rfl) ?_
  refine lv_iconst (v := 2) hx hb dL_law_837 (by decide) ?_
  refine lv_iadd hx hb dL_law_838 ?_
  refine va_sld hx hb hX hbl hbA hS h2 dL_law_839 ?_
  refine lv_aload_n hx hb dL_law_840 rfl (lv_at hl 0 rfl) ?_
  refine lv_iload_n hx hb dL_law_841 rfl (lv_at hl 3 rfl) ?_
  refine lv_iconst (v := 3) hx hb dL_law_842 (by decide) ?_
  refine lv_iadd hx hb dL_law_843 ?_
  refine va_sld hx hb hX hbl hbA hS h3 dL_law_844 ?_
  refine r_L_i (w := wd_M) (g := gm) (S := M) (As := [.int (xs (x3 + 1).toNatClampNeg), .int (xs (x3 + 2).toNatClampNeg), .int (xs (x3 + 3).toNatClampNeg)]) (rest := [.int (v)]) (q := v) hx hb hml hown htsG hc.2.2.2.2.2.1 trivial hc.2.2.1 hP2 hP (LC_2 hc S) hS hc.2.2.2.2.2.2.2.2.2 hc.2.2.2.1.2.1 (by rw [hc.2.2.2.1.1]; rfl) lkL_99 (k_X6_together l gm hc.2.2.1 hc.2.2.2.1 M (xs (x3 + 1).toNatClampNeg) (xs (x3 + 2).toNatClampNeg) (xs (x3 + 3).toNatClampNeg) v e2) ⟨⟨rfl, rfl⟩, Nat.le_of_ble_eq_true rfl, Nat.le_of_ble_eq_true rfl⟩ rfl hl.1 rfl (Nat.le_of_ble_eq_true rfl) dL_law_845 hfit (fun H locs hP2 hP hS => ?_)
  refine lv_icmp_eq (tgt := 1750) hx hb dL_law_848 rfl (fun _ => ?_) (fun hz2 => absurd rfl hz2)
  exact kk _ _ _ _ hw2 ⟨hP, hP2, hS⟩
set_option maxRecDepth 100000 in
set_option maxHeartbeats 4000000 in
theorem lc_19 (C0 : lw_At p s m meth c b L xs) (hc : LC g gm s) (hw : RW S M) (h : LSw g gm s S M H locs) (h1 : vp_in (x3 + 1) L) (h2 : vp_in (x3 + 2) L) (h3 : vp_in (x3 + 3) L) (h4 : vp_in (x3 + 4) L) (h5 : vp_in (x3 + 5) L) (hfit : cells + 0 ≤ room_1.cells ∧ slots + 0 ≤ room_1.slots) (hl : lv_has ls 4 [(0, .ref b), (1, .ref (gg_o g 0)), (2, .ref (gg_o gm 0)), (3, .int x3)]) (kk : ∀ (S2 M2 : St) (H2 : Heap) (locs2 : List Loc), RW S2 M2 → LSw g gm s S2 M2 H2 locs2 → W p l e room_1 s m #[Value.ref b] below meth c H2 locs2 cells slots Q (F0 m 1750 ls [])) : W p l e room_1 s m #[Value.ref b] below meth c H locs cells slots Q (F0 m 853 ls []) := by
  obtain ⟨hx, hb, hr, hml, hown0, hts, hX, hbl, hlocks, hgv⟩ := C0
  have hown : s.vm.findClass RL = some m.cls := hown0
  have htsG : ∀ z ∈ gw_tbl, z.before #[Value.ref b] s = true := fun z hz => hts z (gw_lw z hz)
  have hbA : ¬ (fun z : Nat => s.heap.size ≤ z) b := Nat.not_le.mpr hbl
  obtain ⟨hP, hP2, hS⟩ := h
  obtain ⟨A, kt, sd, hA, hC, hM⟩ := hw
  obtain ⟨v, S2, M2, e1, e2, hw2⟩ := Q_facing hA hC hM (xs (x3 + 1).toNatClampNeg) (xs (x3 + 2).toNatClampNeg) (xs (x3 + 3).toNatClampNeg)
  obtain ⟨e1, rS⟩ := pu_s e1
  rw [rS] at hw2
  refine lv_aload_n hx hb dL_law_853 rfl (lv_at hl 1 rfl) ?_
  refine lv_aload_n hx hb dL_law_854 rfl (lv_at hl 0 rfl) ?_
  refine lv_iload_n hx hb dL_law_855 rfl (lv_at hl 3 rfl) ?_
  refine lv_iconst (v := 1) hx hb dL_law_856 (by decide) ?_
  refine lv_iadd hx hb dL_law_857 ?_
  refine va_sld hx hb hX hbl hbA hS h1 dL_law_858 ?_
  refine lv_aload_n hx hb dL_law_859 rfl (lv_at hl 0 rfl) ?_
  refine lv_iload_n hx hb dL_law_860 rfl (lv_at hl 3 rfl) ?_
  refine lv_iconst (v := 2) hx hb dL_law_861 (by decide) ?_
  refine lv_iadd hx hb dL_law_862 ?_
  refine va_sld hx hb hX hbl hbA hS h2 dL_law_863 ?_
  refine lv_aload_n hx hb dL_law_864 rfl (lv_at hl 0 rfl) ?_
  refine lv_iload_n hx hb dL_law_865 rfl (lv_at hl 3 rfl) ?_
  refine lv_iconst (v := 3) hx hb dL_law_866 (by decide) ?_
  refine lv_iadd hx hb dL_law_867 ?_
  refine va_sld hx hb hX hbl hbA hS h3 dL_law_868 ?_
  refine r_L_i (w := wd_C) (g := g) (S := S) (As := [.int (xs (x3 + 1).toNatClampNeg), .int (xs (x3 + 2).toNatClampNeg), .int (xs (x3 + 3).toNatClampNeg)]) (rest := []) (q := v) hx hb hml hown htsG hc.2.2.2.2.1 hc.2.2.2.2.2.2.1 hc.1 hP hP2 (LC_1 hc M) hS hc.2.2.2.2.2.2.2.2.1 hc.2.1.1.2.1 (by rw [hc.2.1.1.1]; rfl) lkL_100 (k_X5_facing l g hc.1 hc.2.1 S (xs (x3 + 1).toNatClampNeg) (xs (x3 + 2).toNatClampNeg) (xs (x3 + 3).toNatClampNeg) v e1) ⟨⟨rfl, rfl⟩, Nat.le_of_ble_eq_true rfl, Nat.le_of_ble_eq_true rfl⟩ rfl hl.1 rfl (Nat.le_of_ble_eq_true rfl) dL_law_869 hfit (fun H locs hP hP2 hS => ?_)
  refine lv_aload_n hx hb dL_law_872 rfl (lv_at hl 2 rfl) ?_
  refine lv_aload_n hx hb dL_law_873 rfl (lv_at hl 0 rfl) ?_
  refine lv_iload_n hx hb dL_law_874 rfl (lv_at hl 3 rfl) ?_
  refine lv_iconst (v := 1) hx hb dL_law_875 (by decide) ?_
  refine lv_iadd hx hb dL_law_876 ?_
  refine va_sld hx hb hX hbl hbA hS h1 dL_law_877 ?_
  refine lv_aload_n hx hb dL_law_878 rfl (lv_at hl 0 rfl) ?_
  refine lv_iload_n hx hb dL_law_879 rfl (lv_at hl 3 rfl) ?_
  refine lv_iconst (v := 2) hx hb dL_law_880 (by decide) ?_
  refine lv_iadd hx hb dL_law_881 ?_
  refine va_sld hx hb hX hbl hbA hS h2 dL_law_882 ?_
  refine lv_aload_n hx hb dL_law_883 rfl (lv_at hl 0 rfl) ?_
  refine lv_iload_n hx hb dL_law_884 rfl (lv_at hl 3 rfl) ?_
  refine lv_iconst (v := 3) hx hb dL_law_885 (by decide) ?_
  refine lv_iadd hx hb dL_law_886 ?_
  refine va_sld hx hb hX hbl hbA hS h3 dL_law_887 ?_
  refine r_L_w (w := wd_M) (g := gm) (S := M) (As := [.int (xs (x3 + 1).toNatClampNeg), .int (xs (x3 + 2).toNatClampNeg), .int (xs (x3 + 3).toNatClampNeg)]) (rest := [.int (v)]) (q := (v, M2)) hx hb hml hown htsG hc.2.2.2.2.2.1 trivial hc.2.2.1 hP2 hP (LC_2 hc S) hS hc.2.2.2.2.2.2.2.2.2 hc.2.2.2.1.2.1 (by rw [hc.2.2.2.1.1]; rfl) lkL_103 (k_X6_facing l gm hc.2.2.1 hc.2.2.2.1 M (xs (x3 + 1).toNatClampNeg) (xs (x3 + 2).toNatClampNeg) (xs (x3 + 3).toNatClampNeg) (v, M2) e2) ⟨⟨rfl, rfl⟩, Nat.le_of_ble_eq_true rfl, Nat.le_of_ble_eq_true rfl⟩ rfl hl.1 rfl (Nat.le_of_ble_eq_true rfl) dL_law_888 hfit (fun H locs hP2 hP hS => ?_)
  refine lv_icmp_eq (tgt := 1750) hx hb dL_law_891 rfl (fun _ => ?_) (fun hz2 => absurd rfl hz2)
  exact kk _ _ _ _ hw2 ⟨hP, hP2, hS⟩
set_option maxRecDepth 100000 in
set_option maxHeartbeats 4000000 in
theorem lc_20 (C0 : lw_At p s m meth c b L xs) (hc : LC g gm s) (hw : RW S M) (h : LSw g gm s S M H locs) (h1 : vp_in (x3 + 1) L) (h2 : vp_in (x3 + 2) L) (h3 : vp_in (x3 + 3) L) (h4 : vp_in (x3 + 4) L) (h5 : vp_in (x3 + 5) L) (hfit : cells + 0 ≤ room_1.cells ∧ slots + 0 ≤ room_1.slots) (hl : lv_has ls 4 [(0, .ref b), (1, .ref (gg_o g 0)), (2, .ref (gg_o gm 0)), (3, .int x3)]) (kk : ∀ (S2 M2 : St) (H2 : Heap) (locs2 : List Loc), RW S2 M2 → LSw g gm s S2 M2 H2 locs2 → W p l e room_1 s m #[Value.ref b] below meth c H2 locs2 cells slots Q (F0 m 1750 ls [])) : W p l e room_1 s m #[Value.ref b] below meth c H locs cells slots Q (F0 m 896 ls []) := by
  obtain ⟨hx, hb, hr, hml, hown0, hts, hX, hbl, hlocks, hgv⟩ := C0
  have hown : s.vm.findClass RL = some m.cls := hown0
  have htsG : ∀ z ∈ gw_tbl, z.before #[Value.ref b] s = true := fun z hz => hts z (gw_lw z hz)
  have hbA : ¬ (fun z : Nat => s.heap.size ≤ z) b := Nat.not_le.mpr hbl
  obtain ⟨hP, hP2, hS⟩ := h
  obtain ⟨A, kt, sd, hA, hC, hM⟩ := hw
  obtain ⟨v, S2, M2, e1, e2, hw2⟩ := Q_glimpses hA hC hM (xs (x3 + 1).toNatClampNeg) (xs (x3 + 2).toNatClampNeg) (xs (x3 + 3).toNatClampNeg)
  obtain ⟨e1, rS⟩ := pu_s e1
  rw [rS] at hw2
  refine lv_aload_n hx hb dL_law_896 rfl (lv_at hl 1 rfl) ?_
  refine lv_aload_n hx hb dL_law_897 rfl (lv_at hl 0 rfl) ?_
  refine lv_iload_n hx hb dL_law_898 rfl (lv_at hl 3 rfl) ?_
  refine lv_iconst (v := 1) hx hb dL_law_899 (by decide) ?_
  refine lv_iadd hx hb dL_law_900 ?_
  refine va_sld hx hb hX hbl hbA hS h1 dL_law_901 ?_
  refine lv_aload_n hx hb dL_law_902 rfl (lv_at hl 0 rfl) ?_
  refine lv_iload_n hx hb dL_law_903 rfl (lv_at hl 3 rfl) ?_
  refine lv_iconst (v := 2) hx hb dL_law_904 (by decide) ?_
  refine lv_iadd hx hb dL_law_905 ?_
  refine va_sld hx hb hX hbl hbA hS h2 dL_law_906 ?_
  refine lv_aload_n hx hb dL_law_907 rfl (lv_at hl 0 rfl) ?_
  refine lv_iload_n hx hb dL_law_908 rfl (lv_at hl 3 rfl) ?_
  refine lv_iconst (v := 3) hx hb dL_law_909 (by decide) ?_
  refine lv_iadd hx hb dL_law_910 ?_
  refine va_sld hx hb hX hbl hbA hS h3 dL_law_911 ?_
  refine r_L_i (w := wd_C) (g := g) (S := S) (As := [.int (xs (x3 + 1).toNatClampNeg), .int (xs (x3 + 2).toNatClampNeg), .int (xs (x3 + 3).toNatClampNeg)]) (rest := []) (q := v) hx hb hml hown htsG hc.2.2.2.2.1 hc.2.2.2.2.2.2.1 hc.1 hP hP2 (LC_1 hc M) hS hc.2.2.2.2.2.2.2.2.1 hc.2.1.1.2.1 (by rw [hc.2.1.1.1]; rfl) lkL_104 (k_X5_glimpses l g hc.1 hc.2.1 S (xs (x3 + 1).toNatClampNeg) (xs (x3 + 2).toNatClampNeg) (xs (x3 + 3).toNatClampNeg) v e1) ⟨⟨rfl, rfl⟩, Nat.le_of_ble_eq_true rfl, Nat.le_of_ble_eq_true rfl⟩ rfl hl.1 rfl (Nat.le_of_ble_eq_true rfl) dL_law_912 hfit (fun H locs hP hP2 hS => ?_)
  refine lv_aload_n hx hb dL_law_915 rfl (lv_at hl 2 rfl) ?_
  refine lv_aload_n hx hb dL_law_916 rfl (lv_at hl 0 rfl) ?_
  refine lv_iload_n hx hb dL_law_917 rfl (lv_at hl 3 rfl) ?_
  refine lv_iconst (v := 1) hx hb dL_law_918 (by decide) ?_
  refine lv_iadd hx hb dL_law_919 ?_
  refine va_sld hx hb hX hbl hbA hS h1 dL_law_920 ?_
  refine lv_aload_n hx hb dL_law_921 rfl (lv_at hl 0 rfl) ?_
  refine lv_iload_n hx hb dL_law_922 rfl (lv_at hl 3 rfl) ?_
  refine lv_iconst (v := 2) hx hb dL_law_923 (by decide) ?_
  refine lv_iadd hx hb dL_law_924 ?_
  refine va_sld hx hb hX hbl hbA hS h2 dL_law_925 ?_
  refine lv_aload_n hx hb dL_law_926 rfl (lv_at hl 0 rfl) ?_
  refine lv_iload_n hx hb dL_law_927 rfl (lv_at hl 3 rfl) ?_
  refine lv_iconst (v := 3) hx hb dL_law_928 (by decide) ?_
  refine lv_iadd hx hb dL_law_929 ?_
  refine va_sld hx hb hX hbl hbA hS h3 dL_law_930 ?_
  refine r_L_w (w := wd_M) (g := gm) (S := M) (As := [.int (xs (x3 + 1).toNatClampNeg), .int (xs (x3 + 2).toNatClampNeg), .int (xs (x3 + 3).toNatClampNeg)]) (rest := [.int (v)]) (q := (v, M2)) hx hb hml hown htsG hc.2.2.2.2.2.1 trivial hc.2.2.1 hP2 hP (LC_2 hc S) hS hc.2.2.2.2.2.2.2.2.2 hc.2.2.2.1.2.1 (by rw [hc.2.2.2.1.1]; rfl) lkL_107 (k_X6_glimpses l gm hc.2.2.1 hc.2.2.2.1 M (xs (x3 + 1).toNatClampNeg) (xs (x3 + 2).toNatClampNeg) (xs (x3 + 3).toNatClampNeg) (v, M2) e2) ⟨⟨rfl, rfl⟩, Nat.le_of_ble_eq_true rfl, Nat.le_of_ble_eq_true rfl⟩ rfl hl.1 rfl (Nat.le_of_ble_eq_true rfl) dL_law_931 hfit (fun H locs hP2 hP hS => ?_)
  refine lv_icmp_eq (tgt := 1750) hx hb dL_law_934 rfl (fun _ => ?_) (fun hz2 => absurd rfl hz2)
  exact kk _ _ _ _ hw2 ⟨hP, hP2, hS⟩
set_option maxRecDepth 100000 in
set_option maxHeartbeats 4000000 in
theorem lc_21 (C0 : lw_At p s m meth c b L xs) (hc : LC g gm s) (hw : RW S M) (h : LSw g gm s S M H locs) (h1 : vp_in (x3 + 1) L) (h2 : vp_in (x3 + 2) L) (h3 : vp_in (x3 + 3) L) (h4 : vp_in (x3 + 4) L) (h5 : vp_in (x3 + 5) L) (hfit : cells + 0 ≤ room_1.cells ∧ slots + 0 ≤ room_1.slots) (hl : lv_has ls 4 [(0, .ref b), (1, .ref (gg_o g 0)), (2, .ref (gg_o gm 0)), (3, .int x3)]) (kk : ∀ (S2 M2 : St) (H2 : Heap) (locs2 : List Loc), RW S2 M2 → LSw g gm s S2 M2 H2 locs2 → W p l e room_1 s m #[Value.ref b] below meth c H2 locs2 cells slots Q (F0 m 1750 ls [])) : W p l e room_1 s m #[Value.ref b] below meth c H locs cells slots Q (F0 m 939 ls []) := by
  obtain ⟨hx, hb, hr, hml, hown0, hts, hX, hbl, hlocks, hgv⟩ := C0
  have hown : s.vm.findClass RL = some m.cls := hown0
  have htsG : ∀ z ∈ gw_tbl, z.before #[Value.ref b] s = true := fun z hz => hts z (gw_lw z hz)
  have hbA : ¬ (fun z : Nat => s.heap.size ≤ z) b := Nat.not_le.mpr hbl
  obtain ⟨hP, hP2, hS⟩ := h
  obtain ⟨A, kt, sd, hA, hC, hM⟩ := hw
  obtain ⟨v, S2, M2, e1, e2, hw2⟩ := Q_ghosts hA hC hM (xs (x3 + 1).toNatClampNeg)
  obtain ⟨e1, rS⟩ := pu_s e1
  rw [rS] at hw2
  refine lv_aload_n hx hb dL_law_939 rfl (lv_at hl 1 rfl) ?_
  refine lv_aload_n hx hb dL_law_940 rfl (lv_at hl 0 rfl) ?_
  refine lv_iload_n hx hb dL_law_941 rfl (lv_at hl 3 rfl) ?_
  refine lv_iconst (v := 1) hx hb dL_law_942 (by decide) ?_
  refine lv_iadd hx hb dL_law_943 ?_
  refine va_sld hx hb hX hbl hbA hS h1 dL_law_944 ?_
  refine r_L_i (w := wd_C) (g := g) (S := S) (As := [.int (xs (x3 + 1).toNatClampNeg)]) (rest := []) (q := v) hx hb hml hown htsG hc.2.2.2.2.1 hc.2.2.2.2.2.2.1 hc.1 hP hP2 (LC_1 hc M) hS hc.2.2.2.2.2.2.2.2.1 hc.2.1.1.2.1 (by rw [hc.2.1.1.1]; rfl) lkL_108 (k_X5_ghosts l g hc.1 hc.2.1 S (xs (x3 + 1).toNatClampNeg) v e1) ⟨⟨rfl, rfl⟩, Nat.le_of_ble_eq_true rfl, Nat.le_of_ble_eq_true rfl⟩ rfl hl.1 rfl (Nat.le_of_ble_eq_true rfl) dL_law_945 hfit (fun H locs hP hP2 hS => ?_)
  refine lv_aload_n hx hb dL_law_948 rfl (lv_at hl 2 rfl) ?_
  refine lv_aload_n hx hb dL_law_949 rfl (lv_at hl 0 rfl) ?_
  refine lv_iload_n hx hb dL_law_950 rfl (lv_at hl 3 rfl) ?_
  refine lv_iconst (v := 1) hx hb dL_law_951 (by decide) ?_
  refine lv_iadd hx hb dL_law_952 ?_
  refine va_sld hx hb hX hbl hbA hS h1 dL_law_953 ?_
  refine r_L_w (w := wd_M) (g := gm) (S := M) (As := [.int (xs (x3 + 1).toNatClampNeg)]) (rest := [.int (v)]) (q := (v, M2)) hx hb hml hown htsG hc.2.2.2.2.2.1 trivial hc.2.2.1 hP2 hP (LC_2 hc S) hS hc.2.2.2.2.2.2.2.2.2 hc.2.2.2.1.2.1 (by rw [hc.2.2.2.1.1]; rfl) lkL_111 (k_X6_ghosts l gm hc.2.2.1 hc.2.2.2.1 M (xs (x3 + 1).toNatClampNeg) (v, M2) e2) ⟨⟨rfl, rfl⟩, Nat.le_of_ble_eq_true rfl, Nat.le_of_ble_eq_true rfl⟩ rfl hl.1 rfl (Nat.le_of_ble_eq_true rfl) dL_law_954 hfit (fun H locs hP2 hP hS => ?_)
  refine lv_icmp_eq (tgt := 1750) hx hb dL_law_957 rfl (fun _ => ?_) (fun hz2 => absurd rfl hz2)
  exact kk _ _ _ _ hw2 ⟨hP, hP2, hS⟩
set_option maxRecDepth 100000 in
set_option maxHeartbeats 4000000 in
theorem lc_22 (C0 : lw_At p s m meth c b L xs) (hc : LC g gm s) (hw : RW S M) (h : LSw g gm s S M H locs) (h1 : vp_in (x3 + 1) L) (h2 : vp_in (x3 + 2) L) (h3 : vp_in (x3 + 3) L) (h4 : vp_in (x3 + 4) L) (h5 : vp_in (x3 + 5) L) (hfit : cells + 0 ≤ room_1.cells ∧ slots + 0 ≤ room_1.slots) (hl : lv_has ls 4 [(0, .ref b), (1, .ref (gg_o g 0)), (2, .ref (gg_o gm 0)), (3, .int x3)]) (kk : ∀ (S2 M2 : St) (H2 : Heap) (locs2 : List Loc), RW S2 M2 → LSw g gm s S2 M2 H2 locs2 → W p l e room_1 s m #[Value.ref b] below meth c H2 locs2 cells slots Q (F0 m 1750 ls [])) : W p l e room_1 s m #[Value.ref b] below meth c H locs cells slots Q (F0 m 962 ls []) := by
  obtain ⟨hx, hb, hr, hml, hown0, hts, hX, hbl, hlocks, hgv⟩ := C0
  have hown : s.vm.findClass RL = some m.cls := hown0
  have htsG : ∀ z ∈ gw_tbl, z.before #[Value.ref b] s = true := fun z hz => hts z (gw_lw z hz)
  have hbA : ¬ (fun z : Nat => s.heap.size ≤ z) b := Nat.not_le.mpr hbl
  obtain ⟨hP, hP2, hS⟩ := h
  obtain ⟨A, kt, sd, hA, hC, hM⟩ := hw
  obtain ⟨v, S2, M2, e1, e2, hw2⟩ := Q_oldest hA hC hM (xs (x3 + 1).toNatClampNeg)
  obtain ⟨e1, rS⟩ := pu_s e1
  rw [rS] at hw2
  refine lv_aload_n hx hb dL_law_962 rfl (lv_at hl 1 rfl) ?_
  refine lv_aload_n hx hb dL_law_963 rfl (lv_at hl 0 rfl) ?_
  refine lv_iload_n hx hb dL_law_964 rfl (lv_at hl 3 rfl) ?_
  refine lv_iconst (v := 1) hx hb dL_law_965 (by decide) ?_
  refine lv_iadd hx hb dL_law_966 ?_
  refine va_sld hx hb hX hbl hbA hS h1 dL_law_967 ?_
  refine r_L_i (w := wd_C) (g := g) (S := S) (As := [.int (xs (x3 + 1).toNatClampNeg)]) (rest := []) (q := v) hx hb hml hown htsG hc.2.2.2.2.1 hc.2.2.2.2.2.2.1 hc.1 hP hP2 (LC_1 hc M) hS hc.2.2.2.2.2.2.2.2.1 hc.2.1.1.2.1 (by rw [hc.2.1.1.1]; rfl) lkL_112 (k_X5_oldest l g hc.1 hc.2.1 S (xs (x3 + 1).toNatClampNeg) v e1) ⟨⟨rfl, rfl⟩, Nat.le_of_ble_eq_true rfl, Nat.le_of_ble_eq_true rfl⟩ rfl hl.1 rfl (Nat.le_of_ble_eq_true rfl) dL_law_968 hfit (fun H locs hP hP2 hS => ?_)
  refine lv_aload_n hx hb dL_law_971 rfl (lv_at hl 2 rfl) ?_
  refine lv_aload_n hx hb dL_law_972 rfl (lv_at hl 0 rfl) ?_
  refine lv_iload_n hx hb dL_law_973 rfl (lv_at hl 3 rfl) ?_
  refine lv_iconst (v := 1) hx hb dL_law_974 (by decide) ?_
  refine lv_iadd hx hb dL_law_975 ?_
  refine va_sld hx hb hX hbl hbA hS h1 dL_law_976 ?_
  refine r_L_w (w := wd_M) (g := gm) (S := M) (As := [.int (xs (x3 + 1).toNatClampNeg)]) (rest := [.int (v)]) (q := (v, M2)) hx hb hml hown htsG hc.2.2.2.2.2.1 trivial hc.2.2.1 hP2 hP (LC_2 hc S) hS hc.2.2.2.2.2.2.2.2.2 hc.2.2.2.1.2.1 (by rw [hc.2.2.2.1.1]; rfl) lkL_115 (k_X6_oldest l gm hc.2.2.1 hc.2.2.2.1 M (xs (x3 + 1).toNatClampNeg) (v, M2) e2) ⟨⟨rfl, rfl⟩, Nat.le_of_ble_eq_true rfl, Nat.le_of_ble_eq_true rfl⟩ rfl hl.1 rfl (Nat.le_of_ble_eq_true rfl) dL_law_977 hfit (fun H locs hP2 hP hS => ?_)
  refine lv_icmp_eq (tgt := 1750) hx hb dL_law_980 rfl (fun _ => ?_) (fun hz2 => absurd rfl hz2)
  exact kk _ _ _ _ hw2 ⟨hP, hP2, hS⟩
set_option maxRecDepth 100000 in
set_option maxHeartbeats 4000000 in
theorem lc_23 (C0 : lw_At p s m meth c b L xs) (hc : LC g gm s) (hw : RW S M) (h : LSw g gm s S M H locs) (h1 : vp_in (x3 + 1) L) (h2 : vp_in (x3 + 2) L) (h3 : vp_in (x3 + 3) L) (h4 : vp_in (x3 + 4) L) (h5 : vp_in (x3 + 5) L) (hfit : cells + 0 ≤ room_1.cells ∧ slots + 0 ≤ room_1.slots) (hl : lv_has ls 4 [(0, .ref b), (1, .ref (gg_o g 0)), (2, .ref (gg_o gm 0)), (3, .int x3)]) (kk : ∀ (S2 M2 : St) (H2 : Heap) (locs2 : List Loc), RW S2 M2 → LSw g gm s S2 M2 H2 locs2 → W p l e room_1 s m #[Value.ref b] below meth c H2 locs2 cells slots Q (F0 m 1750 ls [])) : W p l e room_1 s m #[Value.ref b] below meth c H locs cells slots Q (F0 m 985 ls []) := by
  obtain ⟨hx, hb, hr, hml, hown0, hts, hX, hbl, hlocks, hgv⟩ := C0
  have hown : s.vm.findClass RL = some m.cls := hown0
  have htsG : ∀ z ∈ gw_tbl, z.before #[Value.ref b] s = true := fun z hz => hts z (gw_lw z hz)
  have hbA : ¬ (fun z : Nat => s.heap.size ≤ z) b := Nat.not_le.mpr hbl
  obtain ⟨hP, hP2, hS⟩ := h
  obtain ⟨A, kt, sd, hA, hC, hM⟩ := hw
  by_cases hz : xs (x3 + 2).toNatClampNeg = 0
  · obtain ⟨v, S2, M2, e1, e2, hw2⟩ := Q_shown hA hC hM (xs (x3 + 1).toNatClampNeg) false
    refine lv_aload_n hx hb dL_law_985 rfl (lv_at hl 1 rfl) ?_
    refine lv_aload_n hx hb dL_law_986 rfl (lv_at hl 0 rfl) ?_
    refine lv_iload_n hx hb dL_law_987 rfl (lv_at hl 3 rfl) ?_
    refine lv_iconst (v := 1) hx hb dL_law_988 (by decide) ?_
    refine lv_iadd hx hb dL_law_989 ?_
    refine va_sld hx hb hX hbl hbA hS h1 dL_law_990 ?_
    refine lv_aload_n hx hb dL_law_991 rfl (lv_at hl 0 rfl) ?_
    refine lv_iload_n hx hb dL_law_992 rfl (lv_at hl 3 rfl) ?_
    refine lv_iconst (v := 2) hx hb dL_law_993 (by decide) ?_
    refine lv_iadd hx hb dL_law_994 ?_
    refine va_sld hx hb hX hbl hbA hS h2 dL_law_995 ?_
    refine lv_if_eq (tgt := 1003) hx hb dL_law_996 rfl (fun _ => ?_) (fun hz2 => absurd hz hz2)
    refine lv_iconst (v := 0) hx hb dL_law_1003 (by decide) ?_
    refine r_L_w (w := wd_C) (g := g) (S := S) (As := [.int (xs (x3 + 1).toNatClampNeg), .int 0]) (rest := []) (q := (v, S2)) hx hb hml hown htsG hc.2.2.2.2.1 hc.2.2.2.2.2.2.1 hc.1 hP hP2 (LC_1 hc M) hS hc.2.2.2.2.2.2.2.2.1 hc.2.1.1.2.1 (by rw [hc.2.1.1.1]; rfl) lkL_116 (k_X5_shown l g hc.1 hc.2.1 S (xs (x3 + 1).toNatClampNeg) (0 : Int32) (v, S2) e1) ⟨⟨rfl, rfl⟩, Nat.le_of_ble_eq_true rfl, Nat.le_of_ble_eq_true rfl⟩ rfl hl.1 rfl (Nat.le_of_ble_eq_true rfl) dL_law_1004 hfit (fun H locs hP hP2 hS => ?_)
    refine lv_aload_n hx hb dL_law_1007 rfl (lv_at hl 2 rfl) ?_
    refine lv_aload_n hx hb dL_law_1008 rfl (lv_at hl 0 rfl) ?_
    refine lv_iload_n hx hb dL_law_1009 rfl (lv_at hl 3 rfl) ?_
    refine lv_iconst (v := 1) hx hb dL_law_1010 (by decide) ?_
    refine lv_iadd hx hb dL_law_1011 ?_
    refine va_sld hx hb hX hbl hbA hS h1 dL_law_1012 ?_
    refine lv_aload_n hx hb dL_law_1013 rfl (lv_at hl 0 rfl) ?_
    refine lv_iload_n hx hb dL_law_1014 rfl (lv_at hl 3 rfl) ?_
    refine lv_iconst (v := 2) hx hb dL_law_1015 (by decide) ?_
    refine lv_iadd hx hb dL_law_1016 ?_
    refine va_sld hx hb hX hbl hbA hS h2 dL_law_1017 ?_
    refine lv_if_eq (tgt := 1025) hx hb dL_law_1018 rfl (fun _ => ?_) (fun hz2 => absurd hz hz2)
    refine lv_iconst (v := 0) hx hb dL_law_1025 (by decide) ?_
    refine r_L_w (w := wd_M) (g := gm) (S := M) (As := [.int (xs (x3 + 1).toNatClampNeg), .int 0]) (rest := [.int (v)]) (q := (v, M2)) hx hb hml hown htsG hc.2.2.2.2.2.1 trivial hc.2.2.1 hP2 hP (LC_2 hc S2) hS hc.2.2.2.2.2.2.2.2.2 hc.2.2.2.1.2.1 (by rw [hc.2.2.2.1.1]; rfl) lkL_119 (k_X6_shown l gm hc.2.2.1 hc.2.2.2.1 M (xs (x3 + 1).toNatClampNeg) (0 : Int32) (v, M2) e2) ⟨⟨rfl, rfl⟩, Nat.le_of_ble_eq_true rfl, Nat.le_of_ble_eq_true rfl⟩ rfl hl.1 rfl (Nat.le_of_ble_eq_true rfl) dL_law_1026 hfit (fun H locs hP2 hP hS => ?_)
    refine lv_icmp_eq (tgt := 1750) hx hb dL_law_1029 rfl (fun _ => ?_) (fun hz2 => absurd rfl hz2)
    exact kk _ _ _ _ hw2 ⟨hP, hP2, hS⟩
  · obtain ⟨v, S2, M2, e1, e2, hw2⟩ := Q_shown hA hC hM (xs (x3 + 1).toNatClampNeg) true
    refine lv_aload_n hx hb dL_law_985 rfl (lv_at hl 1 rfl) ?_
    refine lv_aload_n hx hb dL_law_986 rfl (lv_at hl 0 rfl) ?_
    refine lv_iload_n hx hb dL_law_987 rfl (lv_at hl 3 rfl) ?_
    refine lv_iconst (v := 1) hx hb dL_law_988 (by decide) ?_
    refine lv_iadd hx hb dL_law_989 ?_
    refine va_sld hx hb hX hbl hbA hS h1 dL_law_990 ?_
    refine lv_aload_n hx hb dL_law_991 rfl (lv_at hl 0 rfl) ?_
    refine lv_iload_n hx hb dL_law_992 rfl (lv_at hl 3 rfl) ?_
    refine lv_iconst (v := 2) hx hb dL_law_993 (by decide) ?_
    refine lv_iadd hx hb dL_law_994 ?_
    refine va_sld hx hb hX hbl hbA hS h2 dL_law_995 ?_
    refine lv_if_eq (tgt := 1003) hx hb dL_law_996 rfl (fun hz2 => absurd hz2 hz) (fun _ => ?_)
    refine lv_iconst (v := 1) hx hb dL_law_999 (by decide) ?_
    refine lv_goto (tgt := 1004) hx hb dL_law_1000 rfl ?_
    refine r_L_w (w := wd_C) (g := g) (S := S) (As := [.int (xs (x3 + 1).toNatClampNeg), .int 1]) (rest := []) (q := (v, S2)) hx hb hml hown htsG hc.2.2.2.2.1 hc.2.2.2.2.2.2.1 hc.1 hP hP2 (LC_1 hc M) hS hc.2.2.2.2.2.2.2.2.1 hc.2.1.1.2.1 (by rw [hc.2.1.1.1]; rfl) lkL_116 (k_X5_shown l g hc.1 hc.2.1 S (xs (x3 + 1).toNatClampNeg) (1 : Int32) (v, S2) e1) ⟨⟨rfl, rfl⟩, Nat.le_of_ble_eq_true rfl, Nat.le_of_ble_eq_true rfl⟩ rfl hl.1 rfl (Nat.le_of_ble_eq_true rfl) dL_law_1004 hfit (fun H locs hP hP2 hS => ?_)
    refine lv_aload_n hx hb dL_law_1007 rfl (lv_at hl 2 rfl) ?_
    refine lv_aload_n hx hb dL_law_1008 rfl (lv_at hl 0 rfl) ?_
    refine lv_iload_n hx hb dL_law_1009 rfl (lv_at hl 3 rfl) ?_
    refine lv_iconst (v := 1) hx hb dL_law_1010 (by decide) ?_
    refine lv_iadd hx hb dL_law_1011 ?_
    refine va_sld hx hb hX hbl hbA hS h1 dL_law_1012 ?_
    refine lv_aload_n hx hb dL_law_1013 rfl (lv_at hl 0 rfl) ?_
    refine lv_iload_n hx hb dL_law_1014 rfl (lv_at hl 3 rfl) ?_
    refine lv_iconst (v := 2) hx hb dL_law_1015 (by decide) ?_
    refine lv_iadd hx hb dL_law_1016 ?_
    refine va_sld hx hb hX hbl hbA hS h2 dL_law_1017 ?_
    refine lv_if_eq (tgt := 1025) hx hb dL_law_1018 rfl (fun hz2 => absurd hz2 hz) (fun _ => ?_)
    refine lv_iconst (v := 1) hx hb dL_law_1021 (by decide) ?_
    refine lv_goto (tgt := 1026) hx hb dL_law_1022 rfl ?_
    refine r_L_w (w := wd_M) (g := gm) (S := M) (As := [.int (xs (x3 + 1).toNatClampNeg), .int 1]) (rest := [.int (v)]) (q := (v, M2)) hx hb hml hown htsG hc.2.2.2.2.2.1 trivial hc.2.2.1 hP2 hP (LC_2 hc S2) hS hc.2.2.2.2.2.2.2.2.2 hc.2.2.2.1.2.1 (by rw [hc.2.2.2.1.1]; rfl) lkL_119 (k_X6_shown l gm hc.2.2.1 hc.2.2.2.1 M (xs (x3 + 1).toNatClampNeg) (1 : Int32) (v, M2) e2) ⟨⟨rfl, rfl⟩, Nat.le_of_ble_eq_true rfl, Nat.le_of_ble_eq_true rfl⟩ rfl hl.1 rfl (Nat.le_of_ble_eq_true rfl) dL_law_1026 hfit (fun H locs hP2 hP hS => ?_)
    refine lv_icmp_eq (tgt := 1750) hx hb dL_law_1029 rfl (fun _ => ?_) (fun hz2 => absurd rfl hz2)
    exact kk _ _ _ _ hw2 ⟨hP, hP2, hS⟩
end LK
