theorem dX5_copy_0 : decode cX5_copy 0 = .ok (.aload_n 0, 1) := by decide +kernel
theorem dX5_copy_1 : decode cX5_copy 1 = .ok (.ifnull 20, 3) := by decide +kernel
theorem dX5_copy_4 : decode cX5_copy 4 = .ok (.aload_n 2, 1) := by decide +kernel
theorem dX5_copy_5 : decode cX5_copy 5 = .ok (.ifnull 16, 3) := by decide +kernel
theorem dX5_copy_8 : decode cX5_copy 8 = .ok (.iload_n 1, 1) := by decide +kernel
theorem dX5_copy_9 : decode cX5_copy 9 = .ok (.ifCond .lt 12, 3) := by decide +kernel
theorem dX5_copy_12 : decode cX5_copy 12 = .ok (.iload_n 3, 1) := by decide +kernel
theorem dX5_copy_13 : decode cX5_copy 13 = .ok (.ifCond .lt 8, 3) := by decide +kernel
theorem dX5_copy_16 : decode cX5_copy 16 = .ok (.iload 4, 2) := by decide +kernel
theorem dX5_copy_18 : decode cX5_copy 18 = .ok (.ifCond .ge 4, 3) := by decide +kernel
theorem dX5_copy_21 : decode cX5_copy 21 = .ok (.return_, 1) := by decide +kernel
theorem dX5_copy_22 : decode cX5_copy 22 = .ok (.iload_n 1, 1) := by decide +kernel
theorem dX5_copy_23 : decode cX5_copy 23 = .ok (.aload_n 0, 1) := by decide +kernel
theorem dX5_copy_24 : decode cX5_copy 24 = .ok (.arraylength, 1) := by decide +kernel
theorem dX5_copy_25 : decode cX5_copy 25 = .ok (.iload 4, 2) := by decide +kernel
theorem dX5_copy_27 : decode cX5_copy 27 = .ok (.isub, 1) := by decide +kernel
theorem dX5_copy_28 : decode cX5_copy 28 = .ok (.if_icmp .gt 21, 3) := by decide +kernel
theorem dX5_copy_31 : decode cX5_copy 31 = .ok (.iload_n 3, 1) := by decide +kernel
theorem dX5_copy_32 : decode cX5_copy 32 = .ok (.aload_n 2, 1) := by decide +kernel
theorem dX5_copy_33 : decode cX5_copy 33 = .ok (.arraylength, 1) := by decide +kernel
theorem dX5_copy_34 : decode cX5_copy 34 = .ok (.iload 4, 2) := by decide +kernel
theorem dX5_copy_36 : decode cX5_copy 36 = .ok (.isub, 1) := by decide +kernel
theorem dX5_copy_37 : decode cX5_copy 37 = .ok (.if_icmp .gt 12, 3) := by decide +kernel
theorem dX5_copy_40 : decode cX5_copy 40 = .ok (.aload_n 0, 1) := by decide +kernel
theorem dX5_copy_41 : decode cX5_copy 41 = .ok (.iload_n 1, 1) := by decide +kernel
theorem dX5_copy_42 : decode cX5_copy 42 = .ok (.aload_n 2, 1) := by decide +kernel
theorem dX5_copy_43 : decode cX5_copy 43 = .ok (.iload_n 3, 1) := by decide +kernel
theorem dX5_copy_44 : decode cX5_copy 44 = .ok (.iload 4, 2) := by decide +kernel
theorem dX5_copy_46 : decode cX5_copy 46 = .ok (.invokestatic 311, 3) := by decide +kernel
theorem dX5_copy_49 : decode cX5_copy 49 = .ok (.return_, 1) := by decide +kernel
abbrev rm_X5_copy : Room := { frames := 1, cells := 0, slots := 0, locals := 120 }
def f_X5_copy (k0 : Nat) (k2 : Nat) (S : St) (x1 : Int32) (x3 : Int32) (x4 : Int32) : Option (St) :=
  if x1 < 0 then (some S) else (if x3 < 0 then (some S) else (if 0 ≤ x4 then (if ((Int32.ofNat (wk_n wd_C k0)) - x4) < x1 then (some S) else (if ((Int32.ofNat (wk_n wd_C k2)) - x4) < x3 then (some S) else (chk (cpok x1 x3 x4 (wk_n wd_C k0) (wk_n wd_C k2)) (lt_v (up_A S k2 (va_cpy (st_A S k0) (st_A S k2) x1.toNatClampNeg x3.toNatClampNeg x4.toNatClampNeg)) (fun (S6 : St) => some S6))))) else (some S)))
set_option maxRecDepth 100000 in
set_option maxHeartbeats 4000000 in
theorem k_X5_copy (l : Launch) (g : GG) (hg : gd wd_C g) (k0 : Nat) (k2 : Nat) (hk0 : k0 ∈ gg_as g) (hk2 : k2 ∈ gg_as g) (S : St) (x1 : Int32) (x3 : Int32) (x4 : Int32) (q : St) (hf : f_X5_copy k0 k2 S x1 x3 x4 = some q) : Met l yX5_copy (Cond.code yX5_copy cX5_copy 5 none :: gw_tbl) rm_X5_copy (va_Pc [.ref (gg_a g k0), .int x1, .ref (gg_a g k2), .int x3, .int x4] (wI wd_C g S)) (qc_v wd_C g q) 0 0 (aw g) := by
  refine mt_start (own := RX5) hg (by decide) rfl (Nat.le_of_ble_eq_true rfl) (fun p e s m args below meth c ls H locs cx hw hr hlk hl => ?_)
  have hx := cx.1
  have hb := cx.2.1
  have hown := cx.2.2.2.1
  have hts := cx.2.2.2.2.1
  have hl : lv_has ls 5 [(0, .ref (gg_a g k0)), (1, .int x1), (2, .ref (gg_a g k2)), (3, .int x3), (4, .int x4)] := hl
  replace hf := h_top hf
  unfold f_X5_copy at hf
  refine lv_aload_n hx hb dX5_copy_0 rfl (lv_at hl 0 rfl) ?_
  refine lv_ifnull hx hb dX5_copy_1 ?_
  refine lv_aload_n hx hb dX5_copy_4 rfl (lv_at hl 2 rfl) ?_
  refine lv_ifnull hx hb dX5_copy_5 ?_
  refine lv_iload_n hx hb dX5_copy_8 rfl (lv_at hl 1 rfl) ?_
  refine lv_if_lt hx hb dX5_copy_9 (tgt := 21) rfl (fun hc1 => ?_) (fun hc1 => ?_)
  · replace hf := h_pos hc1 hf
    exact r_vret cx hw hr hlk hf dX5_copy_21
  replace hf := h_neg hc1 hf
  refine lv_iload_n hx hb dX5_copy_12 rfl (lv_at hl 3 rfl) ?_
  refine lv_if_lt hx hb dX5_copy_13 (tgt := 21) rfl (fun hc2 => ?_) (fun hc2 => ?_)
  · replace hf := h_pos hc2 hf
    exact r_vret cx hw hr hlk hf dX5_copy_21
  replace hf := h_neg hc2 hf
  refine lv_iload hx hb dX5_copy_16 (lv_at hl 4 rfl) ?_
  refine lv_if_ge hx hb dX5_copy_18 (tgt := 22) rfl (fun hc3 => ?_) (fun hc3 => ?_)
  · replace hf := h_pos hc3 hf
    refine lv_iload_n hx hb dX5_copy_22 rfl (lv_at hl 1 rfl) ?_
    refine lv_aload_n hx hb dX5_copy_23 rfl (lv_at hl 0 rfl) ?_
    refine r_alen cx hw hk0 dX5_copy_24 ?_
    refine lv_iload hx hb dX5_copy_25 (lv_at hl 4 rfl) ?_
    refine lv_isub hx hb dX5_copy_27 ?_
    refine lv_icmp_gt hx hb dX5_copy_28 (tgt := 49) rfl (fun hc4 => ?_) (fun hc4 => ?_)
    · replace hf := h_pos hc4 hf
      exact r_vret cx hw hr hlk hf dX5_copy_49
    replace hf := h_neg hc4 hf
    refine lv_iload_n hx hb dX5_copy_31 rfl (lv_at hl 3 rfl) ?_
    refine lv_aload_n hx hb dX5_copy_32 rfl (lv_at hl 2 rfl) ?_
    refine r_alen cx hw hk2 dX5_copy_33 ?_
    refine lv_iload hx hb dX5_copy_34 (lv_at hl 4 rfl) ?_
    refine lv_isub hx hb dX5_copy_36 ?_
    refine lv_icmp_gt hx hb dX5_copy_37 (tgt := 49) rfl (fun hc5 => ?_) (fun hc5 => ?_)
    · replace hf := h_pos hc5 hf
      exact r_vret cx hw hr hlk hf dX5_copy_49
    replace hf := h_neg hc5 hf
    refine lv_aload_n hx hb dX5_copy_40 rfl (lv_at hl 0 rfl) ?_
    refine lv_iload_n hx hb dX5_copy_41 rfl (lv_at hl 1 rfl) ?_
    refine lv_aload_n hx hb dX5_copy_42 rfl (lv_at hl 2 rfl) ?_
    refine lv_iload_n hx hb dX5_copy_43 rfl (lv_at hl 3 rfl) ?_
    refine lv_iload hx hb dX5_copy_44 (lv_at hl 4 rfl) ?_
    refine r_copyi cx hw hl.1 hk0 hk2 rfl rfl rfl rfl hf wd_287 wd_289 wd_288 wd_11 (Nat.le_of_ble_eq_true rfl) (by decide +kernel) dX5_copy_46 (fun S6 H locs hw hf => ?_)
    exact r_vret cx hw hr hlk hf dX5_copy_49
  replace hf := h_neg hc3 hf
  exact r_vret cx hw hr hlk hf dX5_copy_21
theorem dX5_put_0 : decode cX5_put 0 = .ok (.aload_n 0, 1) := by decide +kernel
theorem dX5_put_1 : decode cX5_put 1 = .ok (.ifnull 17, 3) := by decide +kernel
theorem dX5_put_4 : decode cX5_put 4 = .ok (.iload_n 1, 1) := by decide +kernel
theorem dX5_put_5 : decode cX5_put 5 = .ok (.ifCond .lt 13, 3) := by decide +kernel
theorem dX5_put_8 : decode cX5_put 8 = .ok (.iload_n 1, 1) := by decide +kernel
theorem dX5_put_9 : decode cX5_put 9 = .ok (.aload_n 0, 1) := by decide +kernel
theorem dX5_put_10 : decode cX5_put 10 = .ok (.arraylength, 1) := by decide +kernel
theorem dX5_put_11 : decode cX5_put 11 = .ok (.if_icmp .ge 7, 3) := by decide +kernel
theorem dX5_put_14 : decode cX5_put 14 = .ok (.aload_n 0, 1) := by decide +kernel
theorem dX5_put_15 : decode cX5_put 15 = .ok (.iload_n 1, 1) := by decide +kernel
theorem dX5_put_16 : decode cX5_put 16 = .ok (.iload_n 2, 1) := by decide +kernel
theorem dX5_put_17 : decode cX5_put 17 = .ok (.iastore, 1) := by decide +kernel
theorem dX5_put_18 : decode cX5_put 18 = .ok (.return_, 1) := by decide +kernel
abbrev rm_X5_put : Room := { frames := 0, cells := 0, slots := 0, locals := 0 }
def f_X5_put (k0 : Nat) (S : St) (x1 : Int32) (x2 : Int32) : Option (St) :=
  if x1 < 0 then (some S) else (if (Int32.ofNat (wk_n wd_C k0)) ≤ x1 then (some S) else (chk (ib x1 (wk_n wd_C k0)) (lt_v (up_A S k0 (upd (st_A S k0) x1.toNatClampNeg x2)) (fun (S3 : St) => some S3))))
set_option maxRecDepth 100000 in
set_option maxHeartbeats 4000000 in
theorem k_X5_put (l : Launch) (g : GG) (hg : gd wd_C g) (k0 : Nat) (hk0 : k0 ∈ gg_as g) (S : St) (x1 : Int32) (x2 : Int32) (q : St) (hf : f_X5_put k0 S x1 x2 = some q) : Met l yX5_put (Cond.code yX5_put cX5_put 3 none :: gw_tbl) rm_X5_put (va_Pc [.ref (gg_a g k0), .int x1, .int x2] (wI wd_C g S)) (qc_v wd_C g q) 0 0 (aw g) := by
  refine mt_start (own := RX5) hg (by decide) rfl (Nat.le_of_ble_eq_true rfl) (fun p e s m args below meth c ls H locs cx hw hr hlk hl => ?_)
  have hx := cx.1
  have hb := cx.2.1
  have hown := cx.2.2.2.1
  have hts := cx.2.2.2.2.1
  have hl : lv_has ls 3 [(0, .ref (gg_a g k0)), (1, .int x1), (2, .int x2)] := hl
  replace hf := h_top hf
  unfold f_X5_put at hf
  refine lv_aload_n hx hb dX5_put_0 rfl (lv_at hl 0 rfl) ?_
  refine lv_ifnull hx hb dX5_put_1 ?_
  refine lv_iload_n hx hb dX5_put_4 rfl (lv_at hl 1 rfl) ?_
  refine lv_if_lt hx hb dX5_put_5 (tgt := 18) rfl (fun hc1 => ?_) (fun hc1 => ?_)
  · replace hf := h_pos hc1 hf
    exact r_vret cx hw hr hlk hf dX5_put_18
  replace hf := h_neg hc1 hf
  refine lv_iload_n hx hb dX5_put_8 rfl (lv_at hl 1 rfl) ?_
  refine lv_aload_n hx hb dX5_put_9 rfl (lv_at hl 0 rfl) ?_
  refine r_alen cx hw hk0 dX5_put_10 ?_
  refine lv_icmp_ge hx hb dX5_put_11 (tgt := 18) rfl (fun hc2 => ?_) (fun hc2 => ?_)
  · replace hf := h_pos hc2 hf
    exact r_vret cx hw hr hlk hf dX5_put_18
  replace hf := h_neg hc2 hf
  refine lv_aload_n hx hb dX5_put_14 rfl (lv_at hl 0 rfl) ?_
  refine lv_iload_n hx hb dX5_put_15 rfl (lv_at hl 1 rfl) ?_
  refine lv_iload_n hx hb dX5_put_16 rfl (lv_at hl 2 rfl) ?_
  refine r_iast cx hw hk0 rfl rfl hf dX5_put_17 (fun S3 H locs hw hf => ?_)
  exact r_vret cx hw hr hlk hf dX5_put_18
theorem dX5_at_0 : decode cX5_at 0 = .ok (.aload_n 0, 1) := by decide +kernel
theorem dX5_at_1 : decode cX5_at 1 = .ok (.ifnull 19, 3) := by decide +kernel
theorem dX5_at_4 : decode cX5_at 4 = .ok (.iload_n 1, 1) := by decide +kernel
theorem dX5_at_5 : decode cX5_at 5 = .ok (.ifCond .lt 15, 3) := by decide +kernel
theorem dX5_at_8 : decode cX5_at 8 = .ok (.iload_n 1, 1) := by decide +kernel
theorem dX5_at_9 : decode cX5_at 9 = .ok (.aload_n 0, 1) := by decide +kernel
theorem dX5_at_10 : decode cX5_at 10 = .ok (.arraylength, 1) := by decide +kernel
theorem dX5_at_11 : decode cX5_at 11 = .ok (.if_icmp .ge 9, 3) := by decide +kernel
theorem dX5_at_14 : decode cX5_at 14 = .ok (.aload_n 0, 1) := by decide +kernel
theorem dX5_at_15 : decode cX5_at 15 = .ok (.iload_n 1, 1) := by decide +kernel
theorem dX5_at_16 : decode cX5_at 16 = .ok (.iaload, 1) := by decide +kernel
theorem dX5_at_17 : decode cX5_at 17 = .ok (.goto 4, 3) := by decide +kernel
theorem dX5_at_20 : decode cX5_at 20 = .ok (.iconst 0, 1) := by decide +kernel
theorem dX5_at_21 : decode cX5_at 21 = .ok (.ireturn, 1) := by decide +kernel
abbrev rm_X5_at : Room := { frames := 0, cells := 0, slots := 0, locals := 0 }
def f_X5_at (k0 : Nat) (S : St) (x1 : Int32) : Option (Int32) :=
  if x1 < 0 then (some (0 : Int32)) else (if (Int32.ofNat (wk_n wd_C k0)) ≤ x1 then (some (0 : Int32)) else (chk (ib x1 (wk_n wd_C k0)) (some (st_A S k0 x1.toNatClampNeg))))
set_option maxRecDepth 100000 in
set_option maxHeartbeats 4000000 in
theorem k_X5_at (l : Launch) (g : GG) (hg : gd wd_C g) (k0 : Nat) (hk0 : k0 ∈ gg_as g) (S : St) (x1 : Int32) (q : Int32) (hf : f_X5_at k0 S x1 = some q) : Met l yX5_at (Cond.code yX5_at cX5_at 2 (some .int) :: gw_tbl) rm_X5_at (va_Pc [.ref (gg_a g k0), .int x1] (wI wd_C g S)) (qc_i wd_C g S q) 0 0 (aw g) := by
  refine mt_start (own := RX5) hg (by decide) rfl (Nat.le_of_ble_eq_true rfl) (fun p e s m args below meth c ls H locs cx hw hr hlk hl => ?_)
  have hx := cx.1
  have hb := cx.2.1
  have hown := cx.2.2.2.1
  have hts := cx.2.2.2.2.1
  have hl : lv_has ls 2 [(0, .ref (gg_a g k0)), (1, .int x1)] := hl
  replace hf := h_top hf
  unfold f_X5_at at hf
  refine lv_aload_n hx hb dX5_at_0 rfl (lv_at hl 0 rfl) ?_
  refine lv_ifnull hx hb dX5_at_1 ?_
  refine lv_iload_n hx hb dX5_at_4 rfl (lv_at hl 1 rfl) ?_
  refine lv_if_lt hx hb dX5_at_5 (tgt := 20) rfl (fun hc1 => ?_) (fun hc1 => ?_)
  · replace hf := h_pos hc1 hf
    refine lv_iconst (v := 0) hx hb dX5_at_20 (by decide) ?_
    exact r_iret cx hw hr hlk hf dX5_at_21
  replace hf := h_neg hc1 hf
  refine lv_iload_n hx hb dX5_at_8 rfl (lv_at hl 1 rfl) ?_
  refine lv_aload_n hx hb dX5_at_9 rfl (lv_at hl 0 rfl) ?_
  refine r_alen cx hw hk0 dX5_at_10 ?_
  refine lv_icmp_ge hx hb dX5_at_11 (tgt := 20) rfl (fun hc2 => ?_) (fun hc2 => ?_)
  · replace hf := h_pos hc2 hf
    refine lv_iconst (v := 0) hx hb dX5_at_20 (by decide) ?_
    exact r_iret cx hw hr hlk hf dX5_at_21
  replace hf := h_neg hc2 hf
  refine lv_aload_n hx hb dX5_at_14 rfl (lv_at hl 0 rfl) ?_
  refine lv_iload_n hx hb dX5_at_15 rfl (lv_at hl 1 rfl) ?_
  refine r_iald cx hw hk0 rfl rfl hf dX5_at_16 (fun hf => ?_)
  refine lv_goto hx hb dX5_at_17 (tgt := 21) rfl ?_
  exact r_iret cx hw hr hlk hf dX5_at_21
abbrev rm_X5_atT : Room := { frames := 0, cells := 0, slots := 0, locals := 0 }
def f_X5_atT (S : St) (x1 : Int32) : Option (Int32) :=
  if x1 < 0 then (some (0 : Int32)) else (if (8 : Int32) ≤ x1 then (some (0 : Int32)) else (chk (ib x1 8) (some (mo_C.getD x1.toNatClampNeg 0))))
set_option maxRecDepth 100000 in
set_option maxHeartbeats 4000000 in
theorem k_X5_atT (l : Launch) (g : GG) (hg : gd wd_C g)  (S : St) (x1 : Int32) (q : Int32) (hf : f_X5_atT  S x1 = some q) : Met l yX5_at (Cond.code yX5_at cX5_at 2 (some .int) :: gw_tbl) rm_X5_atT (va_Pc [.ref (gg_t g), .int x1] (wI wd_C g S)) (qc_i wd_C g S q) 0 0 (aw g) := by
  refine mt_start (own := RX5) hg (by decide) rfl (Nat.le_of_ble_eq_true rfl) (fun p e s m args below meth c ls H locs cx hw hr hlk hl => ?_)
  have hx := cx.1
  have hb := cx.2.1
  have hown := cx.2.2.2.1
  have hts := cx.2.2.2.2.1
  have hl : lv_has ls 2 [(0, .ref (gg_t g)), (1, .int x1)] := hl
  replace hf := h_top hf
  unfold f_X5_atT at hf
  refine lv_aload_n hx hb dX5_at_0 rfl (lv_at hl 0 rfl) ?_
  refine lv_ifnull hx hb dX5_at_1 ?_
  refine lv_iload_n hx hb dX5_at_4 rfl (lv_at hl 1 rfl) ?_
  refine lv_if_lt hx hb dX5_at_5 (tgt := 20) rfl (fun hc1 => ?_) (fun hc1 => ?_)
  · replace hf := h_pos hc1 hf
    refine lv_iconst (v := 0) hx hb dX5_at_20 (by decide) ?_
    exact r_iret cx hw hr hlk hf dX5_at_21
  replace hf := h_neg hc1 hf
  refine lv_iload_n hx hb dX5_at_8 rfl (lv_at hl 1 rfl) ?_
  refine lv_aload_n hx hb dX5_at_9 rfl (lv_at hl 0 rfl) ?_
  refine r_tlen cx hw dX5_at_10 ?_
  refine lv_icmp_ge hx hb dX5_at_11 (tgt := 20) rfl (fun hc2 => ?_) (fun hc2 => ?_)
  · replace hf := h_pos hc2 hf
    refine lv_iconst (v := 0) hx hb dX5_at_20 (by decide) ?_
    exact r_iret cx hw hr hlk hf dX5_at_21
  replace hf := h_neg hc2 hf
  refine lv_aload_n hx hb dX5_at_14 rfl (lv_at hl 0 rfl) ?_
  refine lv_iload_n hx hb dX5_at_15 rfl (lv_at hl 1 rfl) ?_
  refine r_tald cx hw hf dX5_at_16 (fun hf => ?_)
  refine lv_goto hx hb dX5_at_17 (tgt := 21) rfl ?_
  exact r_iret cx hw hr hlk hf dX5_at_21
theorem dX4_ownerOf_0 : decode cX4_ownerOf 0 = .ok (.aload_n 0, 1) := by decide +kernel
theorem dX4_ownerOf_1 : decode cX4_ownerOf 1 = .ok (.getfield 27, 3) := by decide +kernel
theorem dX4_ownerOf_4 : decode cX4_ownerOf 4 = .ok (.iload_n 1, 1) := by decide +kernel
theorem dX4_ownerOf_5 : decode cX4_ownerOf 5 = .ok (.invokestatic 91, 3) := by decide +kernel
theorem dX4_ownerOf_8 : decode cX4_ownerOf 8 = .ok (.ireturn, 1) := by decide +kernel
abbrev rm_X4_ownerOf : Room := { frames := 1, cells := 0, slots := 0, locals := 21 }
def f_X4_ownerOf (k0 : Nat) (S : St) (x1 : Int32) : Option (Int32) :=
  (f_X5_at (ky k0 12) S x1).bind (fun (q1 : Int32) => some q1)
set_option maxRecDepth 100000 in
set_option maxHeartbeats 4000000 in
theorem k_X4_ownerOf (l : Launch) (g : GG) (hg : gd wd_C g) (k0 : Nat) (hk0 : hT g k0) (S : St) (x1 : Int32) (q : Int32) (hf : f_X4_ownerOf k0 S x1 = some q) : Met l yX4_ownerOf (Cond.code yX4_ownerOf cX4_ownerOf 2 (some .int) :: gw_tbl) rm_X4_ownerOf (va_Pc [.ref (gg_o g k0), .int x1] (wI wd_C g S)) (qc_i wd_C g S q) 0 0 (aw g) := by
  refine mt_start (own := RX4) hg (by decide) rfl (Nat.le_of_ble_eq_true rfl) (fun p e s m args below meth c ls H locs cx hw hr hlk hl => ?_)
  have hx := cx.1
  have hb := cx.2.1
  have hown := cx.2.2.2.1
  have hts := cx.2.2.2.2.1
  have hl : lv_has ls 2 [(0, .ref (gg_o g k0)), (1, .int x1)] := hl
  replace hf := h_top hf
  unfold f_X4_ownerOf at hf
  refine lv_aload_n hx hb dX4_ownerOf_0 rfl (lv_at hl 0 rfl) ?_
  refine gf_X4_27 cx hw hk0.1 dX4_ownerOf_1 ?_
  refine lv_iload_n hx hb dX4_ownerOf_4 rfl (lv_at hl 1 rfl) ?_
  refine r_SN_i (As := [.ref (gg_a g (ky k0 12)), .int x1]) (rest := []) cx hw hf (nw_at cx) lk_X4_91 (fun q1 hq => k_X5_at l g hg (ky k0 12) (hk0.1.2.2.1 12 rfl) S x1 q1 hq) ⟨⟨rfl, rfl⟩, Nat.le_of_ble_eq_true rfl, Nat.le_of_ble_eq_true rfl⟩ rfl hl.1 rfl (Nat.le_of_ble_eq_true rfl) dX4_ownerOf_5 ⟨Nat.zero_le _, Nat.zero_le _⟩ (fun q1 H locs hw hf => ?_)
  exact r_iret cx hw hr hlk hf dX4_ownerOf_8
theorem dX0_rankOf_0 : decode cX0_rankOf 0 = .ok (.aload_n 0, 1) := by decide +kernel
theorem dX0_rankOf_1 : decode cX0_rankOf 1 = .ok (.getfield 15, 3) := by decide +kernel
theorem dX0_rankOf_4 : decode cX0_rankOf 4 = .ok (.iload_n 2, 1) := by decide +kernel
theorem dX0_rankOf_5 : decode cX0_rankOf 5 = .ok (.bipush 6, 2) := by decide +kernel
theorem dX0_rankOf_7 : decode cX0_rankOf 7 = .ok (.imul, 1) := by decide +kernel
theorem dX0_rankOf_8 : decode cX0_rankOf 8 = .ok (.iload_n 1, 1) := by decide +kernel
theorem dX0_rankOf_9 : decode cX0_rankOf 9 = .ok (.iadd, 1) := by decide +kernel
theorem dX0_rankOf_10 : decode cX0_rankOf 10 = .ok (.invokestatic 68, 3) := by decide +kernel
theorem dX0_rankOf_13 : decode cX0_rankOf 13 = .ok (.ireturn, 1) := by decide +kernel
abbrev rm_X0_rankOf : Room := { frames := 1, cells := 0, slots := 0, locals := 21 }
def f_X0_rankOf (k0 : Nat) (S : St) (x1 : Int32) (x2 : Int32) : Option (Int32) :=
  (f_X5_at (ky k0 3) S ((x2 * (6 : Int32)) + x1)).bind (fun (q1 : Int32) => some q1)
set_option maxRecDepth 100000 in
set_option maxHeartbeats 4000000 in
theorem k_X0_rankOf (l : Launch) (g : GG) (hg : gd wd_C g) (k0 : Nat) (hk0 : hs wd_C g k0 0) (hA : allT g) (S : St) (x1 : Int32) (x2 : Int32) (q : Int32) (hf : f_X0_rankOf k0 S x1 x2 = some q) : Met l yX0_rankOf (Cond.code yX0_rankOf cX0_rankOf 3 (some .int) :: gw_tbl) rm_X0_rankOf (va_Pc [.ref (gg_o g k0), .int x1, .int x2] (wI wd_C g S)) (qc_i wd_C g S q) 0 0 (aw g) := by
  refine mt_start (own := RX0) hg (by decide) rfl (Nat.le_of_ble_eq_true rfl) (fun p e s m args below meth c ls H locs cx hw hr hlk hl => ?_)
  have hx := cx.1
  have hb := cx.2.1
  have hown := cx.2.2.2.1
  have hts := cx.2.2.2.2.1
  have hl : lv_has ls 3 [(0, .ref (gg_o g k0)), (1, .int x1), (2, .int x2)] := hl
  replace hf := h_top hf
  unfold f_X0_rankOf at hf
  refine lv_aload_n hx hb dX0_rankOf_0 rfl (lv_at hl 0 rfl) ?_
  refine gf_X0_15 cx hw hk0 dX0_rankOf_1 ?_
  refine lv_iload_n hx hb dX0_rankOf_4 rfl (lv_at hl 2 rfl) ?_
  refine lv_bipush (v := 6) hx hb dX0_rankOf_5 (by decide) ?_
  refine lv_imul hx hb dX0_rankOf_7 ?_
  refine lv_iload_n hx hb dX0_rankOf_8 rfl (lv_at hl 1 rfl) ?_
  refine lv_iadd hx hb dX0_rankOf_9 ?_
  refine r_SN_i (As := [.ref (gg_a g (ky k0 3)), .int ((x2 * (6 : Int32)) + x1)]) (rest := []) cx hw hf (nw_at cx) lk_X0_68 (fun q1 hq => k_X5_at l g hg (ky k0 3) (hk0.2.2.1 3 rfl) S ((x2 * (6 : Int32)) + x1) q1 hq) ⟨⟨rfl, rfl⟩, Nat.le_of_ble_eq_true rfl, Nat.le_of_ble_eq_true rfl⟩ rfl hl.1 rfl (Nat.le_of_ble_eq_true rfl) dX0_rankOf_10 ⟨Nat.zero_le _, Nat.zero_le _⟩ (fun q1 H locs hw hf => ?_)
  exact r_iret cx hw hr hlk hf dX0_rankOf_13
theorem dX0_hangOf_0 : decode cX0_hangOf 0 = .ok (.aload_n 0, 1) := by decide +kernel
theorem dX0_hangOf_1 : decode cX0_hangOf 1 = .ok (.getfield 18, 3) := by decide +kernel
theorem dX0_hangOf_4 : decode cX0_hangOf 4 = .ok (.iload_n 2, 1) := by decide +kernel
theorem dX0_hangOf_5 : decode cX0_hangOf 5 = .ok (.bipush 8, 2) := by decide +kernel
theorem dX0_hangOf_7 : decode cX0_hangOf 7 = .ok (.imul, 1) := by decide +kernel
theorem dX0_hangOf_8 : decode cX0_hangOf 8 = .ok (.iload_n 1, 1) := by decide +kernel
theorem dX0_hangOf_9 : decode cX0_hangOf 9 = .ok (.iadd, 1) := by decide +kernel
theorem dX0_hangOf_10 : decode cX0_hangOf 10 = .ok (.invokestatic 68, 3) := by decide +kernel
theorem dX0_hangOf_13 : decode cX0_hangOf 13 = .ok (.ireturn, 1) := by decide +kernel
abbrev rm_X0_hangOf : Room := { frames := 1, cells := 0, slots := 0, locals := 21 }
def f_X0_hangOf (k0 : Nat) (S : St) (x1 : Int32) (x2 : Int32) : Option (Int32) :=
  (f_X5_at (ky k0 4) S ((x2 * (8 : Int32)) + x1)).bind (fun (q1 : Int32) => some q1)
set_option maxRecDepth 100000 in
set_option maxHeartbeats 4000000 in
theorem k_X0_hangOf (l : Launch) (g : GG) (hg : gd wd_C g) (k0 : Nat) (hk0 : hs wd_C g k0 0) (hA : allT g) (S : St) (x1 : Int32) (x2 : Int32) (q : Int32) (hf : f_X0_hangOf k0 S x1 x2 = some q) : Met l yX0_hangOf (Cond.code yX0_hangOf cX0_hangOf 3 (some .int) :: gw_tbl) rm_X0_hangOf (va_Pc [.ref (gg_o g k0), .int x1, .int x2] (wI wd_C g S)) (qc_i wd_C g S q) 0 0 (aw g) := by
  refine mt_start (own := RX0) hg (by decide) rfl (Nat.le_of_ble_eq_true rfl) (fun p e s m args below meth c ls H locs cx hw hr hlk hl => ?_)
  have hx := cx.1
  have hb := cx.2.1
  have hown := cx.2.2.2.1
  have hts := cx.2.2.2.2.1
  have hl : lv_has ls 3 [(0, .ref (gg_o g k0)), (1, .int x1), (2, .int x2)] := hl
  replace hf := h_top hf
  unfold f_X0_hangOf at hf
  refine lv_aload_n hx hb dX0_hangOf_0 rfl (lv_at hl 0 rfl) ?_
  refine gf_X0_18 cx hw hk0 dX0_hangOf_1 ?_
  refine lv_iload_n hx hb dX0_hangOf_4 rfl (lv_at hl 2 rfl) ?_
  refine lv_bipush (v := 8) hx hb dX0_hangOf_5 (by decide) ?_
  refine lv_imul hx hb dX0_hangOf_7 ?_
  refine lv_iload_n hx hb dX0_hangOf_8 rfl (lv_at hl 1 rfl) ?_
  refine lv_iadd hx hb dX0_hangOf_9 ?_
  refine r_SN_i (As := [.ref (gg_a g (ky k0 4)), .int ((x2 * (8 : Int32)) + x1)]) (rest := []) cx hw hf (nw_at cx) lk_X0_68 (fun q1 hq => k_X5_at l g hg (ky k0 4) (hk0.2.2.1 4 rfl) S ((x2 * (8 : Int32)) + x1) q1 hq) ⟨⟨rfl, rfl⟩, Nat.le_of_ble_eq_true rfl, Nat.le_of_ble_eq_true rfl⟩ rfl hl.1 rfl (Nat.le_of_ble_eq_true rfl) dX0_hangOf_10 ⟨Nat.zero_le _, Nat.zero_le _⟩ (fun q1 H locs hw hf => ?_)
  exact r_iret cx hw hr hlk hf dX0_hangOf_13
theorem dX0_menIn_0 : decode cX0_menIn 0 = .ok (.iconst 0, 1) := by decide +kernel
theorem dX0_menIn_1 : decode cX0_menIn 1 = .ok (.istore_n 3, 1) := by decide +kernel
theorem dX0_menIn_2 : decode cX0_menIn 2 = .ok (.iconst 0, 1) := by decide +kernel
theorem dX0_menIn_3 : decode cX0_menIn 3 = .ok (.istore 4, 2) := by decide +kernel
theorem dX0_menIn_5 : decode cX0_menIn 5 = .ok (.iload 4, 2) := by decide +kernel
theorem dX0_menIn_7 : decode cX0_menIn 7 = .ok (.aload_n 0, 1) := by decide +kernel
theorem dX0_menIn_8 : decode cX0_menIn 8 = .ok (.getfield 33, 3) := by decide +kernel
theorem dX0_menIn_11 : decode cX0_menIn 11 = .ok (.getfield 82, 3) := by decide +kernel
theorem dX0_menIn_14 : decode cX0_menIn 14 = .ok (.if_icmp .ge 38, 3) := by decide +kernel
theorem dX0_menIn_17 : decode cX0_menIn 17 = .ok (.iload_n 3, 1) := by decide +kernel
theorem dX0_menIn_18 : decode cX0_menIn 18 = .ok (.aload_n 0, 1) := by decide +kernel
theorem dX0_menIn_19 : decode cX0_menIn 19 = .ok (.getfield 9, 3) := by decide +kernel
theorem dX0_menIn_22 : decode cX0_menIn 22 = .ok (.iload_n 2, 1) := by decide +kernel
theorem dX0_menIn_23 : decode cX0_menIn 23 = .ok (.bipush 6, 2) := by decide +kernel
theorem dX0_menIn_25 : decode cX0_menIn 25 = .ok (.imul, 1) := by decide +kernel
theorem dX0_menIn_26 : decode cX0_menIn 26 = .ok (.iload 4, 2) := by decide +kernel
theorem dX0_menIn_28 : decode cX0_menIn 28 = .ok (.iadd, 1) := by decide +kernel
theorem dX0_menIn_29 : decode cX0_menIn 29 = .ok (.invokestatic 68, 3) := by decide +kernel
theorem dX0_menIn_32 : decode cX0_menIn 32 = .ok (.iload_n 1, 1) := by decide +kernel
theorem dX0_menIn_33 : decode cX0_menIn 33 = .ok (.if_icmp .ne 10, 3) := by decide +kernel
theorem dX0_menIn_36 : decode cX0_menIn 36 = .ok (.iconst 1, 1) := by decide +kernel
theorem dX0_menIn_37 : decode cX0_menIn 37 = .ok (.iload 4, 2) := by decide +kernel
theorem dX0_menIn_39 : decode cX0_menIn 39 = .ok (.ishl, 1) := by decide +kernel
theorem dX0_menIn_40 : decode cX0_menIn 40 = .ok (.goto 4, 3) := by decide +kernel
theorem dX0_menIn_43 : decode cX0_menIn 43 = .ok (.iconst 0, 1) := by decide +kernel
theorem dX0_menIn_44 : decode cX0_menIn 44 = .ok (.ior, 1) := by decide +kernel
theorem dX0_menIn_45 : decode cX0_menIn 45 = .ok (.istore_n 3, 1) := by decide +kernel
theorem dX0_menIn_46 : decode cX0_menIn 46 = .ok (.iinc 4 1, 3) := by decide +kernel
theorem dX0_menIn_49 : decode cX0_menIn 49 = .ok (.goto (-44), 3) := by decide +kernel
theorem dX0_menIn_52 : decode cX0_menIn 52 = .ok (.iload_n 3, 1) := by decide +kernel
theorem dX0_menIn_53 : decode cX0_menIn 53 = .ok (.ireturn, 1) := by decide +kernel
abbrev rm_X0_menIn : Room := { frames := 1, cells := 0, slots := 0, locals := 21 }
def f_X0_menIn_J44 (k0 : Nat) (S : St) (x1 : Int32) (x2 : Int32) (x4 : Int32) (y0 : Int32) (y1 : Int32) : Option ((Int32 × Int32) ⊕ (Int32)) :=
  some (.inl ((y1 ||| y0), (x4 + 1)))
def f_X0_menIn_L5 (k0 : Nat) (S : St) (x1 : Int32) (x2 : Int32) (z5 : Int32 × Int32) : Option ((Int32 × Int32) ⊕ (Int32)) :=
  chk (isT (st_P S (ky k0 0))) (if (st_I S (ky (st_P S (ky k0 0)) 2)) ≤ z5.2 then (some (.inr z5.1)) else ((f_X5_at (ky k0 2) S ((x2 * (6 : Int32)) + z5.2)).bind (fun (q3 : Int32) => if q3 = x1 then (f_X0_menIn_J44 k0 S x1 x2 z5.2 ((1 : Int32) <<< (z5.2 &&& 31)) z5.1) else (f_X0_menIn_J44 k0 S x1 x2 z5.2 (0 : Int32) z5.1))))
def f_X0_menIn (k0 : Nat) (S : St) (x1 : Int32) (x2 : Int32) : Option (Int32) :=
  iter (f_X0_menIn_L5 k0 S x1 x2) FU ((0 : Int32), (0 : Int32))
set_option maxRecDepth 100000 in
set_option maxHeartbeats 4000000 in
theorem k_X0_menIn (l : Launch) (g : GG) (hg : gd wd_C g) (k0 : Nat) (hk0 : hs wd_C g k0 0) (hA : allT g) (S : St) (x1 : Int32) (x2 : Int32) (q : Int32) (hf : f_X0_menIn k0 S x1 x2 = some q) : Met l yX0_menIn (Cond.code yX0_menIn cX0_menIn 5 (some .int) :: gw_tbl) rm_X0_menIn (va_Pc [.ref (gg_o g k0), .int x1, .int x2] (wI wd_C g S)) (qc_i wd_C g S q) 0 0 (aw g) := by
  refine mt_start (own := RX0) hg (by decide) rfl (Nat.le_of_ble_eq_true rfl) (fun p e s m args below meth c ls H locs cx hw hr hlk hl => ?_)
  have hx := cx.1
  have hb := cx.2.1
  have hown := cx.2.2.2.1
  have hts := cx.2.2.2.2.1
  have hl : lv_has ls 5 [(0, .ref (gg_o g k0)), (1, .int x1), (2, .int x2)] := hl
  replace hf := h_top hf
  unfold f_X0_menIn at hf
  refine lv_iconst (v := 0) hx hb dX0_menIn_0 (by decide) ?_
  refine lv_istore_n hx hb dX0_menIn_1 rfl hl (by decide) (lv' := [(3, .int (0 : Int32)), (0, .ref (gg_o g k0)), (1, .int x1), (2, .int x2)]) rfl (fun ls hl => ?_)
  refine lv_iconst (v := 0) hx hb dX0_menIn_2 (by decide) ?_
  refine lv_istore hx hb dX0_menIn_3 hl (by decide) (lv' := [(4, .int (0 : Int32)), (3, .int (0 : Int32)), (0, .ref (gg_o g k0)), (1, .int x1), (2, .int x2)]) rfl (fun ls hl => ?_)
  have L5 : ∀ (x1 : Int32) (x2 : Int32) (aft5 : Int32 → Option (Int32)), (∀ v : Int32, aft5 v = some q → (some v : Option (Int32)).bind some = some q) → ∀ (n5 : Nat) (ls : Array Slot) (H : Heap) (locs : List Loc) (z5 : Int32 × Int32), lv_has ls 5 [(0, .ref (gg_o g k0)), (1, .int x1), (2, .int x2), (3, .int z5.1), (4, .int z5.2)] → HH wd_C g s S H locs → (iter (f_X0_menIn_L5 k0 S x1 x2) n5 z5).bind aft5 = some q → W p l e rm_X0_menIn s m args below meth c H locs 0 0 (MQ below (qc_i wd_C g S q) args s 0 0 (aw g)) (F0 m 5 ls []) := by
    intro x1 x2 aft5 hR5 n5
    induction n5 with
    | zero => intro ls H locs z5 hl hw hf; exact h_iter0 hf
    | succ n5 ih5 =>
      intro ls H locs z5 hl hw hf
      replace hf := h_iter hf
      unfold f_X0_menIn_L5 at hf
      have J44 : ∀ (ls : Array Slot) (H : Heap) (locs : List Loc) (x4 : Int32) (y0 : Int32) (y1 : Int32), lv_has ls 5 [(0, .ref (gg_o g k0)), (1, .int x1), (2, .int x2), (4, .int x4)] → HH wd_C g s S H locs → (f_X0_menIn_J44 k0 S x1 x2 x4 y0 y1).bind (it_K (f_X0_menIn_L5 k0 S x1 x2) n5 aft5) = some q → W p l e rm_X0_menIn s m args below meth c H locs 0 0 (MQ below (qc_i wd_C g S q) args s 0 0 (aw g)) (F0 m 44 ls [.int y0, .int y1]) := by
        intro ls H locs x4 y0 y1 hl hw hf
        unfold f_X0_menIn_J44 at hf
        refine lv_ior hx hb dX0_menIn_44 ?_
        refine lv_istore_n hx hb dX0_menIn_45 rfl hl (by decide) (lv' := [(3, .int (y1 ||| y0)), (0, .ref (gg_o g k0)), (1, .int x1), (2, .int x2), (4, .int x4)]) rfl (fun ls hl => ?_)
        refine lv_iinc hx hb dX0_menIn_46 hl (k := 4) rfl (congrArg (HAdd.hAdd _) (show Int32.ofInt (1) = 1 by decide)) (by decide) (lv' := [(4, .int (x4 + 1)), (3, .int (y1 ||| y0)), (0, .ref (gg_o g k0)), (1, .int x1), (2, .int x2)]) rfl (fun ls hl => ?_)
        refine lv_goto hx hb dX0_menIn_49 (tgt := 5) rfl ?_
        exact ih5 _ _ _ ((y1 ||| y0), (x4 + 1)) (lv_sub hl [2, 3, 4, 1, 0] rfl) hw hf
      refine lv_iload hx hb dX0_menIn_5 (lv_at hl 4 rfl) ?_
      refine lv_aload_n hx hb dX0_menIn_7 rfl (lv_at hl 0 rfl) ?_
      obtain ⟨hc1, hf⟩ := h_chk hf
      refine gf_X0_33 cx hw hk0 dX0_menIn_8 ?_
      refine gf_X0_82 cx hw ((allT_at hA hc1).1) dX0_menIn_11 ?_
      refine lv_icmp_ge hx hb dX0_menIn_14 (tgt := 52) rfl (fun hc2 => ?_) (fun hc2 => ?_)
      · replace hf := h_pos hc2 hf
        refine lv_iload_n hx hb dX0_menIn_52 rfl (lv_at hl 3 rfl) ?_
        replace hf := hR5 z5.1 hf
        exact r_iret cx hw hr hlk hf dX0_menIn_53
      replace hf := h_neg hc2 hf
      refine lv_iload_n hx hb dX0_menIn_17 rfl (lv_at hl 3 rfl) ?_
      refine lv_aload_n hx hb dX0_menIn_18 rfl (lv_at hl 0 rfl) ?_
      refine gf_X0_9 cx hw hk0 dX0_menIn_19 ?_
      refine lv_iload_n hx hb dX0_menIn_22 rfl (lv_at hl 2 rfl) ?_
      refine lv_bipush (v := 6) hx hb dX0_menIn_23 (by decide) ?_
      refine lv_imul hx hb dX0_menIn_25 ?_
      refine lv_iload hx hb dX0_menIn_26 (lv_at hl 4 rfl) ?_
      refine lv_iadd hx hb dX0_menIn_28 ?_
      refine r_SN_i (As := [.ref (gg_a g (ky k0 2)), .int ((x2 * (6 : Int32)) + z5.2)]) (rest := [.int z5.1]) cx hw hf (nw_at cx) lk_X0_68 (fun q3 hq => k_X5_at l g hg (ky k0 2) (hk0.2.2.1 2 rfl) S ((x2 * (6 : Int32)) + z5.2) q3 hq) ⟨⟨rfl, rfl⟩, Nat.le_of_ble_eq_true rfl, Nat.le_of_ble_eq_true rfl⟩ rfl hl.1 rfl (Nat.le_of_ble_eq_true rfl) dX0_menIn_29 ⟨Nat.zero_le _, Nat.zero_le _⟩ (fun q3 H locs hw hf => ?_)
      refine lv_iload_n hx hb dX0_menIn_32 rfl (lv_at hl 1 rfl) ?_
      refine lv_icmp_ne hx hb dX0_menIn_33 (tgt := 43) rfl (fun hc4 => ?_) (fun hc4 => ?_)
      · replace hf := h_neg hc4 hf
        refine lv_iconst (v := 0) hx hb dX0_menIn_43 (by decide) ?_
        exact J44 _ _ _ z5.2 (0 : Int32) z5.1 (lv_sub hl [0, 1, 2, 4] rfl) hw hf
      replace hf := h_pos hc4 hf
      refine lv_iconst (v := 1) hx hb dX0_menIn_36 (by decide) ?_
      refine lv_iload hx hb dX0_menIn_37 (lv_at hl 4 rfl) ?_
      refine lv_ishl hx hb dX0_menIn_39 ?_
      refine lv_goto hx hb dX0_menIn_40 (tgt := 44) rfl ?_
      exact J44 _ _ _ z5.2 ((1 : Int32) <<< (z5.2 &&& 31)) z5.1 (lv_sub hl [0, 1, 2, 4] rfl) hw hf
  exact L5 x1 x2 some (fun v h => h) FU _ _ _ ((0 : Int32), (0 : Int32)) (lv_sub hl [2, 3, 4, 1, 0] rfl) hw hf
theorem dJ6_bitCount_0f7a4_0 : decode cJ6_bitCount_0f7a4 0 = .ok (.iload_n 0, 1) := by decide +kernel
theorem dJ6_bitCount_0f7a4_1 : decode cJ6_bitCount_0f7a4 1 = .ok (.iload_n 0, 1) := by decide +kernel
theorem dJ6_bitCount_0f7a4_2 : decode cJ6_bitCount_0f7a4 2 = .ok (.iconst 1, 1) := by decide +kernel
theorem dJ6_bitCount_0f7a4_3 : decode cJ6_bitCount_0f7a4 3 = .ok (.iushr, 1) := by decide +kernel
theorem dJ6_bitCount_0f7a4_4 : decode cJ6_bitCount_0f7a4 4 = .ok (.ldc_w 265, 3) := by decide +kernel
theorem dJ6_bitCount_0f7a4_7 : decode cJ6_bitCount_0f7a4 7 = .ok (.iand, 1) := by decide +kernel
theorem dJ6_bitCount_0f7a4_8 : decode cJ6_bitCount_0f7a4 8 = .ok (.isub, 1) := by decide +kernel
theorem dJ6_bitCount_0f7a4_9 : decode cJ6_bitCount_0f7a4 9 = .ok (.istore_n 0, 1) := by decide +kernel
theorem dJ6_bitCount_0f7a4_10 : decode cJ6_bitCount_0f7a4 10 = .ok (.iload_n 0, 1) := by decide +kernel
theorem dJ6_bitCount_0f7a4_11 : decode cJ6_bitCount_0f7a4 11 = .ok (.ldc_w 266, 3) := by decide +kernel
theorem dJ6_bitCount_0f7a4_14 : decode cJ6_bitCount_0f7a4 14 = .ok (.iand, 1) := by decide +kernel
theorem dJ6_bitCount_0f7a4_15 : decode cJ6_bitCount_0f7a4 15 = .ok (.iload_n 0, 1) := by decide +kernel
theorem dJ6_bitCount_0f7a4_16 : decode cJ6_bitCount_0f7a4 16 = .ok (.iconst 2, 1) := by decide +kernel
theorem dJ6_bitCount_0f7a4_17 : decode cJ6_bitCount_0f7a4 17 = .ok (.iushr, 1) := by decide +kernel
theorem dJ6_bitCount_0f7a4_18 : decode cJ6_bitCount_0f7a4 18 = .ok (.ldc_w 266, 3) := by decide +kernel
theorem dJ6_bitCount_0f7a4_21 : decode cJ6_bitCount_0f7a4 21 = .ok (.iand, 1) := by decide +kernel
theorem dJ6_bitCount_0f7a4_22 : decode cJ6_bitCount_0f7a4 22 = .ok (.iadd, 1) := by decide +kernel
theorem dJ6_bitCount_0f7a4_23 : decode cJ6_bitCount_0f7a4 23 = .ok (.istore_n 0, 1) := by decide +kernel
theorem dJ6_bitCount_0f7a4_24 : decode cJ6_bitCount_0f7a4 24 = .ok (.iload_n 0, 1) := by decide +kernel
theorem dJ6_bitCount_0f7a4_25 : decode cJ6_bitCount_0f7a4 25 = .ok (.iload_n 0, 1) := by decide +kernel
theorem dJ6_bitCount_0f7a4_26 : decode cJ6_bitCount_0f7a4 26 = .ok (.iconst 4, 1) := by decide +kernel
theorem dJ6_bitCount_0f7a4_27 : decode cJ6_bitCount_0f7a4 27 = .ok (.iushr, 1) := by decide +kernel
theorem dJ6_bitCount_0f7a4_28 : decode cJ6_bitCount_0f7a4 28 = .ok (.iadd, 1) := by decide +kernel
theorem dJ6_bitCount_0f7a4_29 : decode cJ6_bitCount_0f7a4 29 = .ok (.ldc_w 267, 3) := by decide +kernel
theorem dJ6_bitCount_0f7a4_32 : decode cJ6_bitCount_0f7a4 32 = .ok (.iand, 1) := by decide +kernel
theorem dJ6_bitCount_0f7a4_33 : decode cJ6_bitCount_0f7a4 33 = .ok (.istore_n 0, 1) := by decide +kernel
theorem dJ6_bitCount_0f7a4_34 : decode cJ6_bitCount_0f7a4 34 = .ok (.iload_n 0, 1) := by decide +kernel
theorem dJ6_bitCount_0f7a4_35 : decode cJ6_bitCount_0f7a4 35 = .ok (.iload_n 0, 1) := by decide +kernel
theorem dJ6_bitCount_0f7a4_36 : decode cJ6_bitCount_0f7a4 36 = .ok (.bipush 8, 2) := by decide +kernel
theorem dJ6_bitCount_0f7a4_38 : decode cJ6_bitCount_0f7a4 38 = .ok (.iushr, 1) := by decide +kernel
theorem dJ6_bitCount_0f7a4_39 : decode cJ6_bitCount_0f7a4 39 = .ok (.iadd, 1) := by decide +kernel
theorem dJ6_bitCount_0f7a4_40 : decode cJ6_bitCount_0f7a4 40 = .ok (.istore_n 0, 1) := by decide +kernel
theorem dJ6_bitCount_0f7a4_41 : decode cJ6_bitCount_0f7a4 41 = .ok (.iload_n 0, 1) := by decide +kernel
theorem dJ6_bitCount_0f7a4_42 : decode cJ6_bitCount_0f7a4 42 = .ok (.iload_n 0, 1) := by decide +kernel
theorem dJ6_bitCount_0f7a4_43 : decode cJ6_bitCount_0f7a4 43 = .ok (.bipush 16, 2) := by decide +kernel
theorem dJ6_bitCount_0f7a4_45 : decode cJ6_bitCount_0f7a4 45 = .ok (.iushr, 1) := by decide +kernel
theorem dJ6_bitCount_0f7a4_46 : decode cJ6_bitCount_0f7a4 46 = .ok (.iadd, 1) := by decide +kernel
theorem dJ6_bitCount_0f7a4_47 : decode cJ6_bitCount_0f7a4 47 = .ok (.istore_n 0, 1) := by decide +kernel
theorem dJ6_bitCount_0f7a4_48 : decode cJ6_bitCount_0f7a4 48 = .ok (.iload_n 0, 1) := by decide +kernel
theorem dJ6_bitCount_0f7a4_49 : decode cJ6_bitCount_0f7a4 49 = .ok (.bipush 63, 2) := by decide +kernel
theorem dJ6_bitCount_0f7a4_51 : decode cJ6_bitCount_0f7a4 51 = .ok (.iand, 1) := by decide +kernel
theorem dJ6_bitCount_0f7a4_52 : decode cJ6_bitCount_0f7a4 52 = .ok (.ireturn, 1) := by decide +kernel
abbrev rm_J6_bitCount_0f7a4 : Room := { frames := 0, cells := 0, slots := 0, locals := 0 }
def f_J6_bitCount_0f7a4 (x0 : Int32) : Option (Int32) :=
  lt_v (x0 - ((i_ushr x0 (1 : Int32)) &&& (1431655765 : Int32))) (fun (u1 : Int32) => lt_v ((u1 &&& (858993459 : Int32)) + ((i_ushr u1 (2 : Int32)) &&& (858993459 : Int32))) (fun (u2 : Int32) => lt_v ((u2 + (i_ushr u2 (4 : Int32))) &&& (252645135 : Int32)) (fun (u3 : Int32) => lt_v ((u3 + (i_ushr u3 (8 : Int32))) + (i_ushr (u3 + (i_ushr u3 (8 : Int32))) (16 : Int32))) (fun (u4 : Int32) => some (u4 &&& (63 : Int32))))))
set_option maxRecDepth 100000 in
set_option maxHeartbeats 4000000 in
theorem k_J6_bitCount_0f7a4 (l : Launch) (w : WD) (g : GG) (hg : gd w g)  (S : St) (x0 : Int32) (q : Int32) (hf : f_J6_bitCount_0f7a4   x0 = some q) : Met l yJ6_bitCount_0f7a4 (Cond.code yJ6_bitCount_0f7a4 cJ6_bitCount_0f7a4 1 (some .int) :: gw_tbl) rm_J6_bitCount_0f7a4 (va_Pc [.int x0] (wI w g S)) (qc_i w g S q) 0 0 (aw g) := by
  refine mt_start (own := RJ6) hg (by decide) rfl (Nat.le_of_ble_eq_true rfl) (fun p e s m args below meth c ls H locs cx hw hr hlk hl => ?_)
  have hx := cx.1
  have hb := cx.2.1
  have hown := cx.2.2.2.1
  have hts := cx.2.2.2.2.1
  have hl : lv_has ls 1 [(0, .int x0)] := hl
  replace hf := h_top hf
  unfold f_J6_bitCount_0f7a4 at hf
  refine lv_iload_n hx hb dJ6_bitCount_0f7a4_0 rfl (lv_at hl 0 rfl) ?_
  refine lv_iload_n hx hb dJ6_bitCount_0f7a4_1 rfl (lv_at hl 0 rfl) ?_
  refine lv_iconst (v := 1) hx hb dJ6_bitCount_0f7a4_2 (by decide) ?_
  refine lv_iushr (v := i_ushr x0 (1 : Int32)) hx hb dJ6_bitCount_0f7a4_3 rfl ?_
  refine lv_ldcw hx hb hown (hts _ wd_323) dJ6_bitCount_0f7a4_4 ?_
  refine lv_iand hx hb dJ6_bitCount_0f7a4_7 ?_
  refine lv_isub hx hb dJ6_bitCount_0f7a4_8 ?_
  refine r_leti hf (fun u1 hf => ?_)
  refine lv_istore_n hx hb dJ6_bitCount_0f7a4_9 rfl hl (by decide) (lv' := [(0, .int u1)]) rfl (fun ls hl => ?_)
  refine lv_iload_n hx hb dJ6_bitCount_0f7a4_10 rfl (lv_at hl 0 rfl) ?_
  refine lv_ldcw hx hb hown (hts _ wd_324) dJ6_bitCount_0f7a4_11 ?_
  refine lv_iand hx hb dJ6_bitCount_0f7a4_14 ?_
  refine lv_iload_n hx hb dJ6_bitCount_0f7a4_15 rfl (lv_at hl 0 rfl) ?_
  refine lv_iconst (v := 2) hx hb dJ6_bitCount_0f7a4_16 (by decide) ?_
  refine lv_iushr (v := i_ushr u1 (2 : Int32)) hx hb dJ6_bitCount_0f7a4_17 rfl ?_
  refine lv_ldcw hx hb hown (hts _ wd_324) dJ6_bitCount_0f7a4_18 ?_
  refine lv_iand hx hb dJ6_bitCount_0f7a4_21 ?_
  refine lv_iadd hx hb dJ6_bitCount_0f7a4_22 ?_
  refine r_leti hf (fun u2 hf => ?_)
  refine lv_istore_n hx hb dJ6_bitCount_0f7a4_23 rfl hl (by decide) (lv' := [(0, .int u2)]) rfl (fun ls hl => ?_)
  refine lv_iload_n hx hb dJ6_bitCount_0f7a4_24 rfl (lv_at hl 0 rfl) ?_
  refine lv_iload_n hx hb dJ6_bitCount_0f7a4_25 rfl (lv_at hl 0 rfl) ?_
  refine lv_iconst (v := 4) hx hb dJ6_bitCount_0f7a4_26 (by decide) ?_
  refine lv_iushr (v := i_ushr u2 (4 : Int32)) hx hb dJ6_bitCount_0f7a4_27 rfl ?_
  refine lv_iadd hx hb dJ6_bitCount_0f7a4_28 ?_
  refine lv_ldcw hx hb hown (hts _ wd_325) dJ6_bitCount_0f7a4_29 ?_
  refine lv_iand hx hb dJ6_bitCount_0f7a4_32 ?_
  refine r_leti hf (fun u3 hf => ?_)
  refine lv_istore_n hx hb dJ6_bitCount_0f7a4_33 rfl hl (by decide) (lv' := [(0, .int u3)]) rfl (fun ls hl => ?_)
  refine lv_iload_n hx hb dJ6_bitCount_0f7a4_34 rfl (lv_at hl 0 rfl) ?_
  refine lv_iload_n hx hb dJ6_bitCount_0f7a4_35 rfl (lv_at hl 0 rfl) ?_
  refine lv_bipush (v := 8) hx hb dJ6_bitCount_0f7a4_36 (by decide) ?_
  refine lv_iushr (v := i_ushr u3 (8 : Int32)) hx hb dJ6_bitCount_0f7a4_38 rfl ?_
  refine lv_iadd hx hb dJ6_bitCount_0f7a4_39 ?_
  refine lv_istore_n hx hb dJ6_bitCount_0f7a4_40 rfl hl (by decide) (lv' := [(0, .int (u3 + (i_ushr u3 (8 : Int32))))]) rfl (fun ls hl => ?_)
  refine lv_iload_n hx hb dJ6_bitCount_0f7a4_41 rfl (lv_at hl 0 rfl) ?_
  refine lv_iload_n hx hb dJ6_bitCount_0f7a4_42 rfl (lv_at hl 0 rfl) ?_
  refine lv_bipush (v := 16) hx hb dJ6_bitCount_0f7a4_43 (by decide) ?_
  refine lv_iushr (v := i_ushr (u3 + (i_ushr u3 (8 : Int32))) (16 : Int32)) hx hb dJ6_bitCount_0f7a4_45 rfl ?_
  refine lv_iadd hx hb dJ6_bitCount_0f7a4_46 ?_
  refine r_leti hf (fun u4 hf => ?_)
  refine lv_istore_n hx hb dJ6_bitCount_0f7a4_47 rfl hl (by decide) (lv' := [(0, .int u4)]) rfl (fun ls hl => ?_)
  refine lv_iload_n hx hb dJ6_bitCount_0f7a4_48 rfl (lv_at hl 0 rfl) ?_
  refine lv_bipush (v := 63) hx hb dJ6_bitCount_0f7a4_49 (by decide) ?_
  refine lv_iand hx hb dJ6_bitCount_0f7a4_51 ?_
  exact r_iret cx hw hr hlk hf dJ6_bitCount_0f7a4_52
theorem dX4_waysOf_0 : decode cX4_waysOf 0 = .ok (.iconst 0, 1) := by decide +kernel
theorem dX4_waysOf_1 : decode cX4_waysOf 1 = .ok (.istore_n 2, 1) := by decide +kernel
theorem dX4_waysOf_2 : decode cX4_waysOf 2 = .ok (.iconst 0, 1) := by decide +kernel
theorem dX4_waysOf_3 : decode cX4_waysOf 3 = .ok (.istore_n 3, 1) := by decide +kernel
theorem dX4_waysOf_4 : decode cX4_waysOf 4 = .ok (.iload_n 3, 1) := by decide +kernel
theorem dX4_waysOf_5 : decode cX4_waysOf 5 = .ok (.aload_n 0, 1) := by decide +kernel
theorem dX4_waysOf_6 : decode cX4_waysOf 6 = .ok (.getfield 54, 3) := by decide +kernel
theorem dX4_waysOf_9 : decode cX4_waysOf 9 = .ok (.if_icmp .ge 42, 3) := by decide +kernel
theorem dX4_waysOf_12 : decode cX4_waysOf 12 = .ok (.aload_n 0, 1) := by decide +kernel
theorem dX4_waysOf_13 : decode cX4_waysOf 13 = .ok (.getfield 9, 3) := by decide +kernel
theorem dX4_waysOf_16 : decode cX4_waysOf 16 = .ok (.iload_n 3, 1) := by decide +kernel
theorem dX4_waysOf_17 : decode cX4_waysOf 17 = .ok (.iconst 2, 1) := by decide +kernel
theorem dX4_waysOf_18 : decode cX4_waysOf 18 = .ok (.imul, 1) := by decide +kernel
theorem dX4_waysOf_19 : decode cX4_waysOf 19 = .ok (.invokestatic 91, 3) := by decide +kernel
theorem dX4_waysOf_22 : decode cX4_waysOf 22 = .ok (.iload_n 1, 1) := by decide +kernel
theorem dX4_waysOf_23 : decode cX4_waysOf 23 = .ok (.if_icmp .eq 19, 3) := by decide +kernel
theorem dX4_waysOf_26 : decode cX4_waysOf 26 = .ok (.aload_n 0, 1) := by decide +kernel
theorem dX4_waysOf_27 : decode cX4_waysOf 27 = .ok (.getfield 9, 3) := by decide +kernel
theorem dX4_waysOf_30 : decode cX4_waysOf 30 = .ok (.iload_n 3, 1) := by decide +kernel
theorem dX4_waysOf_31 : decode cX4_waysOf 31 = .ok (.iconst 2, 1) := by decide +kernel
theorem dX4_waysOf_32 : decode cX4_waysOf 32 = .ok (.imul, 1) := by decide +kernel
theorem dX4_waysOf_33 : decode cX4_waysOf 33 = .ok (.iconst 1, 1) := by decide +kernel
theorem dX4_waysOf_34 : decode cX4_waysOf 34 = .ok (.iadd, 1) := by decide +kernel
theorem dX4_waysOf_35 : decode cX4_waysOf 35 = .ok (.invokestatic 91, 3) := by decide +kernel
theorem dX4_waysOf_38 : decode cX4_waysOf 38 = .ok (.iload_n 1, 1) := by decide +kernel
theorem dX4_waysOf_39 : decode cX4_waysOf 39 = .ok (.if_icmp .ne 6, 3) := by decide +kernel
theorem dX4_waysOf_42 : decode cX4_waysOf 42 = .ok (.iinc 2 1, 3) := by decide +kernel
theorem dX4_waysOf_45 : decode cX4_waysOf 45 = .ok (.iinc 3 1, 3) := by decide +kernel
theorem dX4_waysOf_48 : decode cX4_waysOf 48 = .ok (.goto (-44), 3) := by decide +kernel
theorem dX4_waysOf_51 : decode cX4_waysOf 51 = .ok (.iload_n 2, 1) := by decide +kernel
theorem dX4_waysOf_52 : decode cX4_waysOf 52 = .ok (.ireturn, 1) := by decide +kernel
abbrev rm_X4_waysOf : Room := { frames := 1, cells := 0, slots := 0, locals := 21 }
def f_X4_waysOf_L4 (k0 : Nat) (S : St) (x1 : Int32) (z4 : Int32 × Int32) : Option ((Int32 × Int32) ⊕ (Int32)) :=
  if (st_I S (ky k0 1)) ≤ z4.2 then (some (.inr z4.1)) else ((f_X5_at (ky k0 7) S (z4.2 * (2 : Int32))).bind (fun (q2 : Int32) => if q2 = x1 then (some (.inl ((z4.1 + 1), (z4.2 + 1)))) else ((f_X5_at (ky k0 7) S ((z4.2 * (2 : Int32)) + (1 : Int32))).bind (fun (q4 : Int32) => if q4 = x1 then (some (.inl ((z4.1 + 1), (z4.2 + 1)))) else (some (.inl (z4.1, (z4.2 + 1))))))))
def f_X4_waysOf (k0 : Nat) (S : St) (x1 : Int32) : Option (Int32) :=
  iter (f_X4_waysOf_L4 k0 S x1) FU ((0 : Int32), (0 : Int32))
set_option maxRecDepth 100000 in
set_option maxHeartbeats 4000000 in
theorem k_X4_waysOf (l : Launch) (g : GG) (hg : gd wd_C g) (k0 : Nat) (hk0 : hT g k0) (S : St) (x1 : Int32) (q : Int32) (hf : f_X4_waysOf k0 S x1 = some q) : Met l yX4_waysOf (Cond.code yX4_waysOf cX4_waysOf 4 (some .int) :: gw_tbl) rm_X4_waysOf (va_Pc [.ref (gg_o g k0), .int x1] (wI wd_C g S)) (qc_i wd_C g S q) 0 0 (aw g) := by
  refine mt_start (own := RX4) hg (by decide) rfl (Nat.le_of_ble_eq_true rfl) (fun p e s m args below meth c ls H locs cx hw hr hlk hl => ?_)
  have hx := cx.1
  have hb := cx.2.1
  have hown := cx.2.2.2.1
  have hts := cx.2.2.2.2.1
  have hl : lv_has ls 4 [(0, .ref (gg_o g k0)), (1, .int x1)] := hl
  replace hf := h_top hf
  unfold f_X4_waysOf at hf
  refine lv_iconst (v := 0) hx hb dX4_waysOf_0 (by decide) ?_
  refine lv_istore_n hx hb dX4_waysOf_1 rfl hl (by decide) (lv' := [(2, .int (0 : Int32)), (0, .ref (gg_o g k0)), (1, .int x1)]) rfl (fun ls hl => ?_)
  refine lv_iconst (v := 0) hx hb dX4_waysOf_2 (by decide) ?_
  refine lv_istore_n hx hb dX4_waysOf_3 rfl hl (by decide) (lv' := [(3, .int (0 : Int32)), (2, .int (0 : Int32)), (0, .ref (gg_o g k0)), (1, .int x1)]) rfl (fun ls hl => ?_)
  have L4 : ∀ (x1 : Int32) (aft4 : Int32 → Option (Int32)), (∀ v : Int32, aft4 v = some q → (some v : Option (Int32)).bind some = some q) → ∀ (n4 : Nat) (ls : Array Slot) (H : Heap) (locs : List Loc) (z4 : Int32 × Int32), lv_has ls 4 [(0, .ref (gg_o g k0)), (1, .int x1), (2, .int z4.1), (3, .int z4.2)] → HH wd_C g s S H locs → (iter (f_X4_waysOf_L4 k0 S x1) n4 z4).bind aft4 = some q → W p l e rm_X4_waysOf s m args below meth c H locs 0 0 (MQ below (qc_i wd_C g S q) args s 0 0 (aw g)) (F0 m 4 ls []) := by
    intro x1 aft4 hR4 n4
    induction n4 with
    | zero => intro ls H locs z4 hl hw hf; exact h_iter0 hf
    | succ n4 ih4 =>
      intro ls H locs z4 hl hw hf
      replace hf := h_iter hf
      unfold f_X4_waysOf_L4 at hf
      refine lv_iload_n hx hb dX4_waysOf_4 rfl (lv_at hl 3 rfl) ?_
      refine lv_aload_n hx hb dX4_waysOf_5 rfl (lv_at hl 0 rfl) ?_
      refine gf_X4_54 cx hw hk0.1 dX4_waysOf_6 ?_
      refine lv_icmp_ge hx hb dX4_waysOf_9 (tgt := 51) rfl (fun hc1 => ?_) (fun hc1 => ?_)
      · replace hf := h_pos hc1 hf
        refine lv_iload_n hx hb dX4_waysOf_51 rfl (lv_at hl 2 rfl) ?_
        replace hf := hR4 z4.1 hf
        exact r_iret cx hw hr hlk hf dX4_waysOf_52
      replace hf := h_neg hc1 hf
      refine lv_aload_n hx hb dX4_waysOf_12 rfl (lv_at hl 0 rfl) ?_
      refine gf_X4_9 cx hw hk0.1 dX4_waysOf_13 ?_
      refine lv_iload_n hx hb dX4_waysOf_16 rfl (lv_at hl 3 rfl) ?_
      refine lv_iconst (v := 2) hx hb dX4_waysOf_17 (by decide) ?_
      refine lv_imul hx hb dX4_waysOf_18 ?_
      refine r_SN_i (As := [.ref (gg_a g (ky k0 7)), .int (z4.2 * (2 : Int32))]) (rest := []) cx hw hf (nw_at cx) lk_X4_91 (fun q2 hq => k_X5_at l g hg (ky k0 7) (hk0.1.2.2.1 7 rfl) S (z4.2 * (2 : Int32)) q2 hq) ⟨⟨rfl, rfl⟩, Nat.le_of_ble_eq_true rfl, Nat.le_of_ble_eq_true rfl⟩ rfl hl.1 rfl (Nat.le_of_ble_eq_true rfl) dX4_waysOf_19 ⟨Nat.zero_le _, Nat.zero_le _⟩ (fun q2 H locs hw hf => ?_)
      refine lv_iload_n hx hb dX4_waysOf_22 rfl (lv_at hl 1 rfl) ?_
      refine lv_icmp_eq hx hb dX4_waysOf_23 (tgt := 42) rfl (fun hc3 => ?_) (fun hc3 => ?_)
      · replace hf := h_pos hc3 hf
        refine lv_iinc hx hb dX4_waysOf_42 hl (k := 2) rfl (congrArg (HAdd.hAdd _) (show Int32.ofInt (1) = 1 by decide)) (by decide) (lv' := [(2, .int (z4.1 + 1)), (0, .ref (gg_o g k0)), (1, .int x1), (3, .int z4.2)]) rfl (fun ls hl => ?_)
        refine lv_iinc hx hb dX4_waysOf_45 hl (k := 3) rfl (congrArg (HAdd.hAdd _) (show Int32.ofInt (1) = 1 by decide)) (by decide) (lv' := [(3, .int (z4.2 + 1)), (2, .int (z4.1 + 1)), (0, .ref (gg_o g k0)), (1, .int x1)]) rfl (fun ls hl => ?_)
        refine lv_goto hx hb dX4_waysOf_48 (tgt := 4) rfl ?_
        exact ih4 _ _ _ ((z4.1 + 1), (z4.2 + 1)) (lv_sub hl [2, 3, 1, 0] rfl) hw hf
      replace hf := h_neg hc3 hf
      refine lv_aload_n hx hb dX4_waysOf_26 rfl (lv_at hl 0 rfl) ?_
      refine gf_X4_9 cx hw hk0.1 dX4_waysOf_27 ?_
      refine lv_iload_n hx hb dX4_waysOf_30 rfl (lv_at hl 3 rfl) ?_
      refine lv_iconst (v := 2) hx hb dX4_waysOf_31 (by decide) ?_
      refine lv_imul hx hb dX4_waysOf_32 ?_
      refine lv_iconst (v := 1) hx hb dX4_waysOf_33 (by decide) ?_
      refine lv_iadd hx hb dX4_waysOf_34 ?_
      refine r_SN_i (As := [.ref (gg_a g (ky k0 7)), .int ((z4.2 * (2 : Int32)) + (1 : Int32))]) (rest := []) cx hw hf (nw_at cx) lk_X4_91 (fun q4 hq => k_X5_at l g hg (ky k0 7) (hk0.1.2.2.1 7 rfl) S ((z4.2 * (2 : Int32)) + (1 : Int32)) q4 hq) ⟨⟨rfl, rfl⟩, Nat.le_of_ble_eq_true rfl, Nat.le_of_ble_eq_true rfl⟩ rfl hl.1 rfl (Nat.le_of_ble_eq_true rfl) dX4_waysOf_35 ⟨Nat.zero_le _, Nat.zero_le _⟩ (fun q4 H locs hw hf => ?_)
      refine lv_iload_n hx hb dX4_waysOf_38 rfl (lv_at hl 1 rfl) ?_
      refine lv_icmp_ne hx hb dX4_waysOf_39 (tgt := 45) rfl (fun hc5 => ?_) (fun hc5 => ?_)
      · replace hf := h_neg hc5 hf
        refine lv_iinc hx hb dX4_waysOf_45 hl (k := 3) rfl (congrArg (HAdd.hAdd _) (show Int32.ofInt (1) = 1 by decide)) (by decide) (lv' := [(3, .int (z4.2 + 1)), (0, .ref (gg_o g k0)), (1, .int x1), (2, .int z4.1)]) rfl (fun ls hl => ?_)
        refine lv_goto hx hb dX4_waysOf_48 (tgt := 4) rfl ?_
        exact ih4 _ _ _ (z4.1, (z4.2 + 1)) (lv_sub hl [1, 2, 3, 0] rfl) hw hf
      replace hf := h_pos hc5 hf
      refine lv_iinc hx hb dX4_waysOf_42 hl (k := 2) rfl (congrArg (HAdd.hAdd _) (show Int32.ofInt (1) = 1 by decide)) (by decide) (lv' := [(2, .int (z4.1 + 1)), (0, .ref (gg_o g k0)), (1, .int x1), (3, .int z4.2)]) rfl (fun ls hl => ?_)
      refine lv_iinc hx hb dX4_waysOf_45 hl (k := 3) rfl (congrArg (HAdd.hAdd _) (show Int32.ofInt (1) = 1 by decide)) (by decide) (lv' := [(3, .int (z4.2 + 1)), (2, .int (z4.1 + 1)), (0, .ref (gg_o g k0)), (1, .int x1)]) rfl (fun ls hl => ?_)
      refine lv_goto hx hb dX4_waysOf_48 (tgt := 4) rfl ?_
      exact ih4 _ _ _ ((z4.1 + 1), (z4.2 + 1)) (lv_sub hl [2, 3, 1, 0] rfl) hw hf
  exact L4 x1 some (fun v h => h) FU _ _ _ ((0 : Int32), (0 : Int32)) (lv_sub hl [2, 3, 1, 0] rfl) hw hf
theorem dX1_setVars_0 : decode cX1_setVars 0 = .ok (.aload_n 0, 1) := by decide +kernel
theorem dX1_setVars_1 : decode cX1_setVars 1 = .ok (.getfield 22, 3) := by decide +kernel
theorem dX1_setVars_4 : decode cX1_setVars 4 = .ok (.iconst 0, 1) := by decide +kernel
theorem dX1_setVars_5 : decode cX1_setVars 5 = .ok (.iload_n 1, 1) := by decide +kernel
theorem dX1_setVars_6 : decode cX1_setVars 6 = .ok (.invokestatic 33, 3) := by decide +kernel
theorem dX1_setVars_9 : decode cX1_setVars 9 = .ok (.aload_n 0, 1) := by decide +kernel
theorem dX1_setVars_10 : decode cX1_setVars 10 = .ok (.getfield 22, 3) := by decide +kernel
theorem dX1_setVars_13 : decode cX1_setVars 13 = .ok (.iconst 1, 1) := by decide +kernel
theorem dX1_setVars_14 : decode cX1_setVars 14 = .ok (.iload_n 2, 1) := by decide +kernel
theorem dX1_setVars_15 : decode cX1_setVars 15 = .ok (.invokestatic 33, 3) := by decide +kernel
theorem dX1_setVars_18 : decode cX1_setVars 18 = .ok (.aload_n 0, 1) := by decide +kernel
theorem dX1_setVars_19 : decode cX1_setVars 19 = .ok (.getfield 22, 3) := by decide +kernel
theorem dX1_setVars_22 : decode cX1_setVars 22 = .ok (.iconst 2, 1) := by decide +kernel
theorem dX1_setVars_23 : decode cX1_setVars 23 = .ok (.iload_n 3, 1) := by decide +kernel
theorem dX1_setVars_24 : decode cX1_setVars 24 = .ok (.invokestatic 33, 3) := by decide +kernel
theorem dX1_setVars_27 : decode cX1_setVars 27 = .ok (.aload_n 0, 1) := by decide +kernel
theorem dX1_setVars_28 : decode cX1_setVars 28 = .ok (.getfield 22, 3) := by decide +kernel
theorem dX1_setVars_31 : decode cX1_setVars 31 = .ok (.iconst 3, 1) := by decide +kernel
theorem dX1_setVars_32 : decode cX1_setVars 32 = .ok (.iload 4, 2) := by decide +kernel
theorem dX1_setVars_34 : decode cX1_setVars 34 = .ok (.invokestatic 33, 3) := by decide +kernel
theorem dX1_setVars_37 : decode cX1_setVars 37 = .ok (.aload_n 0, 1) := by decide +kernel
theorem dX1_setVars_38 : decode cX1_setVars 38 = .ok (.getfield 22, 3) := by decide +kernel
theorem dX1_setVars_41 : decode cX1_setVars 41 = .ok (.iconst 4, 1) := by decide +kernel
theorem dX1_setVars_42 : decode cX1_setVars 42 = .ok (.iload 5, 2) := by decide +kernel
theorem dX1_setVars_44 : decode cX1_setVars 44 = .ok (.invokestatic 33, 3) := by decide +kernel
theorem dX1_setVars_47 : decode cX1_setVars 47 = .ok (.aload_n 0, 1) := by decide +kernel
theorem dX1_setVars_48 : decode cX1_setVars 48 = .ok (.getfield 22, 3) := by decide +kernel
theorem dX1_setVars_51 : decode cX1_setVars 51 = .ok (.iconst 5, 1) := by decide +kernel
theorem dX1_setVars_52 : decode cX1_setVars 52 = .ok (.iload 6, 2) := by decide +kernel
theorem dX1_setVars_54 : decode cX1_setVars 54 = .ok (.invokestatic 33, 3) := by decide +kernel
theorem dX1_setVars_57 : decode cX1_setVars 57 = .ok (.return_, 1) := by decide +kernel
abbrev rm_X1_setVars : Room := { frames := 1, cells := 0, slots := 0, locals := 22 }
def f_X1_setVars (k0 : Nat) (S : St) (x1 : Int32) (x2 : Int32) (x3 : Int32) (x4 : Int32) (x5 : Int32) (x6 : Int32) : Option (St) :=
  (f_X5_put (ky k0 6) S (0 : Int32) x1).bind (fun (q1 : St) => (f_X5_put (ky k0 6) q1 (1 : Int32) x2).bind (fun (q2 : St) => (f_X5_put (ky k0 6) q2 (2 : Int32) x3).bind (fun (q3 : St) => (f_X5_put (ky k0 6) q3 (3 : Int32) x4).bind (fun (q4 : St) => (f_X5_put (ky k0 6) q4 (4 : Int32) x5).bind (fun (q5 : St) => (f_X5_put (ky k0 6) q5 (5 : Int32) x6).bind (fun (q6 : St) => some q6))))))
set_option maxRecDepth 100000 in
set_option maxHeartbeats 4000000 in
theorem k_X1_setVars (l : Launch) (g : GG) (hg : gd wd_C g) (k0 : Nat) (hk0 : hs wd_C g k0 1) (S : St) (x1 : Int32) (x2 : Int32) (x3 : Int32) (x4 : Int32) (x5 : Int32) (x6 : Int32) (q : St) (hf : f_X1_setVars k0 S x1 x2 x3 x4 x5 x6 = some q) : Met l yX1_setVars (Cond.code yX1_setVars cX1_setVars 7 none :: gw_tbl) rm_X1_setVars (va_Pc [.ref (gg_o g k0), .int x1, .int x2, .int x3, .int x4, .int x5, .int x6] (wI wd_C g S)) (qc_v wd_C g q) 0 0 (aw g) := by
  refine mt_start (own := RX1) hg (by decide) rfl (Nat.le_of_ble_eq_true rfl) (fun p e s m args below meth c ls H locs cx hw hr hlk hl => ?_)
  have hx := cx.1
  have hb := cx.2.1
  have hown := cx.2.2.2.1
  have hts := cx.2.2.2.2.1
  have hl : lv_has ls 7 [(0, .ref (gg_o g k0)), (1, .int x1), (2, .int x2), (3, .int x3), (4, .int x4), (5, .int x5), (6, .int x6)] := hl
  replace hf := h_top hf
  unfold f_X1_setVars at hf
  refine lv_aload_n hx hb dX1_setVars_0 rfl (lv_at hl 0 rfl) ?_
  refine gf_X1_22 cx hw hk0 dX1_setVars_1 ?_
  refine lv_iconst (v := 0) hx hb dX1_setVars_4 (by decide) ?_
  refine lv_iload_n hx hb dX1_setVars_5 rfl (lv_at hl 1 rfl) ?_
  refine r_SN_v (As := [.ref (gg_a g (ky k0 6)), .int (0 : Int32), .int x1]) (rest := []) cx hw hf (nw_at cx) lk_X1_33 (fun q1 hq => k_X5_put l g hg (ky k0 6) (hk0.2.2.1 6 rfl) S (0 : Int32) x1 q1 hq) ⟨⟨rfl, rfl⟩, Nat.le_of_ble_eq_true rfl, Nat.le_of_ble_eq_true rfl⟩ rfl hl.1 rfl (Nat.le_of_ble_eq_true rfl) dX1_setVars_6 ⟨Nat.zero_le _, Nat.zero_le _⟩ (fun q1 H locs hw hf => ?_)
  refine lv_aload_n hx hb dX1_setVars_9 rfl (lv_at hl 0 rfl) ?_
  refine gf_X1_22 cx hw hk0 dX1_setVars_10 ?_
  refine lv_iconst (v := 1) hx hb dX1_setVars_13 (by decide) ?_
  refine lv_iload_n hx hb dX1_setVars_14 rfl (lv_at hl 2 rfl) ?_
  refine r_SN_v (As := [.ref (gg_a g (ky k0 6)), .int (1 : Int32), .int x2]) (rest := []) cx hw hf (nw_at cx) lk_X1_33 (fun q2 hq => k_X5_put l g hg (ky k0 6) (hk0.2.2.1 6 rfl) q1 (1 : Int32) x2 q2 hq) ⟨⟨rfl, rfl⟩, Nat.le_of_ble_eq_true rfl, Nat.le_of_ble_eq_true rfl⟩ rfl hl.1 rfl (Nat.le_of_ble_eq_true rfl) dX1_setVars_15 ⟨Nat.zero_le _, Nat.zero_le _⟩ (fun q2 H locs hw hf => ?_)
  refine lv_aload_n hx hb dX1_setVars_18 rfl (lv_at hl 0 rfl) ?_
  refine gf_X1_22 cx hw hk0 dX1_setVars_19 ?_
  refine lv_iconst (v := 2) hx hb dX1_setVars_22 (by decide) ?_
  refine lv_iload_n hx hb dX1_setVars_23 rfl (lv_at hl 3 rfl) ?_
  refine r_SN_v (As := [.ref (gg_a g (ky k0 6)), .int (2 : Int32), .int x3]) (rest := []) cx hw hf (nw_at cx) lk_X1_33 (fun q3 hq => k_X5_put l g hg (ky k0 6) (hk0.2.2.1 6 rfl) q2 (2 : Int32) x3 q3 hq) ⟨⟨rfl, rfl⟩, Nat.le_of_ble_eq_true rfl, Nat.le_of_ble_eq_true rfl⟩ rfl hl.1 rfl (Nat.le_of_ble_eq_true rfl) dX1_setVars_24 ⟨Nat.zero_le _, Nat.zero_le _⟩ (fun q3 H locs hw hf => ?_)
  refine lv_aload_n hx hb dX1_setVars_27 rfl (lv_at hl 0 rfl) ?_
  refine gf_X1_22 cx hw hk0 dX1_setVars_28 ?_
  refine lv_iconst (v := 3) hx hb dX1_setVars_31 (by decide) ?_
  refine lv_iload hx hb dX1_setVars_32 (lv_at hl 4 rfl) ?_
  refine r_SN_v (As := [.ref (gg_a g (ky k0 6)), .int (3 : Int32), .int x4]) (rest := []) cx hw hf (nw_at cx) lk_X1_33 (fun q4 hq => k_X5_put l g hg (ky k0 6) (hk0.2.2.1 6 rfl) q3 (3 : Int32) x4 q4 hq) ⟨⟨rfl, rfl⟩, Nat.le_of_ble_eq_true rfl, Nat.le_of_ble_eq_true rfl⟩ rfl hl.1 rfl (Nat.le_of_ble_eq_true rfl) dX1_setVars_34 ⟨Nat.zero_le _, Nat.zero_le _⟩ (fun q4 H locs hw hf => ?_)
  refine lv_aload_n hx hb dX1_setVars_37 rfl (lv_at hl 0 rfl) ?_
  refine gf_X1_22 cx hw hk0 dX1_setVars_38 ?_
  refine lv_iconst (v := 4) hx hb dX1_setVars_41 (by decide) ?_
  refine lv_iload hx hb dX1_setVars_42 (lv_at hl 5 rfl) ?_
  refine r_SN_v (As := [.ref (gg_a g (ky k0 6)), .int (4 : Int32), .int x5]) (rest := []) cx hw hf (nw_at cx) lk_X1_33 (fun q5 hq => k_X5_put l g hg (ky k0 6) (hk0.2.2.1 6 rfl) q4 (4 : Int32) x5 q5 hq) ⟨⟨rfl, rfl⟩, Nat.le_of_ble_eq_true rfl, Nat.le_of_ble_eq_true rfl⟩ rfl hl.1 rfl (Nat.le_of_ble_eq_true rfl) dX1_setVars_44 ⟨Nat.zero_le _, Nat.zero_le _⟩ (fun q5 H locs hw hf => ?_)
  refine lv_aload_n hx hb dX1_setVars_47 rfl (lv_at hl 0 rfl) ?_
  refine gf_X1_22 cx hw hk0 dX1_setVars_48 ?_
  refine lv_iconst (v := 5) hx hb dX1_setVars_51 (by decide) ?_
  refine lv_iload hx hb dX1_setVars_52 (lv_at hl 6 rfl) ?_
  refine r_SN_v (As := [.ref (gg_a g (ky k0 6)), .int (5 : Int32), .int x6]) (rest := []) cx hw hf (nw_at cx) lk_X1_33 (fun q6 hq => k_X5_put l g hg (ky k0 6) (hk0.2.2.1 6 rfl) q5 (5 : Int32) x6 q6 hq) ⟨⟨rfl, rfl⟩, Nat.le_of_ble_eq_true rfl, Nat.le_of_ble_eq_true rfl⟩ rfl hl.1 rfl (Nat.le_of_ble_eq_true rfl) dX1_setVars_54 ⟨Nat.zero_le _, Nat.zero_le _⟩ (fun q6 H locs hw hf => ?_)
  exact r_vret cx hw hr hlk hf dX1_setVars_57
theorem dX1_reckon_0 : decode cX1_reckon 0 = .ok (.iload_n 0, 1) := by decide +kernel
theorem dX1_reckon_1 : decode cX1_reckon 1 = .ok (.tableswitch 43 42 45 #[39, 31, 43, 35], 31) := by decide +kernel
theorem dX1_reckon_32 : decode cX1_reckon 32 = .ok (.iload_n 1, 1) := by decide +kernel
theorem dX1_reckon_33 : decode cX1_reckon 33 = .ok (.iload_n 2, 1) := by decide +kernel
theorem dX1_reckon_34 : decode cX1_reckon 34 = .ok (.iadd, 1) := by decide +kernel
theorem dX1_reckon_35 : decode cX1_reckon 35 = .ok (.ireturn, 1) := by decide +kernel
theorem dX1_reckon_36 : decode cX1_reckon 36 = .ok (.iload_n 1, 1) := by decide +kernel
theorem dX1_reckon_37 : decode cX1_reckon 37 = .ok (.iload_n 2, 1) := by decide +kernel
theorem dX1_reckon_38 : decode cX1_reckon 38 = .ok (.isub, 1) := by decide +kernel
theorem dX1_reckon_39 : decode cX1_reckon 39 = .ok (.ireturn, 1) := by decide +kernel
theorem dX1_reckon_40 : decode cX1_reckon 40 = .ok (.iload_n 1, 1) := by decide +kernel
theorem dX1_reckon_41 : decode cX1_reckon 41 = .ok (.iload_n 2, 1) := by decide +kernel
theorem dX1_reckon_42 : decode cX1_reckon 42 = .ok (.imul, 1) := by decide +kernel
theorem dX1_reckon_43 : decode cX1_reckon 43 = .ok (.ireturn, 1) := by decide +kernel
theorem dX1_reckon_44 : decode cX1_reckon 44 = .ok (.iload_n 2, 1) := by decide +kernel
theorem dX1_reckon_45 : decode cX1_reckon 45 = .ok (.ifCond .ne 7, 3) := by decide +kernel
theorem dX1_reckon_48 : decode cX1_reckon 48 = .ok (.iconst 0, 1) := by decide +kernel
theorem dX1_reckon_49 : decode cX1_reckon 49 = .ok (.goto 6, 3) := by decide +kernel
theorem dX1_reckon_52 : decode cX1_reckon 52 = .ok (.iload_n 1, 1) := by decide +kernel
theorem dX1_reckon_53 : decode cX1_reckon 53 = .ok (.iload_n 2, 1) := by decide +kernel
theorem dX1_reckon_54 : decode cX1_reckon 54 = .ok (.idiv, 1) := by decide +kernel
theorem dX1_reckon_55 : decode cX1_reckon 55 = .ok (.ireturn, 1) := by decide +kernel
abbrev rm_X1_reckon : Room := { frames := 0, cells := 0, slots := 0, locals := 0 }
def f_X1_reckon (x0 : Int32) (x1 : Int32) (x2 : Int32) : Option (Int32) :=
  if x0 = 42 then (some (x1 * x2)) else (if x0 = 43 then (some (x1 + x2)) else (if x0 = 45 then (some (x1 - x2)) else (if x2 = 0 then (some (0 : Int32)) else (chk (¬ x2 = 0) (some (x1 / x2))))))
set_option maxRecDepth 100000 in
set_option maxHeartbeats 4000000 in
theorem k_X1_reckon (l : Launch) (g : GG) (hg : gd wd_C g)  (S : St) (x0 : Int32) (x1 : Int32) (x2 : Int32) (q : Int32) (hf : f_X1_reckon   x0 x1 x2 = some q) : Met l yX1_reckon (Cond.code yX1_reckon cX1_reckon 3 (some .int) :: gw_tbl) rm_X1_reckon (va_Pc [.int x0, .int x1, .int x2] (wI wd_C g S)) (qc_i wd_C g S q) 0 0 (aw g) := by
  refine mt_start (own := RX1) hg (by decide) rfl (Nat.le_of_ble_eq_true rfl) (fun p e s m args below meth c ls H locs cx hw hr hlk hl => ?_)
  have hx := cx.1
  have hb := cx.2.1
  have hown := cx.2.2.2.1
  have hts := cx.2.2.2.2.1
  have hl : lv_has ls 3 [(0, .int x0), (1, .int x1), (2, .int x2)] := hl
  replace hf := h_top hf
  unfold f_X1_reckon at hf
  refine lv_iload_n hx hb dX1_reckon_0 rfl (lv_at hl 0 rfl) ?_
  by_cases hc1_42 : x0 = 42
  · replace hf := h_pos hc1_42 hf
    refine lv_tableIn hx hb dX1_reckon_1 (by rw [hc1_42]; decide) (by rw [hc1_42]; decide) (off := 39) (by rw [hc1_42]; rfl) (tgt := 40) rfl ?_
    refine lv_iload_n hx hb dX1_reckon_40 rfl (lv_at hl 1 rfl) ?_
    refine lv_iload_n hx hb dX1_reckon_41 rfl (lv_at hl 2 rfl) ?_
    refine lv_imul hx hb dX1_reckon_42 ?_
    exact r_iret cx hw hr hlk hf dX1_reckon_43
  replace hf := h_neg hc1_42 hf
  by_cases hc1_43 : x0 = 43
  · replace hf := h_pos hc1_43 hf
    refine lv_tableIn hx hb dX1_reckon_1 (by rw [hc1_43]; decide) (by rw [hc1_43]; decide) (off := 31) (by rw [hc1_43]; rfl) (tgt := 32) rfl ?_
    refine lv_iload_n hx hb dX1_reckon_32 rfl (lv_at hl 1 rfl) ?_
    refine lv_iload_n hx hb dX1_reckon_33 rfl (lv_at hl 2 rfl) ?_
    refine lv_iadd hx hb dX1_reckon_34 ?_
    exact r_iret cx hw hr hlk hf dX1_reckon_35
  replace hf := h_neg hc1_43 hf
  by_cases hc1_45 : x0 = 45
  · replace hf := h_pos hc1_45 hf
    refine lv_tableIn hx hb dX1_reckon_1 (by rw [hc1_45]; decide) (by rw [hc1_45]; decide) (off := 35) (by rw [hc1_45]; rfl) (tgt := 36) rfl ?_
    refine lv_iload_n hx hb dX1_reckon_36 rfl (lv_at hl 1 rfl) ?_
    refine lv_iload_n hx hb dX1_reckon_37 rfl (lv_at hl 2 rfl) ?_
    refine lv_isub hx hb dX1_reckon_38 ?_
    exact r_iret cx hw hr hlk hf dX1_reckon_39
  replace hf := h_neg hc1_45 hf
  have hD1 : W p l e rm_X1_reckon s m args below meth c H locs 0 0 (MQ below (qc_i wd_C g S q) args s 0 0 (aw g)) (F0 m 44 ls []) := by
    refine lv_iload_n hx hb dX1_reckon_44 rfl (lv_at hl 2 rfl) ?_
    refine lv_if_ne hx hb dX1_reckon_45 (tgt := 52) rfl (fun hc2 => ?_) (fun hc2 => ?_)
    · replace hf := h_neg hc2 hf
      refine lv_iload_n hx hb dX1_reckon_52 rfl (lv_at hl 1 rfl) ?_
      refine lv_iload_n hx hb dX1_reckon_53 rfl (lv_at hl 2 rfl) ?_
      obtain ⟨hc3, hf⟩ := h_chk hf
      refine lv_idiv hx hb dX1_reckon_54 hc3 ?_
      exact r_iret cx hw hr hlk hf dX1_reckon_55
    replace hf := h_pos hc2 hf
    refine lv_iconst (v := 0) hx hb dX1_reckon_48 (by decide) ?_
    refine lv_goto hx hb dX1_reckon_49 (tgt := 55) rfl ?_
    exact r_iret cx hw hr hlk hf dX1_reckon_55
  by_cases hc1_44 : x0 = 44
  · exact lv_tableIn hx hb dX1_reckon_1 (by rw [hc1_44]; decide) (by rw [hc1_44]; decide) (off := 43) (by rw [hc1_44]; rfl) (tgt := 44) rfl hD1
  refine lv_tableOut hx hb dX1_reckon_1 (ts_out (lo := 42) (hi := 45) (by decide) (by decide) (fun i h1 h2 => ?_)) (tgt := 44) rfl hD1
  rcases (show i = 42 ∨ i = 43 ∨ i = 44 ∨ i = 45 by omega) with rfl | rfl | rfl | rfl
  · exact hc1_42
  · exact hc1_43
  · exact hc1_44
  · exact hc1_45
theorem dX1_valueOf_0 : decode cX1_valueOf 0 = .ok (.iconst 0, 1) := by decide +kernel
theorem dX1_valueOf_1 : decode cX1_valueOf 1 = .ok (.istore_n 2, 1) := by decide +kernel
theorem dX1_valueOf_2 : decode cX1_valueOf 2 = .ok (.iload_n 1, 1) := by decide +kernel
theorem dX1_valueOf_3 : decode cX1_valueOf 3 = .ok (.istore_n 3, 1) := by decide +kernel
theorem dX1_valueOf_4 : decode cX1_valueOf 4 = .ok (.iload_n 3, 1) := by decide +kernel
theorem dX1_valueOf_5 : decode cX1_valueOf 5 = .ok (.aload_n 0, 1) := by decide +kernel
theorem dX1_valueOf_6 : decode cX1_valueOf 6 = .ok (.getfield 25, 3) := by decide +kernel
theorem dX1_valueOf_9 : decode cX1_valueOf 9 = .ok (.if_icmp .ge 182, 3) := by decide +kernel
theorem dX1_valueOf_12 : decode cX1_valueOf 12 = .ok (.aload_n 0, 1) := by decide +kernel
theorem dX1_valueOf_13 : decode cX1_valueOf 13 = .ok (.getfield 9, 3) := by decide +kernel
theorem dX1_valueOf_16 : decode cX1_valueOf 16 = .ok (.iload_n 3, 1) := by decide +kernel
theorem dX1_valueOf_17 : decode cX1_valueOf 17 = .ok (.invokestatic 48, 3) := by decide +kernel
theorem dX1_valueOf_20 : decode cX1_valueOf 20 = .ok (.istore 4, 2) := by decide +kernel
theorem dX1_valueOf_22 : decode cX1_valueOf 22 = .ok (.aload_n 0, 1) := by decide +kernel
theorem dX1_valueOf_23 : decode cX1_valueOf 23 = .ok (.getfield 13, 3) := by decide +kernel
theorem dX1_valueOf_26 : decode cX1_valueOf 26 = .ok (.iload_n 3, 1) := by decide +kernel
theorem dX1_valueOf_27 : decode cX1_valueOf 27 = .ok (.invokestatic 48, 3) := by decide +kernel
theorem dX1_valueOf_30 : decode cX1_valueOf 30 = .ok (.istore 5, 2) := by decide +kernel
theorem dX1_valueOf_32 : decode cX1_valueOf 32 = .ok (.iload 4, 2) := by decide +kernel
theorem dX1_valueOf_34 : decode cX1_valueOf 34 = .ok (.iconst 3, 1) := by decide +kernel
theorem dX1_valueOf_35 : decode cX1_valueOf 35 = .ok (.if_icmp .ne 14, 3) := by decide +kernel
theorem dX1_valueOf_38 : decode cX1_valueOf 38 = .ok (.aload_n 0, 1) := by decide +kernel
theorem dX1_valueOf_39 : decode cX1_valueOf 39 = .ok (.getfield 19, 3) := by decide +kernel
theorem dX1_valueOf_42 : decode cX1_valueOf 42 = .ok (.iload_n 2, 1) := by decide +kernel
theorem dX1_valueOf_43 : decode cX1_valueOf 43 = .ok (.iconst 1, 1) := by decide +kernel
theorem dX1_valueOf_44 : decode cX1_valueOf 44 = .ok (.isub, 1) := by decide +kernel
theorem dX1_valueOf_45 : decode cX1_valueOf 45 = .ok (.invokestatic 48, 3) := by decide +kernel
theorem dX1_valueOf_48 : decode cX1_valueOf 48 = .ok (.ireturn, 1) := by decide +kernel
theorem dX1_valueOf_49 : decode cX1_valueOf 49 = .ok (.iload 4, 2) := by decide +kernel
theorem dX1_valueOf_51 : decode cX1_valueOf 51 = .ok (.ifCond .eq 9, 3) := by decide +kernel
theorem dX1_valueOf_54 : decode cX1_valueOf 54 = .ok (.iload 4, 2) := by decide +kernel
theorem dX1_valueOf_56 : decode cX1_valueOf 56 = .ok (.iconst 1, 1) := by decide +kernel
theorem dX1_valueOf_57 : decode cX1_valueOf 57 = .ok (.if_icmp .ne 36, 3) := by decide +kernel
theorem dX1_valueOf_60 : decode cX1_valueOf 60 = .ok (.aload_n 0, 1) := by decide +kernel
theorem dX1_valueOf_61 : decode cX1_valueOf 61 = .ok (.getfield 19, 3) := by decide +kernel
theorem dX1_valueOf_64 : decode cX1_valueOf 64 = .ok (.iload_n 2, 1) := by decide +kernel
theorem dX1_valueOf_65 : decode cX1_valueOf 65 = .ok (.iload 4, 2) := by decide +kernel
theorem dX1_valueOf_67 : decode cX1_valueOf 67 = .ok (.ifCond .ne 8, 3) := by decide +kernel
theorem dX1_valueOf_70 : decode cX1_valueOf 70 = .ok (.iload 5, 2) := by decide +kernel
theorem dX1_valueOf_72 : decode cX1_valueOf 72 = .ok (.goto 12, 3) := by decide +kernel
theorem dX1_valueOf_75 : decode cX1_valueOf 75 = .ok (.aload_n 0, 1) := by decide +kernel
theorem dX1_valueOf_76 : decode cX1_valueOf 76 = .ok (.getfield 22, 3) := by decide +kernel
theorem dX1_valueOf_79 : decode cX1_valueOf 79 = .ok (.iload 5, 2) := by decide +kernel
theorem dX1_valueOf_81 : decode cX1_valueOf 81 = .ok (.invokestatic 48, 3) := by decide +kernel
theorem dX1_valueOf_84 : decode cX1_valueOf 84 = .ok (.invokestatic 33, 3) := by decide +kernel
theorem dX1_valueOf_87 : decode cX1_valueOf 87 = .ok (.iinc 2 1, 3) := by decide +kernel
theorem dX1_valueOf_90 : decode cX1_valueOf 90 = .ok (.goto 95, 3) := by decide +kernel
theorem dX1_valueOf_93 : decode cX1_valueOf 93 = .ok (.aload_n 0, 1) := by decide +kernel
theorem dX1_valueOf_94 : decode cX1_valueOf 94 = .ok (.getfield 19, 3) := by decide +kernel
theorem dX1_valueOf_97 : decode cX1_valueOf 97 = .ok (.iload_n 2, 1) := by decide +kernel
theorem dX1_valueOf_98 : decode cX1_valueOf 98 = .ok (.iconst 1, 1) := by decide +kernel
theorem dX1_valueOf_99 : decode cX1_valueOf 99 = .ok (.isub, 1) := by decide +kernel
theorem dX1_valueOf_100 : decode cX1_valueOf 100 = .ok (.invokestatic 48, 3) := by decide +kernel
theorem dX1_valueOf_103 : decode cX1_valueOf 103 = .ok (.istore 6, 2) := by decide +kernel
theorem dX1_valueOf_105 : decode cX1_valueOf 105 = .ok (.aload_n 0, 1) := by decide +kernel
theorem dX1_valueOf_106 : decode cX1_valueOf 106 = .ok (.getfield 19, 3) := by decide +kernel
theorem dX1_valueOf_109 : decode cX1_valueOf 109 = .ok (.iload_n 2, 1) := by decide +kernel
theorem dX1_valueOf_110 : decode cX1_valueOf 110 = .ok (.iconst 2, 1) := by decide +kernel
theorem dX1_valueOf_111 : decode cX1_valueOf 111 = .ok (.isub, 1) := by decide +kernel
theorem dX1_valueOf_112 : decode cX1_valueOf 112 = .ok (.invokestatic 48, 3) := by decide +kernel
theorem dX1_valueOf_115 : decode cX1_valueOf 115 = .ok (.istore 7, 2) := by decide +kernel
theorem dX1_valueOf_117 : decode cX1_valueOf 117 = .ok (.iload 4, 2) := by decide +kernel
theorem dX1_valueOf_119 : decode cX1_valueOf 119 = .ok (.iconst 2, 1) := by decide +kernel
theorem dX1_valueOf_120 : decode cX1_valueOf 120 = .ok (.if_icmp .ne 29, 3) := by decide +kernel
theorem dX1_valueOf_123 : decode cX1_valueOf 123 = .ok (.iinc 2 (-2), 3) := by decide +kernel
theorem dX1_valueOf_126 : decode cX1_valueOf 126 = .ok (.iload 7, 2) := by decide +kernel
theorem dX1_valueOf_128 : decode cX1_valueOf 128 = .ok (.iload 6, 2) := by decide +kernel
theorem dX1_valueOf_130 : decode cX1_valueOf 130 = .ok (.if_icmp .ge 7, 3) := by decide +kernel
theorem dX1_valueOf_133 : decode cX1_valueOf 133 = .ok (.iload_n 3, 1) := by decide +kernel
theorem dX1_valueOf_134 : decode cX1_valueOf 134 = .ok (.goto 11, 3) := by decide +kernel
theorem dX1_valueOf_137 : decode cX1_valueOf 137 = .ok (.iload_n 3, 1) := by decide +kernel
theorem dX1_valueOf_138 : decode cX1_valueOf 138 = .ok (.iload 5, 2) := by decide +kernel
theorem dX1_valueOf_140 : decode cX1_valueOf 140 = .ok (.iconst 1, 1) := by decide +kernel
theorem dX1_valueOf_141 : decode cX1_valueOf 141 = .ok (.isub, 1) := by decide +kernel
theorem dX1_valueOf_142 : decode cX1_valueOf 142 = .ok (.invokestatic 79, 3) := by decide +kernel
theorem dX1_valueOf_145 : decode cX1_valueOf 145 = .ok (.istore_n 3, 1) := by decide +kernel
theorem dX1_valueOf_146 : decode cX1_valueOf 146 = .ok (.goto 39, 3) := by decide +kernel
theorem dX1_valueOf_149 : decode cX1_valueOf 149 = .ok (.iload 4, 2) := by decide +kernel
theorem dX1_valueOf_151 : decode cX1_valueOf 151 = .ok (.bipush 47, 2) := by decide +kernel
theorem dX1_valueOf_153 : decode cX1_valueOf 153 = .ok (.if_icmp .ne 10, 3) := by decide +kernel
theorem dX1_valueOf_156 : decode cX1_valueOf 156 = .ok (.iload 6, 2) := by decide +kernel
theorem dX1_valueOf_158 : decode cX1_valueOf 158 = .ok (.ifCond .ne 5, 3) := by decide +kernel
theorem dX1_valueOf_161 : decode cX1_valueOf 161 = .ok (.iconst 0, 1) := by decide +kernel
theorem dX1_valueOf_162 : decode cX1_valueOf 162 = .ok (.ireturn, 1) := by decide +kernel
theorem dX1_valueOf_163 : decode cX1_valueOf 163 = .ok (.iinc 2 (-1), 3) := by decide +kernel
theorem dX1_valueOf_166 : decode cX1_valueOf 166 = .ok (.aload_n 0, 1) := by decide +kernel
theorem dX1_valueOf_167 : decode cX1_valueOf 167 = .ok (.getfield 19, 3) := by decide +kernel
theorem dX1_valueOf_170 : decode cX1_valueOf 170 = .ok (.iload_n 2, 1) := by decide +kernel
theorem dX1_valueOf_171 : decode cX1_valueOf 171 = .ok (.iconst 1, 1) := by decide +kernel
theorem dX1_valueOf_172 : decode cX1_valueOf 172 = .ok (.isub, 1) := by decide +kernel
theorem dX1_valueOf_173 : decode cX1_valueOf 173 = .ok (.iload 4, 2) := by decide +kernel
theorem dX1_valueOf_175 : decode cX1_valueOf 175 = .ok (.iload 7, 2) := by decide +kernel
theorem dX1_valueOf_177 : decode cX1_valueOf 177 = .ok (.iload 6, 2) := by decide +kernel
theorem dX1_valueOf_179 : decode cX1_valueOf 179 = .ok (.invokestatic 84, 3) := by decide +kernel
theorem dX1_valueOf_182 : decode cX1_valueOf 182 = .ok (.invokestatic 33, 3) := by decide +kernel
theorem dX1_valueOf_185 : decode cX1_valueOf 185 = .ok (.iinc 3 1, 3) := by decide +kernel
theorem dX1_valueOf_188 : decode cX1_valueOf 188 = .ok (.goto (-184), 3) := by decide +kernel
theorem dX1_valueOf_191 : decode cX1_valueOf 191 = .ok (.iconst 0, 1) := by decide +kernel
theorem dX1_valueOf_192 : decode cX1_valueOf 192 = .ok (.ireturn, 1) := by decide +kernel
abbrev rm_X1_valueOf : Room := { frames := 1, cells := 0, slots := 0, locals := 30 }
def f_X1_valueOf_J84 (k0 : Nat) (S : St) (x2 : Int32) (x3 : Int32) (y0 : Int32) (y1 : Int32) : Option ((Int32 × Int32 × St) ⊕ ((Int32 × St) ⊕ (Int32 × St))) :=
  (f_X5_put (ky k0 5) S y1 y0).bind (fun (q8 : St) => some (.inl ((x2 + 1), (x3 + 1), q8)))
def f_X1_valueOf_J60 (k0 : Nat) (S : St) (x2 : Int32) (x3 : Int32) (x4 : Int32) (x5 : Int32) : Option ((Int32 × Int32 × St) ⊕ ((Int32 × St) ⊕ (Int32 × St))) :=
  if x4 = 0 then (f_X1_valueOf_J84 k0 S x2 x3 x5 x2) else ((f_X5_at (ky k0 6) S x5).bind (fun (q7 : Int32) => f_X1_valueOf_J84 k0 S x2 x3 q7 x2))
def f_X1_valueOf_J163 (k0 : Nat) (S : St) (x2 : Int32) (x3 : Int32) (x4 : Int32) (x6 : Int32) (x7 : Int32) : Option ((Int32 × Int32 × St) ⊕ ((Int32 × St) ⊕ (Int32 × St))) :=
  (f_X1_reckon   x4 x7 x6).bind (fun (q14 : Int32) => (f_X5_put (ky k0 5) S ((x2 + (-1)) - (1 : Int32)) q14).bind (fun (q15 : St) => some (.inl ((x2 + (-1)), (x3 + 1), q15))))
def f_X1_valueOf_L4 (k0 : Nat)  (z4 : Int32 × Int32 × St) : Option ((Int32 × Int32 × St) ⊕ ((Int32 × St) ⊕ (Int32 × St))) :=
  if (st_I z4.2.2 (ky k0 2)) ≤ z4.2.1 then (some (.inr (.inr ((0 : Int32), z4.2.2)))) else ((f_X5_at (ky k0 0) z4.2.2 z4.2.1).bind (fun (q2 : Int32) => (f_X5_at (ky k0 1) z4.2.2 z4.2.1).bind (fun (q3 : Int32) => if q2 = (3 : Int32) then (some (.inr (.inl (z4.1, z4.2.2)))) else (if q2 = 0 then (f_X1_valueOf_J60 k0 z4.2.2 z4.1 z4.2.1 q2 q3) else (if q2 = (1 : Int32) then (f_X1_valueOf_J60 k0 z4.2.2 z4.1 z4.2.1 q2 q3) else ((f_X5_at (ky k0 5) z4.2.2 (z4.1 - (1 : Int32))).bind (fun (q10 : Int32) => (f_X5_at (ky k0 5) z4.2.2 (z4.1 - (2 : Int32))).bind (fun (q11 : Int32) => if q2 = (2 : Int32) then (if q10 ≤ q11 then (some (.inl ((z4.1 + (-2)), ((i_max z4.2.1 (q3 - (1 : Int32))) + 1), z4.2.2))) else (some (.inl ((z4.1 + (-2)), (z4.2.1 + 1), z4.2.2)))) else (if q2 = (47 : Int32) then (if q10 = 0 then (some (.inr (.inr ((0 : Int32), z4.2.2)))) else (f_X1_valueOf_J163 k0 z4.2.2 z4.1 z4.2.1 q2 q10 q11)) else (f_X1_valueOf_J163 k0 z4.2.2 z4.1 z4.2.1 q2 q10 q11))))))))))
def f_X1_valueOf (k0 : Nat) (S : St) (x1 : Int32) : Option (Int32 × St) :=
  (iter (f_X1_valueOf_L4 k0  ) FU ((0 : Int32), x1, S)).bind fun z => match z with | .inl z => (fun (u21 : Int32 × St) => (fun (e18 : Int32) (S19 : St) => (f_X5_at (ky k0 5) S19 (e18 - (1 : Int32))).bind (fun (q20 : Int32) => some (q20, S19))) u21.1 u21.2) z | .inr v22 => some v22
set_option maxRecDepth 100000 in
set_option maxHeartbeats 4000000 in
theorem k_X1_valueOf (l : Launch) (g : GG) (hg : gd wd_C g) (k0 : Nat) (hk0 : hs wd_C g k0 1) (S : St) (x1 : Int32) (q : Int32 × St) (hf : f_X1_valueOf k0 S x1 = some q) : Met l yX1_valueOf (Cond.code yX1_valueOf cX1_valueOf 8 (some .int) :: gw_tbl) rm_X1_valueOf (va_Pc [.ref (gg_o g k0), .int x1] (wI wd_C g S)) (qc_w wd_C g q) 0 0 (aw g) := by
  refine mt_start (own := RX1) hg (by decide) rfl (Nat.le_of_ble_eq_true rfl) (fun p e s m args below meth c ls H locs cx hw hr hlk hl => ?_)
  have hx := cx.1
  have hb := cx.2.1
  have hown := cx.2.2.2.1
  have hts := cx.2.2.2.2.1
  have hl : lv_has ls 8 [(0, .ref (gg_o g k0)), (1, .int x1)] := hl
  replace hf := h_top hf
  unfold f_X1_valueOf at hf
  refine lv_iconst (v := 0) hx hb dX1_valueOf_0 (by decide) ?_
  refine lv_istore_n hx hb dX1_valueOf_1 rfl hl (by decide) (lv' := [(2, .int (0 : Int32)), (0, .ref (gg_o g k0)), (1, .int x1)]) rfl (fun ls hl => ?_)
  refine lv_iload_n hx hb dX1_valueOf_2 rfl (lv_at hl 2 rfl) ?_
  refine lv_istore_n hx hb dX1_valueOf_3 rfl hl (by decide) (lv' := [(3, .int x1), (2, .int (0 : Int32)), (0, .ref (gg_o g k0)), (1, .int x1)]) rfl (fun ls hl => ?_)
  have L4 : ∀  (aft4 : ((Int32 × St) ⊕ (Int32 × St)) → Option (Int32 × St)), (∀ (ls : Array Slot) (H : Heap) (locs : List Loc) (e2 : Int32) (S1 : St), lv_has ls 8 [(0, .ref (gg_o g k0)), (2, .int e2)] → HH wd_C g s S1 H locs → aft4 (.inl (e2, S1)) = some q → W p l e rm_X1_valueOf s m args below meth c H locs 0 0 (MQ below (qc_w wd_C g q) args s 0 0 (aw g)) (F0 m 38 ls [])) → (∀ v : Int32 × St, aft4 (.inr v) = some q → (some v : Option (Int32 × St)).bind some = some q) → ∀ (n4 : Nat) (ls : Array Slot) (H : Heap) (locs : List Loc) (z4 : Int32 × Int32 × St), lv_has ls 8 [(0, .ref (gg_o g k0)), (2, .int z4.1), (3, .int z4.2.1)] → HH wd_C g s z4.2.2 H locs → (iter (f_X1_valueOf_L4 k0  ) n4 z4).bind aft4 = some q → W p l e rm_X1_valueOf s m args below meth c H locs 0 0 (MQ below (qc_w wd_C g q) args s 0 0 (aw g)) (F0 m 4 ls []) := by
    intro aft4 hX4 hR4 n4
    induction n4 with
    | zero => intro ls H locs z4 hl hw hf; exact h_iter0 hf
    | succ n4 ih4 =>
      intro ls H locs z4 hl hw hf
      replace hf := h_iter hf
      unfold f_X1_valueOf_L4 at hf
      have J84 : ∀ (ls : Array Slot) (H : Heap) (locs : List Loc) (S : St) (x2 : Int32) (x3 : Int32) (y0 : Int32) (y1 : Int32), lv_has ls 8 [(0, .ref (gg_o g k0)), (2, .int x2), (3, .int x3)] → HH wd_C g s S H locs → (f_X1_valueOf_J84 k0 S x2 x3 y0 y1).bind (it_K (f_X1_valueOf_L4 k0  ) n4 aft4) = some q → W p l e rm_X1_valueOf s m args below meth c H locs 0 0 (MQ below (qc_w wd_C g q) args s 0 0 (aw g)) (F0 m 84 ls [.int y0, .int y1, .ref (gg_a g (ky k0 5))]) := by
        intro ls H locs S x2 x3 y0 y1 hl hw hf
        unfold f_X1_valueOf_J84 at hf
        refine r_SN_v (As := [.ref (gg_a g (ky k0 5)), .int y1, .int y0]) (rest := []) cx hw hf (nw_at cx) lk_X1_33 (fun q8 hq => k_X5_put l g hg (ky k0 5) (hk0.2.2.1 5 rfl) S y1 y0 q8 hq) ⟨⟨rfl, rfl⟩, Nat.le_of_ble_eq_true rfl, Nat.le_of_ble_eq_true rfl⟩ rfl hl.1 rfl (Nat.le_of_ble_eq_true rfl) dX1_valueOf_84 ⟨Nat.zero_le _, Nat.zero_le _⟩ (fun q8 H locs hw hf => ?_)
        refine lv_iinc hx hb dX1_valueOf_87 hl (k := 1) rfl (congrArg (HAdd.hAdd _) (show Int32.ofInt (1) = 1 by decide)) (by decide) (lv' := [(2, .int (x2 + 1)), (0, .ref (gg_o g k0)), (3, .int x3)]) rfl (fun ls hl => ?_)
        refine lv_goto hx hb dX1_valueOf_90 (tgt := 185) rfl ?_
        refine lv_iinc hx hb dX1_valueOf_185 hl (k := 2) rfl (congrArg (HAdd.hAdd _) (show Int32.ofInt (1) = 1 by decide)) (by decide) (lv' := [(3, .int (x3 + 1)), (2, .int (x2 + 1)), (0, .ref (gg_o g k0))]) rfl (fun ls hl => ?_)
        refine lv_goto hx hb dX1_valueOf_188 (tgt := 4) rfl ?_
        exact ih4 _ _ _ ((x2 + 1), (x3 + 1), q8) (lv_sub hl [2, 1, 0] rfl) hw hf
      have J60 : ∀ (ls : Array Slot) (H : Heap) (locs : List Loc) (S : St) (x2 : Int32) (x3 : Int32) (x4 : Int32) (x5 : Int32), lv_has ls 8 [(0, .ref (gg_o g k0)), (2, .int x2), (3, .int x3), (4, .int x4), (5, .int x5)] → HH wd_C g s S H locs → (f_X1_valueOf_J60 k0 S x2 x3 x4 x5).bind (it_K (f_X1_valueOf_L4 k0  ) n4 aft4) = some q → W p l e rm_X1_valueOf s m args below meth c H locs 0 0 (MQ below (qc_w wd_C g q) args s 0 0 (aw g)) (F0 m 60 ls []) := by
        intro ls H locs S x2 x3 x4 x5 hl hw hf
        unfold f_X1_valueOf_J60 at hf
        refine lv_aload_n hx hb dX1_valueOf_60 rfl (lv_at hl 0 rfl) ?_
        refine gf_X1_19 cx hw hk0 dX1_valueOf_61 ?_
        refine lv_iload_n hx hb dX1_valueOf_64 rfl (lv_at hl 1 rfl) ?_
        refine lv_iload hx hb dX1_valueOf_65 (lv_at hl 3 rfl) ?_
        refine lv_if_ne hx hb dX1_valueOf_67 (tgt := 75) rfl (fun hc6 => ?_) (fun hc6 => ?_)
        · replace hf := h_neg hc6 hf
          refine lv_aload_n hx hb dX1_valueOf_75 rfl (lv_at hl 0 rfl) ?_
          refine gf_X1_22 cx hw hk0 dX1_valueOf_76 ?_
          refine lv_iload hx hb dX1_valueOf_79 (lv_at hl 4 rfl) ?_
          refine r_SN_i (As := [.ref (gg_a g (ky k0 6)), .int x5]) (rest := [.int x2, .ref (gg_a g (ky k0 5))]) cx hw hf (nw_at cx) lk_X1_48 (fun q7 hq => k_X5_at l g hg (ky k0 6) (hk0.2.2.1 6 rfl) S x5 q7 hq) ⟨⟨rfl, rfl⟩, Nat.le_of_ble_eq_true rfl, Nat.le_of_ble_eq_true rfl⟩ rfl hl.1 rfl (Nat.le_of_ble_eq_true rfl) dX1_valueOf_81 ⟨Nat.zero_le _, Nat.zero_le _⟩ (fun q7 H locs hw hf => ?_)
          exact J84 _ _ _ S x2 x3 q7 x2 (lv_sub hl [0, 1, 2] rfl) hw hf
        replace hf := h_pos hc6 hf
        refine lv_iload hx hb dX1_valueOf_70 (lv_at hl 4 rfl) ?_
        refine lv_goto hx hb dX1_valueOf_72 (tgt := 84) rfl ?_
        exact J84 _ _ _ S x2 x3 x5 x2 (lv_sub hl [0, 1, 2] rfl) hw hf
      have J163 : ∀ (ls : Array Slot) (H : Heap) (locs : List Loc) (S : St) (x2 : Int32) (x3 : Int32) (x4 : Int32) (x6 : Int32) (x7 : Int32), lv_has ls 8 [(0, .ref (gg_o g k0)), (2, .int x2), (3, .int x3), (4, .int x4), (6, .int x6), (7, .int x7)] → HH wd_C g s S H locs → (f_X1_valueOf_J163 k0 S x2 x3 x4 x6 x7).bind (it_K (f_X1_valueOf_L4 k0  ) n4 aft4) = some q → W p l e rm_X1_valueOf s m args below meth c H locs 0 0 (MQ below (qc_w wd_C g q) args s 0 0 (aw g)) (F0 m 163 ls []) := by
        intro ls H locs S x2 x3 x4 x6 x7 hl hw hf
        unfold f_X1_valueOf_J163 at hf
        refine lv_iinc hx hb dX1_valueOf_163 hl (k := 1) rfl (congrArg (HAdd.hAdd _) (show Int32.ofInt (-1) = -1 by decide)) (by decide) (lv' := [(2, .int (x2 + (-1))), (0, .ref (gg_o g k0)), (3, .int x3), (4, .int x4), (6, .int x6), (7, .int x7)]) rfl (fun ls hl => ?_)
        refine lv_aload_n hx hb dX1_valueOf_166 rfl (lv_at hl 1 rfl) ?_
        refine gf_X1_19 cx hw hk0 dX1_valueOf_167 ?_
        refine lv_iload_n hx hb dX1_valueOf_170 rfl (lv_at hl 0 rfl) ?_
        refine lv_iconst (v := 1) hx hb dX1_valueOf_171 (by decide) ?_
        refine lv_isub hx hb dX1_valueOf_172 ?_
        refine lv_iload hx hb dX1_valueOf_173 (lv_at hl 3 rfl) ?_
        refine lv_iload hx hb dX1_valueOf_175 (lv_at hl 5 rfl) ?_
        refine lv_iload hx hb dX1_valueOf_177 (lv_at hl 4 rfl) ?_
        refine r_S_i (As := [.int x4, .int x7, .int x6]) (rest := [.int ((x2 + (-1)) - (1 : Int32)), .ref (gg_a g (ky k0 5))]) cx hw hf lk_X1_84 (fun q14 hq => k_X1_reckon l g hg   S x4 x7 x6 q14 hq) ⟨⟨rfl, rfl⟩, Nat.le_of_ble_eq_true rfl, Nat.le_of_ble_eq_true rfl⟩ rfl hl.1 rfl (Nat.le_of_ble_eq_true rfl) dX1_valueOf_179 ⟨Nat.zero_le _, Nat.zero_le _⟩ (fun q14 H locs hw hf => ?_)
        refine r_SN_v (As := [.ref (gg_a g (ky k0 5)), .int ((x2 + (-1)) - (1 : Int32)), .int q14]) (rest := []) cx hw hf (nw_at cx) lk_X1_33 (fun q15 hq => k_X5_put l g hg (ky k0 5) (hk0.2.2.1 5 rfl) S ((x2 + (-1)) - (1 : Int32)) q14 q15 hq) ⟨⟨rfl, rfl⟩, Nat.le_of_ble_eq_true rfl, Nat.le_of_ble_eq_true rfl⟩ rfl hl.1 rfl (Nat.le_of_ble_eq_true rfl) dX1_valueOf_182 ⟨Nat.zero_le _, Nat.zero_le _⟩ (fun q15 H locs hw hf => ?_)
        refine lv_iinc hx hb dX1_valueOf_185 hl (k := 2) rfl (congrArg (HAdd.hAdd _) (show Int32.ofInt (1) = 1 by decide)) (by decide) (lv' := [(3, .int (x3 + 1)), (2, .int (x2 + (-1))), (0, .ref (gg_o g k0)), (4, .int x4), (6, .int x6), (7, .int x7)]) rfl (fun ls hl => ?_)
        refine lv_goto hx hb dX1_valueOf_188 (tgt := 4) rfl ?_
        exact ih4 _ _ _ ((x2 + (-1)), (x3 + 1), q15) (lv_sub hl [2, 1, 0] rfl) hw hf
      refine lv_iload_n hx hb dX1_valueOf_4 rfl (lv_at hl 2 rfl) ?_
      refine lv_aload_n hx hb dX1_valueOf_5 rfl (lv_at hl 0 rfl) ?_
      refine gf_X1_25 cx hw hk0 dX1_valueOf_6 ?_
      refine lv_icmp_ge hx hb dX1_valueOf_9 (tgt := 191) rfl (fun hc1 => ?_) (fun hc1 => ?_)
      · replace hf := h_pos hc1 hf
        refine lv_iconst (v := 0) hx hb dX1_valueOf_191 (by decide) ?_
        replace hf := hR4 ((0 : Int32), z4.2.2) hf
        exact r_iretw cx hw hr hlk hf dX1_valueOf_192
      replace hf := h_neg hc1 hf
      refine lv_aload_n hx hb dX1_valueOf_12 rfl (lv_at hl 0 rfl) ?_
      refine gf_X1_9 cx hw hk0 dX1_valueOf_13 ?_
      refine lv_iload_n hx hb dX1_valueOf_16 rfl (lv_at hl 2 rfl) ?_
      refine r_SN_i (As := [.ref (gg_a g (ky k0 0)), .int z4.2.1]) (rest := []) cx hw hf (nw_at cx) lk_X1_48 (fun q2 hq => k_X5_at l g hg (ky k0 0) (hk0.2.2.1 0 rfl) z4.2.2 z4.2.1 q2 hq) ⟨⟨rfl, rfl⟩, Nat.le_of_ble_eq_true rfl, Nat.le_of_ble_eq_true rfl⟩ rfl hl.1 rfl (Nat.le_of_ble_eq_true rfl) dX1_valueOf_17 ⟨Nat.zero_le _, Nat.zero_le _⟩ (fun q2 H locs hw hf => ?_)
      refine lv_istore hx hb dX1_valueOf_20 hl (by decide) (lv' := [(4, .int q2), (0, .ref (gg_o g k0)), (2, .int z4.1), (3, .int z4.2.1)]) rfl (fun ls hl => ?_)
      refine lv_aload_n hx hb dX1_valueOf_22 rfl (lv_at hl 1 rfl) ?_
      refine gf_X1_13 cx hw hk0 dX1_valueOf_23 ?_
      refine lv_iload_n hx hb dX1_valueOf_26 rfl (lv_at hl 3 rfl) ?_
      refine r_SN_i (As := [.ref (gg_a g (ky k0 1)), .int z4.2.1]) (rest := []) cx hw hf (nw_at cx) lk_X1_48 (fun q3 hq => k_X5_at l g hg (ky k0 1) (hk0.2.2.1 1 rfl) z4.2.2 z4.2.1 q3 hq) ⟨⟨rfl, rfl⟩, Nat.le_of_ble_eq_true rfl, Nat.le_of_ble_eq_true rfl⟩ rfl hl.1 rfl (Nat.le_of_ble_eq_true rfl) dX1_valueOf_27 ⟨Nat.zero_le _, Nat.zero_le _⟩ (fun q3 H locs hw hf => ?_)
      refine lv_istore hx hb dX1_valueOf_30 hl (by decide) (lv' := [(5, .int q3), (4, .int q2), (0, .ref (gg_o g k0)), (2, .int z4.1), (3, .int z4.2.1)]) rfl (fun ls hl => ?_)
      refine lv_iload hx hb dX1_valueOf_32 (lv_at hl 1 rfl) ?_
      refine lv_iconst (v := 3) hx hb dX1_valueOf_34 (by decide) ?_
      refine lv_icmp_ne hx hb dX1_valueOf_35 (tgt := 49) rfl (fun hc4 => ?_) (fun hc4 => ?_)
      · replace hf := h_neg hc4 hf
        refine lv_iload hx hb dX1_valueOf_49 (lv_at hl 1 rfl) ?_
        refine lv_if_eq hx hb dX1_valueOf_51 (tgt := 60) rfl (fun hc5 => ?_) (fun hc5 => ?_)
        · replace hf := h_pos hc5 hf
          exact J60 _ _ _ z4.2.2 z4.1 z4.2.1 q2 q3 (lv_sub hl [2, 3, 4, 1, 0] rfl) hw hf
        replace hf := h_neg hc5 hf
        refine lv_iload hx hb dX1_valueOf_54 (lv_at hl 1 rfl) ?_
        refine lv_iconst (v := 1) hx hb dX1_valueOf_56 (by decide) ?_
        refine lv_icmp_ne hx hb dX1_valueOf_57 (tgt := 93) rfl (fun hc9 => ?_) (fun hc9 => ?_)
        · replace hf := h_neg hc9 hf
          refine lv_aload_n hx hb dX1_valueOf_93 rfl (lv_at hl 2 rfl) ?_
          refine gf_X1_19 cx hw hk0 dX1_valueOf_94 ?_
          refine lv_iload_n hx hb dX1_valueOf_97 rfl (lv_at hl 3 rfl) ?_
          refine lv_iconst (v := 1) hx hb dX1_valueOf_98 (by decide) ?_
          refine lv_isub hx hb dX1_valueOf_99 ?_
          refine r_SN_i (As := [.ref (gg_a g (ky k0 5)), .int (z4.1 - (1 : Int32))]) (rest := []) cx hw hf (nw_at cx) lk_X1_48 (fun q10 hq => k_X5_at l g hg (ky k0 5) (hk0.2.2.1 5 rfl) z4.2.2 (z4.1 - (1 : Int32)) q10 hq) ⟨⟨rfl, rfl⟩, Nat.le_of_ble_eq_true rfl, Nat.le_of_ble_eq_true rfl⟩ rfl hl.1 rfl (Nat.le_of_ble_eq_true rfl) dX1_valueOf_100 ⟨Nat.zero_le _, Nat.zero_le _⟩ (fun q10 H locs hw hf => ?_)
          refine lv_istore hx hb dX1_valueOf_103 hl (by decide) (lv' := [(6, .int q10), (5, .int q3), (4, .int q2), (0, .ref (gg_o g k0)), (2, .int z4.1), (3, .int z4.2.1)]) rfl (fun ls hl => ?_)
          refine lv_aload_n hx hb dX1_valueOf_105 rfl (lv_at hl 3 rfl) ?_
          refine gf_X1_19 cx hw hk0 dX1_valueOf_106 ?_
          refine lv_iload_n hx hb dX1_valueOf_109 rfl (lv_at hl 4 rfl) ?_
          refine lv_iconst (v := 2) hx hb dX1_valueOf_110 (by decide) ?_
          refine lv_isub hx hb dX1_valueOf_111 ?_
          refine r_SN_i (As := [.ref (gg_a g (ky k0 5)), .int (z4.1 - (2 : Int32))]) (rest := []) cx hw hf (nw_at cx) lk_X1_48 (fun q11 hq => k_X5_at l g hg (ky k0 5) (hk0.2.2.1 5 rfl) z4.2.2 (z4.1 - (2 : Int32)) q11 hq) ⟨⟨rfl, rfl⟩, Nat.le_of_ble_eq_true rfl, Nat.le_of_ble_eq_true rfl⟩ rfl hl.1 rfl (Nat.le_of_ble_eq_true rfl) dX1_valueOf_112 ⟨Nat.zero_le _, Nat.zero_le _⟩ (fun q11 H locs hw hf => ?_)
          refine lv_istore hx hb dX1_valueOf_115 hl (by decide) (lv' := [(7, .int q11), (6, .int q10), (5, .int q3), (4, .int q2), (0, .ref (gg_o g k0)), (2, .int z4.1), (3, .int z4.2.1)]) rfl (fun ls hl => ?_)
          refine lv_iload hx hb dX1_valueOf_117 (lv_at hl 3 rfl) ?_
          refine lv_iconst (v := 2) hx hb dX1_valueOf_119 (by decide) ?_
          refine lv_icmp_ne hx hb dX1_valueOf_120 (tgt := 149) rfl (fun hc12 => ?_) (fun hc12 => ?_)
          · replace hf := h_neg hc12 hf
            refine lv_iload hx hb dX1_valueOf_149 (lv_at hl 3 rfl) ?_
            refine lv_bipush (v := 47) hx hb dX1_valueOf_151 (by decide) ?_
            refine lv_icmp_ne hx hb dX1_valueOf_153 (tgt := 163) rfl (fun hc13 => ?_) (fun hc13 => ?_)
            · replace hf := h_neg hc13 hf
              exact J163 _ _ _ z4.2.2 z4.1 z4.2.1 q2 q10 q11 (lv_sub hl [4, 5, 6, 3, 1, 0] rfl) hw hf
            replace hf := h_pos hc13 hf
            refine lv_iload hx hb dX1_valueOf_156 (lv_at hl 1 rfl) ?_
            refine lv_if_ne hx hb dX1_valueOf_158 (tgt := 163) rfl (fun hc16 => ?_) (fun hc16 => ?_)
            · replace hf := h_neg hc16 hf
              exact J163 _ _ _ z4.2.2 z4.1 z4.2.1 q2 q10 q11 (lv_sub hl [4, 5, 6, 3, 1, 0] rfl) hw hf
            replace hf := h_pos hc16 hf
            refine lv_iconst (v := 0) hx hb dX1_valueOf_161 (by decide) ?_
            replace hf := hR4 ((0 : Int32), z4.2.2) hf
            exact r_iretw cx hw hr hlk hf dX1_valueOf_162
          replace hf := h_pos hc12 hf
          refine lv_iinc hx hb dX1_valueOf_123 hl (k := 5) rfl (congrArg (HAdd.hAdd _) (show Int32.ofInt (-2) = -2 by decide)) (by decide) (lv' := [(2, .int (z4.1 + (-2))), (7, .int q11), (6, .int q10), (5, .int q3), (4, .int q2), (0, .ref (gg_o g k0)), (3, .int z4.2.1)]) rfl (fun ls hl => ?_)
          refine lv_iload hx hb dX1_valueOf_126 (lv_at hl 1 rfl) ?_
          refine lv_iload hx hb dX1_valueOf_128 (lv_at hl 2 rfl) ?_
          refine lv_icmp_ge hx hb dX1_valueOf_130 (tgt := 137) rfl (fun hc17 => ?_) (fun hc17 => ?_)
          · replace hf := h_pos hc17 hf
            refine lv_iload_n hx hb dX1_valueOf_137 rfl (lv_at hl 6 rfl) ?_
            refine lv_iload hx hb dX1_valueOf_138 (lv_at hl 3 rfl) ?_
            refine lv_iconst (v := 1) hx hb dX1_valueOf_140 (by decide) ?_
            refine lv_isub hx hb dX1_valueOf_141 ?_
            refine va_mmax hx hb (cx.2.2.1.trans hl.1.symm) hown (hts _ wd_339) (hts _ wd_85) (hts _ wd_7) (hts _ wd_86) (Nat.le_of_ble_eq_true rfl) (Nat.le_of_ble_eq_true rfl) (Nat.zero_le _) (Nat.zero_le _) dX1_valueOf_142 ?_
            refine lv_istore_n hx hb dX1_valueOf_145 rfl hl (by decide) (lv' := [(3, .int (i_max z4.2.1 (q3 - (1 : Int32)))), (2, .int (z4.1 + (-2))), (7, .int q11), (6, .int q10), (5, .int q3), (4, .int q2), (0, .ref (gg_o g k0))]) rfl (fun ls hl => ?_)
            refine lv_goto hx hb dX1_valueOf_146 (tgt := 185) rfl ?_
            refine lv_iinc hx hb dX1_valueOf_185 hl (k := 0) rfl (congrArg (HAdd.hAdd _) (show Int32.ofInt (1) = 1 by decide)) (by decide) (lv' := [(3, .int ((i_max z4.2.1 (q3 - (1 : Int32))) + 1)), (2, .int (z4.1 + (-2))), (7, .int q11), (6, .int q10), (5, .int q3), (4, .int q2), (0, .ref (gg_o g k0))]) rfl (fun ls hl => ?_)
            refine lv_goto hx hb dX1_valueOf_188 (tgt := 4) rfl ?_
            exact ih4 _ _ _ ((z4.1 + (-2)), ((i_max z4.2.1 (q3 - (1 : Int32))) + 1), z4.2.2) (lv_sub hl [6, 1, 0] rfl) hw hf
          replace hf := h_neg hc17 hf
          refine lv_iload_n hx hb dX1_valueOf_133 rfl (lv_at hl 6 rfl) ?_
          refine lv_goto hx hb dX1_valueOf_134 (tgt := 145) rfl ?_
          refine lv_istore_n hx hb dX1_valueOf_145 rfl hl (by decide) (lv' := [(3, .int z4.2.1), (2, .int (z4.1 + (-2))), (7, .int q11), (6, .int q10), (5, .int q3), (4, .int q2), (0, .ref (gg_o g k0))]) rfl (fun ls hl => ?_)
          refine lv_goto hx hb dX1_valueOf_146 (tgt := 185) rfl ?_
          refine lv_iinc hx hb dX1_valueOf_185 hl (k := 0) rfl (congrArg (HAdd.hAdd _) (show Int32.ofInt (1) = 1 by decide)) (by decide) (lv' := [(3, .int (z4.2.1 + 1)), (2, .int (z4.1 + (-2))), (7, .int q11), (6, .int q10), (5, .int q3), (4, .int q2), (0, .ref (gg_o g k0))]) rfl (fun ls hl => ?_)
          refine lv_goto hx hb dX1_valueOf_188 (tgt := 4) rfl ?_
          exact ih4 _ _ _ ((z4.1 + (-2)), (z4.2.1 + 1), z4.2.2) (lv_sub hl [6, 1, 0] rfl) hw hf
        replace hf := h_pos hc9 hf
        exact J60 _ _ _ z4.2.2 z4.1 z4.2.1 q2 q3 (lv_sub hl [2, 3, 4, 1, 0] rfl) hw hf
      replace hf := h_pos hc4 hf
      exact hX4 _ _ _ z4.1 z4.2.2 (lv_sub hl [2, 3] rfl) hw hf
  refine L4 _ (fun ls H locs e18 S19 hl hw hf => ?_) (fun v h => h) FU _ _ _ ((0 : Int32), x1, S) (lv_sub hl [2, 1, 0] rfl) hw (h_assoc hf)
  try dsimp only at hf
  refine lv_aload_n hx hb dX1_valueOf_38 rfl (lv_at hl 0 rfl) ?_
  refine gf_X1_19 cx hw hk0 dX1_valueOf_39 ?_
  refine lv_iload_n hx hb dX1_valueOf_42 rfl (lv_at hl 1 rfl) ?_
  refine lv_iconst (v := 1) hx hb dX1_valueOf_43 (by decide) ?_
  refine lv_isub hx hb dX1_valueOf_44 ?_
  refine r_SN_i (As := [.ref (gg_a g (ky k0 5)), .int (e18 - (1 : Int32))]) (rest := []) cx hw hf (nw_at cx) lk_X1_48 (fun q20 hq => k_X5_at l g hg (ky k0 5) (hk0.2.2.1 5 rfl) S19 (e18 - (1 : Int32)) q20 hq) ⟨⟨rfl, rfl⟩, Nat.le_of_ble_eq_true rfl, Nat.le_of_ble_eq_true rfl⟩ rfl hl.1 rfl (Nat.le_of_ble_eq_true rfl) dX1_valueOf_45 ⟨Nat.zero_le _, Nat.zero_le _⟩ (fun q20 H locs hw hf => ?_)
  exact r_iretw cx hw hr hlk hf dX1_valueOf_48
theorem dX0_lateWith_0 : decode cX0_lateWith 0 = .ok (.aload_n 0, 1) := by decide +kernel
theorem dX0_lateWith_1 : decode cX0_lateWith 1 = .ok (.iload_n 1, 1) := by decide +kernel
theorem dX0_lateWith_2 : decode cX0_lateWith 2 = .ok (.aload_n 0, 1) := by decide +kernel
theorem dX0_lateWith_3 : decode cX0_lateWith 3 = .ok (.getfield 41, 3) := by decide +kernel
theorem dX0_lateWith_6 : decode cX0_lateWith 6 = .ok (.invokevirtual 95, 3) := by decide +kernel
theorem dX0_lateWith_9 : decode cX0_lateWith 9 = .ok (.istore_n 3, 1) := by decide +kernel
theorem dX0_lateWith_10 : decode cX0_lateWith 10 = .ok (.aload_n 0, 1) := by decide +kernel
theorem dX0_lateWith_11 : decode cX0_lateWith 11 = .ok (.iload_n 3, 1) := by decide +kernel
theorem dX0_lateWith_12 : decode cX0_lateWith 12 = .ok (.aload_n 0, 1) := by decide +kernel
theorem dX0_lateWith_13 : decode cX0_lateWith 13 = .ok (.getfield 41, 3) := by decide +kernel
theorem dX0_lateWith_16 : decode cX0_lateWith 16 = .ok (.invokevirtual 98, 3) := by decide +kernel
theorem dX0_lateWith_19 : decode cX0_lateWith 19 = .ok (.invokestatic 114, 3) := by decide +kernel
theorem dX0_lateWith_22 : decode cX0_lateWith 22 = .ok (.istore 4, 2) := by decide +kernel
theorem dX0_lateWith_24 : decode cX0_lateWith 24 = .ok (.aload_n 0, 1) := by decide +kernel
theorem dX0_lateWith_25 : decode cX0_lateWith 25 = .ok (.getfield 33, 3) := by decide +kernel
theorem dX0_lateWith_28 : decode cX0_lateWith 28 = .ok (.getfield 119, 3) := by decide +kernel
theorem dX0_lateWith_31 : decode cX0_lateWith 31 = .ok (.aload_n 0, 1) := by decide +kernel
theorem dX0_lateWith_32 : decode cX0_lateWith 32 = .ok (.getfield 41, 3) := by decide +kernel
theorem dX0_lateWith_35 : decode cX0_lateWith 35 = .ok (.iload_n 3, 1) := by decide +kernel
theorem dX0_lateWith_36 : decode cX0_lateWith 36 = .ok (.iload_n 2, 1) := by decide +kernel
theorem dX0_lateWith_37 : decode cX0_lateWith 37 = .ok (.iload_n 1, 1) := by decide +kernel
theorem dX0_lateWith_38 : decode cX0_lateWith 38 = .ok (.aload_n 0, 1) := by decide +kernel
theorem dX0_lateWith_39 : decode cX0_lateWith 39 = .ok (.getfield 33, 3) := by decide +kernel
theorem dX0_lateWith_42 : decode cX0_lateWith 42 = .ok (.iload_n 3, 1) := by decide +kernel
theorem dX0_lateWith_43 : decode cX0_lateWith 43 = .ok (.invokevirtual 123, 3) := by decide +kernel
theorem dX0_lateWith_46 : decode cX0_lateWith 46 = .ok (.iload 4, 2) := by decide +kernel
theorem dX0_lateWith_48 : decode cX0_lateWith 48 = .ok (.invokevirtual 126, 3) := by decide +kernel
theorem dX0_lateWith_51 : decode cX0_lateWith 51 = .ok (.aload_n 0, 1) := by decide +kernel
theorem dX0_lateWith_52 : decode cX0_lateWith 52 = .ok (.getfield 33, 3) := by decide +kernel
theorem dX0_lateWith_55 : decode cX0_lateWith 55 = .ok (.getfield 119, 3) := by decide +kernel
theorem dX0_lateWith_58 : decode cX0_lateWith 58 = .ok (.aload_n 0, 1) := by decide +kernel
theorem dX0_lateWith_59 : decode cX0_lateWith 59 = .ok (.getfield 33, 3) := by decide +kernel
theorem dX0_lateWith_62 : decode cX0_lateWith 62 = .ok (.getfield 132, 3) := by decide +kernel
theorem dX0_lateWith_65 : decode cX0_lateWith 65 = .ok (.invokevirtual 135, 3) := by decide +kernel
theorem dX0_lateWith_68 : decode cX0_lateWith 68 = .ok (.istore 5, 2) := by decide +kernel
theorem dX0_lateWith_70 : decode cX0_lateWith 70 = .ok (.iconst 0, 1) := by decide +kernel
theorem dX0_lateWith_71 : decode cX0_lateWith 71 = .ok (.iload 5, 2) := by decide +kernel
theorem dX0_lateWith_73 : decode cX0_lateWith 73 = .ok (.sipush 240, 3) := by decide +kernel
theorem dX0_lateWith_76 : decode cX0_lateWith 76 = .ok (.invokestatic 138, 3) := by decide +kernel
theorem dX0_lateWith_79 : decode cX0_lateWith 79 = .ok (.invokestatic 143, 3) := by decide +kernel
theorem dX0_lateWith_82 : decode cX0_lateWith 82 = .ok (.ireturn, 1) := by decide +kernel
abbrev rm_X0_lateWith : Room := { frames := 2, cells := 0, slots := 0, locals := 57 }
def f_X0_lateWith (k0 : Nat) (S : St) (x1 : Int32) (x2 : Int32) : Option (Int32 × St) :=
  (f_X0_hangOf k0 S x1 (st_I S (ky k0 1))).bind (fun (q1 : Int32) => (f_X0_menIn k0 S q1 (st_I S (ky k0 1))).bind (fun (q2 : Int32) => (f_J6_bitCount_0f7a4   q2).bind (fun (q3 : Int32) => chk (isT (st_P S (ky k0 0))) (chk (isT (st_P S (ky k0 0))) ((f_X4_waysOf (st_P S (ky k0 0)) S q1).bind (fun (q6 : Int32) => (f_X1_setVars ((st_P S (ky k0 0)) + 2) S (st_I S (ky k0 1)) q1 x2 x1 q6 q3).bind (fun (q7 : St) => chk (isT (st_P q7 (ky k0 0))) (chk (isT (st_P q7 (ky k0 0))) ((f_X1_valueOf ((st_P q7 (ky k0 0)) + 2) q7 (st_I q7 (ky (st_P q7 (ky k0 0)) 6))).bind (fun (q10 : Int32 × St) => some ((i_max (0 : Int32) (i_min q10.1 (240 : Int32))), q10.2)))))))))))
set_option maxRecDepth 100000 in
set_option maxHeartbeats 4000000 in
theorem k_X0_lateWith (l : Launch) (g : GG) (hg : gd wd_C g) (k0 : Nat) (hk0 : hs wd_C g k0 0) (hA : allT g) (S : St) (x1 : Int32) (x2 : Int32) (q : Int32 × St) (hf : f_X0_lateWith k0 S x1 x2 = some q) : Met l yX0_lateWith (Cond.code yX0_lateWith cX0_lateWith 6 (some .int) :: gw_tbl) rm_X0_lateWith (va_Pc [.ref (gg_o g k0), .int x1, .int x2] (wI wd_C g S)) (qc_w wd_C g q) 0 0 (aw g) := by
  refine mt_start (own := RX0) hg (by decide) rfl (Nat.le_of_ble_eq_true rfl) (fun p e s m args below meth c ls H locs cx hw hr hlk hl => ?_)
  have hx := cx.1
  have hb := cx.2.1
  have hown := cx.2.2.2.1
  have hts := cx.2.2.2.2.1
  have hl : lv_has ls 6 [(0, .ref (gg_o g k0)), (1, .int x1), (2, .int x2)] := hl
  replace hf := h_top hf
  unfold f_X0_lateWith at hf
  refine lv_aload_n hx hb dX0_lateWith_0 rfl (lv_at hl 0 rfl) ?_
  refine lv_iload_n hx hb dX0_lateWith_1 rfl (lv_at hl 1 rfl) ?_
  refine lv_aload_n hx hb dX0_lateWith_2 rfl (lv_at hl 0 rfl) ?_
  refine gf_X0_41 cx hw hk0 dX0_lateWith_3 ?_
  refine r_V_i (As := [.int x1, .int (st_I S (ky k0 1))]) (rest := []) cx hw hf hk0.2.1 (by rw [hk0.1]; rfl) lk_X0_95 (fun q1 hq => k_X0_hangOf l g hg k0 hk0 hA S x1 (st_I S (ky k0 1)) q1 hq) ⟨⟨rfl, rfl⟩, Nat.le_of_ble_eq_true rfl, Nat.le_of_ble_eq_true rfl⟩ rfl hl.1 rfl (Nat.le_of_ble_eq_true rfl) dX0_lateWith_6 ⟨Nat.zero_le _, Nat.zero_le _⟩ (fun q1 H locs hw hf => ?_)
  refine lv_istore_n hx hb dX0_lateWith_9 rfl hl (by decide) (lv' := [(3, .int q1), (0, .ref (gg_o g k0)), (1, .int x1), (2, .int x2)]) rfl (fun ls hl => ?_)
  refine lv_aload_n hx hb dX0_lateWith_10 rfl (lv_at hl 1 rfl) ?_
  refine lv_iload_n hx hb dX0_lateWith_11 rfl (lv_at hl 0 rfl) ?_
  refine lv_aload_n hx hb dX0_lateWith_12 rfl (lv_at hl 1 rfl) ?_
  refine gf_X0_41 cx hw hk0 dX0_lateWith_13 ?_
  refine r_V_i (As := [.int q1, .int (st_I S (ky k0 1))]) (rest := []) cx hw hf hk0.2.1 (by rw [hk0.1]; rfl) lk_X0_98 (fun q2 hq => k_X0_menIn l g hg k0 hk0 hA S q1 (st_I S (ky k0 1)) q2 hq) ⟨⟨rfl, rfl⟩, Nat.le_of_ble_eq_true rfl, Nat.le_of_ble_eq_true rfl⟩ rfl hl.1 rfl (Nat.le_of_ble_eq_true rfl) dX0_lateWith_16 ⟨Nat.zero_le _, Nat.zero_le _⟩ (fun q2 H locs hw hf => ?_)
  refine r_S_i (As := [.int q2]) (rest := []) cx hw hf lk_X0_114 (fun q3 hq => k_J6_bitCount_0f7a4 l wd_C g hg   S q2 q3 hq) ⟨⟨rfl, rfl⟩, Nat.le_of_ble_eq_true rfl, Nat.le_of_ble_eq_true rfl⟩ rfl hl.1 rfl (Nat.le_of_ble_eq_true rfl) dX0_lateWith_19 ⟨Nat.zero_le _, Nat.zero_le _⟩ (fun q3 H locs hw hf => ?_)
  refine lv_istore hx hb dX0_lateWith_22 hl (by decide) (lv' := [(4, .int q3), (3, .int q1), (0, .ref (gg_o g k0)), (1, .int x1), (2, .int x2)]) rfl (fun ls hl => ?_)
  refine lv_aload_n hx hb dX0_lateWith_24 rfl (lv_at hl 2 rfl) ?_
  obtain ⟨hc4, hf⟩ := h_chk hf
  refine gf_X0_33 cx hw hk0 dX0_lateWith_25 ?_
  refine gf_X0_119 cx hw ((allT_at hA hc4).1) dX0_lateWith_28 ?_
  refine lv_aload_n hx hb dX0_lateWith_31 rfl (lv_at hl 2 rfl) ?_
  refine gf_X0_41 cx hw hk0 dX0_lateWith_32 ?_
  refine lv_iload_n hx hb dX0_lateWith_35 rfl (lv_at hl 1 rfl) ?_
  refine lv_iload_n hx hb dX0_lateWith_36 rfl (lv_at hl 4 rfl) ?_
  refine lv_iload_n hx hb dX0_lateWith_37 rfl (lv_at hl 3 rfl) ?_
  refine lv_aload_n hx hb dX0_lateWith_38 rfl (lv_at hl 2 rfl) ?_
  obtain ⟨hc5, hf⟩ := h_chk hf
  refine gf_X0_33 cx hw hk0 dX0_lateWith_39 ?_
  refine lv_iload_n hx hb dX0_lateWith_42 rfl (lv_at hl 1 rfl) ?_
  refine r_VN_i (As := [.int q1]) (rest := [.int x1, .int x2, .int q1, .int (st_I S (ky k0 1)), .ref (gg_o g ((st_P S (ky k0 0)) + 2))]) cx hw hf (nw_at cx) ((allT_at hA hc5).1).2.1 (by rw [((allT_at hA hc5).1).1]; rfl) lk_X0_123 (fun q6 hq => k_X4_waysOf l g hg (st_P S (ky k0 0)) (allT_at hA hc5) S q1 q6 hq) ⟨⟨rfl, rfl⟩, Nat.le_of_ble_eq_true rfl, Nat.le_of_ble_eq_true rfl⟩ rfl hl.1 rfl (Nat.le_of_ble_eq_true rfl) dX0_lateWith_43 ⟨Nat.zero_le _, Nat.zero_le _⟩ (fun q6 H locs hw hf => ?_)
  refine lv_iload hx hb dX0_lateWith_46 (lv_at hl 0 rfl) ?_
  refine r_VN_v (As := [.int (st_I S (ky k0 1)), .int q1, .int x2, .int x1, .int q6, .int q3]) (rest := []) cx hw hf (nw_at cx) ((allT_at hA hc4).2).2.1 (by rw [((allT_at hA hc4).2).1]; rfl) lk_X0_126 (fun q7 hq => k_X1_setVars l g hg ((st_P S (ky k0 0)) + 2) ((allT_at hA hc4).2) S (st_I S (ky k0 1)) q1 x2 x1 q6 q3 q7 hq) ⟨⟨rfl, rfl⟩, Nat.le_of_ble_eq_true rfl, Nat.le_of_ble_eq_true rfl⟩ rfl hl.1 rfl (Nat.le_of_ble_eq_true rfl) dX0_lateWith_48 ⟨Nat.zero_le _, Nat.zero_le _⟩ (fun q7 H locs hw hf => ?_)
  refine lv_aload_n hx hb dX0_lateWith_51 rfl (lv_at hl 2 rfl) ?_
  obtain ⟨hc8, hf⟩ := h_chk hf
  refine gf_X0_33 cx hw hk0 dX0_lateWith_52 ?_
  refine gf_X0_119 cx hw ((allT_at hA hc8).1) dX0_lateWith_55 ?_
  refine lv_aload_n hx hb dX0_lateWith_58 rfl (lv_at hl 2 rfl) ?_
  obtain ⟨hc9, hf⟩ := h_chk hf
  refine gf_X0_33 cx hw hk0 dX0_lateWith_59 ?_
  refine gf_X0_132 cx hw ((allT_at hA hc9).1) dX0_lateWith_62 ?_
  refine r_VN_w (As := [.int (st_I q7 (ky (st_P q7 (ky k0 0)) 6))]) (rest := []) cx hw hf (nw_at cx) ((allT_at hA hc8).2).2.1 (by rw [((allT_at hA hc8).2).1]; rfl) lk_X0_135 (fun q10 hq => k_X1_valueOf l g hg ((st_P q7 (ky k0 0)) + 2) ((allT_at hA hc8).2) q7 (st_I q7 (ky (st_P q7 (ky k0 0)) 6)) q10 hq) ⟨⟨rfl, rfl⟩, Nat.le_of_ble_eq_true rfl, Nat.le_of_ble_eq_true rfl⟩ rfl hl.1 rfl (Nat.le_of_ble_eq_true rfl) dX0_lateWith_65 ⟨Nat.zero_le _, Nat.zero_le _⟩ (fun q10 H locs hw hf => ?_)
  refine lv_istore hx hb dX0_lateWith_68 hl (by decide) (lv' := [(5, .int q10.1), (4, .int q3), (3, .int q1), (0, .ref (gg_o g k0)), (1, .int x1), (2, .int x2)]) rfl (fun ls hl => ?_)
  refine lv_iconst (v := 0) hx hb dX0_lateWith_70 (by decide) ?_
  refine lv_iload hx hb dX0_lateWith_71 (lv_at hl 0 rfl) ?_
  refine lv_sipush (v := 240) hx hb dX0_lateWith_73 (by decide) ?_
  refine va_mmin hx hb (cx.2.2.1.trans hl.1.symm) hown (hts _ wd_343) (hts _ wd_344) (hts _ wd_7) (hts _ wd_345) (Nat.le_of_ble_eq_true rfl) (Nat.le_of_ble_eq_true rfl) (Nat.zero_le _) (Nat.zero_le _) dX0_lateWith_76 ?_
  refine va_mmax hx hb (cx.2.2.1.trans hl.1.symm) hown (hts _ wd_346) (hts _ wd_85) (hts _ wd_7) (hts _ wd_86) (Nat.le_of_ble_eq_true rfl) (Nat.le_of_ble_eq_true rfl) (Nat.zero_le _) (Nat.zero_le _) dX0_lateWith_79 ?_
  exact r_iretw cx hw hr hlk hf dX0_lateWith_82
theorem dX0_setLates_0 : decode cX0_setLates 0 = .ok (.iconst 0, 1) := by decide +kernel
theorem dX0_setLates_1 : decode cX0_setLates 1 = .ok (.istore_n 1, 1) := by decide +kernel
theorem dX0_setLates_2 : decode cX0_setLates 2 = .ok (.iload_n 1, 1) := by decide +kernel
theorem dX0_setLates_3 : decode cX0_setLates 3 = .ok (.aload_n 0, 1) := by decide +kernel
theorem dX0_setLates_4 : decode cX0_setLates 4 = .ok (.getfield 33, 3) := by decide +kernel
theorem dX0_setLates_7 : decode cX0_setLates 7 = .ok (.getfield 76, 3) := by decide +kernel
theorem dX0_setLates_10 : decode cX0_setLates 10 = .ok (.if_icmp .ge 48, 3) := by decide +kernel
theorem dX0_setLates_13 : decode cX0_setLates 13 = .ok (.aload_n 0, 1) := by decide +kernel
theorem dX0_setLates_14 : decode cX0_setLates 14 = .ok (.aload_n 0, 1) := by decide +kernel
theorem dX0_setLates_15 : decode cX0_setLates 15 = .ok (.getfield 33, 3) := by decide +kernel
theorem dX0_setLates_18 : decode cX0_setLates 18 = .ok (.iload_n 1, 1) := by decide +kernel
theorem dX0_setLates_19 : decode cX0_setLates 19 = .ok (.invokevirtual 104, 3) := by decide +kernel
theorem dX0_setLates_22 : decode cX0_setLates 22 = .ok (.aload_n 0, 1) := by decide +kernel
theorem dX0_setLates_23 : decode cX0_setLates 23 = .ok (.getfield 41, 3) := by decide +kernel
theorem dX0_setLates_26 : decode cX0_setLates 26 = .ok (.invokevirtual 108, 3) := by decide +kernel
theorem dX0_setLates_29 : decode cX0_setLates 29 = .ok (.istore_n 2, 1) := by decide +kernel
theorem dX0_setLates_30 : decode cX0_setLates 30 = .ok (.aload_n 0, 1) := by decide +kernel
theorem dX0_setLates_31 : decode cX0_setLates 31 = .ok (.getfield 21, 3) := by decide +kernel
theorem dX0_setLates_34 : decode cX0_setLates 34 = .ok (.aload_n 0, 1) := by decide +kernel
theorem dX0_setLates_35 : decode cX0_setLates 35 = .ok (.getfield 41, 3) := by decide +kernel
theorem dX0_setLates_38 : decode cX0_setLates 38 = .ok (.bipush 8, 2) := by decide +kernel
theorem dX0_setLates_40 : decode cX0_setLates 40 = .ok (.imul, 1) := by decide +kernel
theorem dX0_setLates_41 : decode cX0_setLates 41 = .ok (.iload_n 1, 1) := by decide +kernel
theorem dX0_setLates_42 : decode cX0_setLates 42 = .ok (.iadd, 1) := by decide +kernel
theorem dX0_setLates_43 : decode cX0_setLates 43 = .ok (.aload_n 0, 1) := by decide +kernel
theorem dX0_setLates_44 : decode cX0_setLates 44 = .ok (.iload_n 1, 1) := by decide +kernel
theorem dX0_setLates_45 : decode cX0_setLates 45 = .ok (.iload_n 2, 1) := by decide +kernel
theorem dX0_setLates_46 : decode cX0_setLates 46 = .ok (.invokevirtual 111, 3) := by decide +kernel
theorem dX0_setLates_49 : decode cX0_setLates 49 = .ok (.invokestatic 60, 3) := by decide +kernel
theorem dX0_setLates_52 : decode cX0_setLates 52 = .ok (.iinc 1 1, 3) := by decide +kernel
theorem dX0_setLates_55 : decode cX0_setLates 55 = .ok (.goto (-53), 3) := by decide +kernel
theorem dX0_setLates_58 : decode cX0_setLates 58 = .ok (.return_, 1) := by decide +kernel
abbrev rm_X0_setLates : Room := { frames := 3, cells := 0, slots := 0, locals := 82 }
def f_X0_setLates_L2 (k0 : Nat)  (z2 : Int32 × St) : Option ((Int32 × St) ⊕ (St)) :=
  chk (isT (st_P z2.2 (ky k0 0))) (if (st_I z2.2 (ky (st_P z2.2 (ky k0 0)) 3)) ≤ z2.1 then (some (.inr z2.2)) else (chk (isT (st_P z2.2 (ky k0 0))) ((f_X4_ownerOf (st_P z2.2 (ky k0 0)) z2.2 z2.1).bind (fun (q4 : Int32) => (f_X0_rankOf k0 z2.2 q4 (st_I z2.2 (ky k0 1))).bind (fun (q5 : Int32) => (f_X0_lateWith k0 z2.2 z2.1 q5).bind (fun (q6 : Int32 × St) => (f_X5_put (ky k0 5) q6.2 (((st_I z2.2 (ky k0 1)) * (8 : Int32)) + z2.1) q6.1).bind (fun (q7 : St) => some (.inl ((z2.1 + 1), q7)))))))))
def f_X0_setLates (k0 : Nat) (S : St)  : Option (St) :=
  iter (f_X0_setLates_L2 k0  ) FU ((0 : Int32), S)
set_option maxRecDepth 100000 in
set_option maxHeartbeats 4000000 in
theorem k_X0_setLates (l : Launch) (g : GG) (hg : gd wd_C g) (k0 : Nat) (hk0 : hs wd_C g k0 0) (hA : allT g) (S : St)  (q : St) (hf : f_X0_setLates k0 S  = some q) : Met l yX0_setLates (Cond.code yX0_setLates cX0_setLates 3 none :: gw_tbl) rm_X0_setLates (va_Pc [.ref (gg_o g k0)] (wI wd_C g S)) (qc_v wd_C g q) 0 0 (aw g) := by
  refine mt_start (own := RX0) hg (by decide) rfl (Nat.le_of_ble_eq_true rfl) (fun p e s m args below meth c ls H locs cx hw hr hlk hl => ?_)
  have hx := cx.1
  have hb := cx.2.1
  have hown := cx.2.2.2.1
  have hts := cx.2.2.2.2.1
  have hl : lv_has ls 3 [(0, .ref (gg_o g k0))] := hl
  replace hf := h_top hf
  unfold f_X0_setLates at hf
  refine lv_iconst (v := 0) hx hb dX0_setLates_0 (by decide) ?_
  refine lv_istore_n hx hb dX0_setLates_1 rfl hl (by decide) (lv' := [(1, .int (0 : Int32)), (0, .ref (gg_o g k0))]) rfl (fun ls hl => ?_)
  have L2 : ∀  (aft2 : St → Option (St)), (∀ v : St, aft2 v = some q → (some v : Option (St)).bind some = some q) → ∀ (n2 : Nat) (ls : Array Slot) (H : Heap) (locs : List Loc) (z2 : Int32 × St), lv_has ls 3 [(0, .ref (gg_o g k0)), (1, .int z2.1)] → HH wd_C g s z2.2 H locs → (iter (f_X0_setLates_L2 k0  ) n2 z2).bind aft2 = some q → W p l e rm_X0_setLates s m args below meth c H locs 0 0 (MQ below (qc_v wd_C g q) args s 0 0 (aw g)) (F0 m 2 ls []) := by
    intro aft2 hR2 n2
    induction n2 with
    | zero => intro ls H locs z2 hl hw hf; exact h_iter0 hf
    | succ n2 ih2 =>
      intro ls H locs z2 hl hw hf
      replace hf := h_iter hf
      unfold f_X0_setLates_L2 at hf
      refine lv_iload_n hx hb dX0_setLates_2 rfl (lv_at hl 1 rfl) ?_
      refine lv_aload_n hx hb dX0_setLates_3 rfl (lv_at hl 0 rfl) ?_
      obtain ⟨hc1, hf⟩ := h_chk hf
      refine gf_X0_33 cx hw hk0 dX0_setLates_4 ?_
      refine gf_X0_76 cx hw ((allT_at hA hc1).1) dX0_setLates_7 ?_
      refine lv_icmp_ge hx hb dX0_setLates_10 (tgt := 58) rfl (fun hc2 => ?_) (fun hc2 => ?_)
      · replace hf := h_pos hc2 hf
        replace hf := hR2 z2.2 hf
        exact r_vret cx hw hr hlk hf dX0_setLates_58
      replace hf := h_neg hc2 hf
      refine lv_aload_n hx hb dX0_setLates_13 rfl (lv_at hl 0 rfl) ?_
      refine lv_aload_n hx hb dX0_setLates_14 rfl (lv_at hl 0 rfl) ?_
      obtain ⟨hc3, hf⟩ := h_chk hf
      refine gf_X0_33 cx hw hk0 dX0_setLates_15 ?_
      refine lv_iload_n hx hb dX0_setLates_18 rfl (lv_at hl 1 rfl) ?_
      refine r_VN_i (As := [.int z2.1]) (rest := [.ref (gg_o g k0)]) cx hw hf (nw_at cx) ((allT_at hA hc3).1).2.1 (by rw [((allT_at hA hc3).1).1]; rfl) lk_X0_104 (fun q4 hq => k_X4_ownerOf l g hg (st_P z2.2 (ky k0 0)) (allT_at hA hc3) z2.2 z2.1 q4 hq) ⟨⟨rfl, rfl⟩, Nat.le_of_ble_eq_true rfl, Nat.le_of_ble_eq_true rfl⟩ rfl hl.1 rfl (Nat.le_of_ble_eq_true rfl) dX0_setLates_19 ⟨Nat.zero_le _, Nat.zero_le _⟩ (fun q4 H locs hw hf => ?_)
      refine lv_aload_n hx hb dX0_setLates_22 rfl (lv_at hl 0 rfl) ?_
      refine gf_X0_41 cx hw hk0 dX0_setLates_23 ?_
      refine r_V_i (As := [.int q4, .int (st_I z2.2 (ky k0 1))]) (rest := []) cx hw hf hk0.2.1 (by rw [hk0.1]; rfl) lk_X0_108 (fun q5 hq => k_X0_rankOf l g hg k0 hk0 hA z2.2 q4 (st_I z2.2 (ky k0 1)) q5 hq) ⟨⟨rfl, rfl⟩, Nat.le_of_ble_eq_true rfl, Nat.le_of_ble_eq_true rfl⟩ rfl hl.1 rfl (Nat.le_of_ble_eq_true rfl) dX0_setLates_26 ⟨Nat.zero_le _, Nat.zero_le _⟩ (fun q5 H locs hw hf => ?_)
      refine lv_istore_n hx hb dX0_setLates_29 rfl hl (by decide) (lv' := [(2, .int q5), (0, .ref (gg_o g k0)), (1, .int z2.1)]) rfl (fun ls hl => ?_)
      refine lv_aload_n hx hb dX0_setLates_30 rfl (lv_at hl 1 rfl) ?_
      refine gf_X0_21 cx hw hk0 dX0_setLates_31 ?_
      refine lv_aload_n hx hb dX0_setLates_34 rfl (lv_at hl 1 rfl) ?_
      refine gf_X0_41 cx hw hk0 dX0_setLates_35 ?_
      refine lv_bipush (v := 8) hx hb dX0_setLates_38 (by decide) ?_
      refine lv_imul hx hb dX0_setLates_40 ?_
      refine lv_iload_n hx hb dX0_setLates_41 rfl (lv_at hl 2 rfl) ?_
      refine lv_iadd hx hb dX0_setLates_42 ?_
      refine lv_aload_n hx hb dX0_setLates_43 rfl (lv_at hl 1 rfl) ?_
      refine lv_iload_n hx hb dX0_setLates_44 rfl (lv_at hl 2 rfl) ?_
      refine lv_iload_n hx hb dX0_setLates_45 rfl (lv_at hl 0 rfl) ?_
      refine r_V_w (As := [.int z2.1, .int q5]) (rest := [.int (((st_I z2.2 (ky k0 1)) * (8 : Int32)) + z2.1), .ref (gg_a g (ky k0 5))]) cx hw hf hk0.2.1 (by rw [hk0.1]; rfl) lk_X0_111 (fun q6 hq => k_X0_lateWith l g hg k0 hk0 hA z2.2 z2.1 q5 q6 hq) ⟨⟨rfl, rfl⟩, Nat.le_of_ble_eq_true rfl, Nat.le_of_ble_eq_true rfl⟩ rfl hl.1 rfl (Nat.le_of_ble_eq_true rfl) dX0_setLates_46 ⟨Nat.zero_le _, Nat.zero_le _⟩ (fun q6 H locs hw hf => ?_)
      refine r_SN_v (As := [.ref (gg_a g (ky k0 5)), .int (((st_I z2.2 (ky k0 1)) * (8 : Int32)) + z2.1), .int q6.1]) (rest := []) cx hw hf (nw_at cx) lk_X0_60 (fun q7 hq => k_X5_put l g hg (ky k0 5) (hk0.2.2.1 5 rfl) q6.2 (((st_I z2.2 (ky k0 1)) * (8 : Int32)) + z2.1) q6.1 q7 hq) ⟨⟨rfl, rfl⟩, Nat.le_of_ble_eq_true rfl, Nat.le_of_ble_eq_true rfl⟩ rfl hl.1 rfl (Nat.le_of_ble_eq_true rfl) dX0_setLates_49 ⟨Nat.zero_le _, Nat.zero_le _⟩ (fun q7 H locs hw hf => ?_)
      refine lv_iinc hx hb dX0_setLates_52 hl (k := 2) rfl (congrArg (HAdd.hAdd _) (show Int32.ofInt (1) = 1 by decide)) (by decide) (lv' := [(1, .int (z2.1 + 1)), (2, .int q5), (0, .ref (gg_o g k0))]) rfl (fun ls hl => ?_)
      refine lv_goto hx hb dX0_setLates_55 (tgt := 2) rfl ?_
      exact ih2 _ _ _ ((z2.1 + 1), q7) (lv_sub hl [2, 0] rfl) hw hf
  exact L2 some (fun v h => h) FU _ _ _ ((0 : Int32), S) (lv_sub hl [1, 0] rfl) hw hf
theorem dX0_begin_0 : decode cX0_begin 0 = .ok (.aload_n 0, 1) := by decide +kernel
theorem dX0_begin_1 : decode cX0_begin 1 = .ok (.aload_n 1, 1) := by decide +kernel
theorem dX0_begin_2 : decode cX0_begin 2 = .ok (.putfield 33, 3) := by decide +kernel
theorem dX0_begin_5 : decode cX0_begin 5 = .ok (.aload_n 0, 1) := by decide +kernel
theorem dX0_begin_6 : decode cX0_begin 6 = .ok (.iconst 0, 1) := by decide +kernel
theorem dX0_begin_7 : decode cX0_begin 7 = .ok (.putfield 41, 3) := by decide +kernel
theorem dX0_begin_10 : decode cX0_begin 10 = .ok (.aload_n 1, 1) := by decide +kernel
theorem dX0_begin_11 : decode cX0_begin 11 = .ok (.getfield 45, 3) := by decide +kernel
theorem dX0_begin_14 : decode cX0_begin 14 = .ok (.iconst 0, 1) := by decide +kernel
theorem dX0_begin_15 : decode cX0_begin 15 = .ok (.aload_n 0, 1) := by decide +kernel
theorem dX0_begin_16 : decode cX0_begin 16 = .ok (.getfield 9, 3) := by decide +kernel
theorem dX0_begin_19 : decode cX0_begin 19 = .ok (.iconst 0, 1) := by decide +kernel
theorem dX0_begin_20 : decode cX0_begin 20 = .ok (.bipush 6, 2) := by decide +kernel
theorem dX0_begin_22 : decode cX0_begin 22 = .ok (.invokestatic 50, 3) := by decide +kernel
theorem dX0_begin_25 : decode cX0_begin 25 = .ok (.aload_n 1, 1) := by decide +kernel
theorem dX0_begin_26 : decode cX0_begin 26 = .ok (.getfield 54, 3) := by decide +kernel
theorem dX0_begin_29 : decode cX0_begin 29 = .ok (.iconst 0, 1) := by decide +kernel
theorem dX0_begin_30 : decode cX0_begin 30 = .ok (.aload_n 0, 1) := by decide +kernel
theorem dX0_begin_31 : decode cX0_begin 31 = .ok (.getfield 15, 3) := by decide +kernel
theorem dX0_begin_34 : decode cX0_begin 34 = .ok (.iconst 0, 1) := by decide +kernel
theorem dX0_begin_35 : decode cX0_begin 35 = .ok (.bipush 6, 2) := by decide +kernel
theorem dX0_begin_37 : decode cX0_begin 37 = .ok (.invokestatic 50, 3) := by decide +kernel
theorem dX0_begin_40 : decode cX0_begin 40 = .ok (.aload_n 1, 1) := by decide +kernel
theorem dX0_begin_41 : decode cX0_begin 41 = .ok (.getfield 57, 3) := by decide +kernel
theorem dX0_begin_44 : decode cX0_begin 44 = .ok (.iconst 0, 1) := by decide +kernel
theorem dX0_begin_45 : decode cX0_begin 45 = .ok (.aload_n 0, 1) := by decide +kernel
theorem dX0_begin_46 : decode cX0_begin 46 = .ok (.getfield 18, 3) := by decide +kernel
theorem dX0_begin_49 : decode cX0_begin 49 = .ok (.iconst 0, 1) := by decide +kernel
theorem dX0_begin_50 : decode cX0_begin 50 = .ok (.bipush 8, 2) := by decide +kernel
theorem dX0_begin_52 : decode cX0_begin 52 = .ok (.invokestatic 50, 3) := by decide +kernel
theorem dX0_begin_55 : decode cX0_begin 55 = .ok (.aload_n 0, 1) := by decide +kernel
theorem dX0_begin_56 : decode cX0_begin 56 = .ok (.getfield 24, 3) := by decide +kernel
theorem dX0_begin_59 : decode cX0_begin 59 = .ok (.iconst 0, 1) := by decide +kernel
theorem dX0_begin_60 : decode cX0_begin 60 = .ok (.iconst 0, 1) := by decide +kernel
theorem dX0_begin_61 : decode cX0_begin 61 = .ok (.invokestatic 60, 3) := by decide +kernel
theorem dX0_begin_64 : decode cX0_begin 64 = .ok (.iconst 0, 1) := by decide +kernel
theorem dX0_begin_65 : decode cX0_begin 65 = .ok (.istore_n 2, 1) := by decide +kernel
theorem dX0_begin_66 : decode cX0_begin 66 = .ok (.iload_n 2, 1) := by decide +kernel
theorem dX0_begin_67 : decode cX0_begin 67 = .ok (.bipush 8, 2) := by decide +kernel
theorem dX0_begin_69 : decode cX0_begin 69 = .ok (.if_icmp .ge 29, 3) := by decide +kernel
theorem dX0_begin_72 : decode cX0_begin 72 = .ok (.aload_n 0, 1) := by decide +kernel
theorem dX0_begin_73 : decode cX0_begin 73 = .ok (.getfield 27, 3) := by decide +kernel
theorem dX0_begin_76 : decode cX0_begin 76 = .ok (.iload_n 2, 1) := by decide +kernel
theorem dX0_begin_77 : decode cX0_begin 77 = .ok (.ldc 64, 2) := by decide +kernel
theorem dX0_begin_79 : decode cX0_begin 79 = .ok (.invokestatic 60, 3) := by decide +kernel
theorem dX0_begin_82 : decode cX0_begin 82 = .ok (.aload_n 0, 1) := by decide +kernel
theorem dX0_begin_83 : decode cX0_begin 83 = .ok (.getfield 30, 3) := by decide +kernel
theorem dX0_begin_86 : decode cX0_begin 86 = .ok (.iload_n 2, 1) := by decide +kernel
theorem dX0_begin_87 : decode cX0_begin 87 = .ok (.bipush (-2), 2) := by decide +kernel
theorem dX0_begin_89 : decode cX0_begin 89 = .ok (.invokestatic 60, 3) := by decide +kernel
theorem dX0_begin_92 : decode cX0_begin 92 = .ok (.iinc 2 1, 3) := by decide +kernel
theorem dX0_begin_95 : decode cX0_begin 95 = .ok (.goto (-29), 3) := by decide +kernel
theorem dX0_begin_98 : decode cX0_begin 98 = .ok (.aload_n 0, 1) := by decide +kernel
theorem dX0_begin_99 : decode cX0_begin 99 = .ok (.invokevirtual 65, 3) := by decide +kernel
theorem dX0_begin_102 : decode cX0_begin 102 = .ok (.return_, 1) := by decide +kernel
abbrev rm_X0_begin : Room := { frames := 4, cells := 0, slots := 0, locals := 144 }
def f_X0_begin_L66 (k0 : Nat) (k1 : Nat)  (z66 : Int32 × St) : Option ((Int32 × St) ⊕ (St)) :=
  if (8 : Int32) ≤ z66.1 then (some (.inr z66.2)) else ((f_X5_put (ky k0 7) z66.2 z66.1 (100000 : Int32)).bind (fun (q8 : St) => (f_X5_put (ky k0 8) q8 z66.1 (-2 : Int32)).bind (fun (q9 : St) => some (.inl ((z66.1 + 1), q9)))))
def f_X0_begin (k0 : Nat) (k1 : Nat) (S : St)  : Option (St) :=
  lt_v (up_P S (ky k0 0) k1) (fun (S1 : St) => lt_v (up_I S1 (ky k0 1) (0 : Int32)) (fun (S2 : St) => (f_X5_copy (ky k1 9) (ky k0 2) S2 (0 : Int32) (0 : Int32) (6 : Int32)).bind (fun (q3 : St) => (f_X5_copy (ky k1 8) (ky k0 3) q3 (0 : Int32) (0 : Int32) (6 : Int32)).bind (fun (q4 : St) => (f_X5_copy (ky k1 11) (ky k0 4) q4 (0 : Int32) (0 : Int32) (8 : Int32)).bind (fun (q5 : St) => (f_X5_put (ky k0 6) q5 (0 : Int32) (0 : Int32)).bind (fun (q6 : St) => (iter (f_X0_begin_L66 k0 k1  ) FU ((0 : Int32), q6)).bind (fun (S10 : St) => (f_X0_setLates k0 S10 ).bind (fun (q11 : St) => some q11))))))))
set_option maxRecDepth 100000 in
set_option maxHeartbeats 4000000 in
theorem k_X0_begin (l : Launch) (g : GG) (hg : gd wd_C g) (k0 : Nat) (k1 : Nat) (hk0 : hs wd_C g k0 0) (hA : allT g) (hk1 : hT g k1) (S : St)  (q : St) (hf : f_X0_begin k0 k1 S  = some q) : Met l yX0_begin (Cond.code yX0_begin cX0_begin 3 none :: gw_tbl) rm_X0_begin (va_Pc [.ref (gg_o g k0), .ref (gg_o g k1)] (wI wd_C g S)) (qc_v wd_C g q) 0 0 (aw g) := by
  refine mt_start (own := RX0) hg (by decide) rfl (Nat.le_of_ble_eq_true rfl) (fun p e s m args below meth c ls H locs cx hw hr hlk hl => ?_)
  have hx := cx.1
  have hb := cx.2.1
  have hown := cx.2.2.2.1
  have hts := cx.2.2.2.2.1
  have hl : lv_has ls 3 [(0, .ref (gg_o g k0)), (1, .ref (gg_o g k1))] := hl
  replace hf := h_top hf
  unfold f_X0_begin at hf
  refine lv_aload_n hx hb dX0_begin_0 rfl (lv_at hl 0 rfl) ?_
  refine lv_aload_n hx hb dX0_begin_1 rfl (lv_at hl 1 rfl) ?_
  refine pf_X0_33 cx hw hk0 hf dX0_begin_2 (fun S1 H locs hw hf => ?_)
  refine lv_aload_n hx hb dX0_begin_5 rfl (lv_at hl 0 rfl) ?_
  refine lv_iconst (v := 0) hx hb dX0_begin_6 (by decide) ?_
  refine pf_X0_41 cx hw hk0 hf dX0_begin_7 (fun S2 H locs hw hf => ?_)
  refine lv_aload_n hx hb dX0_begin_10 rfl (lv_at hl 1 rfl) ?_
  refine gf_X0_45 cx hw hk1.1 dX0_begin_11 ?_
  refine lv_iconst (v := 0) hx hb dX0_begin_14 (by decide) ?_
  refine lv_aload_n hx hb dX0_begin_15 rfl (lv_at hl 0 rfl) ?_
  refine gf_X0_9 cx hw hk0 dX0_begin_16 ?_
  refine lv_iconst (v := 0) hx hb dX0_begin_19 (by decide) ?_
  refine lv_bipush (v := 6) hx hb dX0_begin_20 (by decide) ?_
  refine r_SN_v (As := [.ref (gg_a g (ky k1 9)), .int (0 : Int32), .ref (gg_a g (ky k0 2)), .int (0 : Int32), .int (6 : Int32)]) (rest := []) cx hw hf (nw_at cx) lk_X0_50 (fun q3 hq => k_X5_copy l g hg (ky k1 9) (ky k0 2) (hk1.1.2.2.1 9 rfl) (hk0.2.2.1 2 rfl) S2 (0 : Int32) (0 : Int32) (6 : Int32) q3 hq) ⟨⟨rfl, rfl⟩, Nat.le_of_ble_eq_true rfl, Nat.le_of_ble_eq_true rfl⟩ rfl hl.1 rfl (Nat.le_of_ble_eq_true rfl) dX0_begin_22 ⟨Nat.zero_le _, Nat.zero_le _⟩ (fun q3 H locs hw hf => ?_)
  refine lv_aload_n hx hb dX0_begin_25 rfl (lv_at hl 1 rfl) ?_
  refine gf_X0_54 cx hw hk1.1 dX0_begin_26 ?_
  refine lv_iconst (v := 0) hx hb dX0_begin_29 (by decide) ?_
  refine lv_aload_n hx hb dX0_begin_30 rfl (lv_at hl 0 rfl) ?_
  refine gf_X0_15 cx hw hk0 dX0_begin_31 ?_
  refine lv_iconst (v := 0) hx hb dX0_begin_34 (by decide) ?_
  refine lv_bipush (v := 6) hx hb dX0_begin_35 (by decide) ?_
  refine r_SN_v (As := [.ref (gg_a g (ky k1 8)), .int (0 : Int32), .ref (gg_a g (ky k0 3)), .int (0 : Int32), .int (6 : Int32)]) (rest := []) cx hw hf (nw_at cx) lk_X0_50 (fun q4 hq => k_X5_copy l g hg (ky k1 8) (ky k0 3) (hk1.1.2.2.1 8 rfl) (hk0.2.2.1 3 rfl) q3 (0 : Int32) (0 : Int32) (6 : Int32) q4 hq) ⟨⟨rfl, rfl⟩, Nat.le_of_ble_eq_true rfl, Nat.le_of_ble_eq_true rfl⟩ rfl hl.1 rfl (Nat.le_of_ble_eq_true rfl) dX0_begin_37 ⟨Nat.zero_le _, Nat.zero_le _⟩ (fun q4 H locs hw hf => ?_)
  refine lv_aload_n hx hb dX0_begin_40 rfl (lv_at hl 1 rfl) ?_
  refine gf_X0_57 cx hw hk1.1 dX0_begin_41 ?_
  refine lv_iconst (v := 0) hx hb dX0_begin_44 (by decide) ?_
  refine lv_aload_n hx hb dX0_begin_45 rfl (lv_at hl 0 rfl) ?_
  refine gf_X0_18 cx hw hk0 dX0_begin_46 ?_
  refine lv_iconst (v := 0) hx hb dX0_begin_49 (by decide) ?_
  refine lv_bipush (v := 8) hx hb dX0_begin_50 (by decide) ?_
  refine r_SN_v (As := [.ref (gg_a g (ky k1 11)), .int (0 : Int32), .ref (gg_a g (ky k0 4)), .int (0 : Int32), .int (8 : Int32)]) (rest := []) cx hw hf (nw_at cx) lk_X0_50 (fun q5 hq => k_X5_copy l g hg (ky k1 11) (ky k0 4) (hk1.1.2.2.1 11 rfl) (hk0.2.2.1 4 rfl) q4 (0 : Int32) (0 : Int32) (8 : Int32) q5 hq) ⟨⟨rfl, rfl⟩, Nat.le_of_ble_eq_true rfl, Nat.le_of_ble_eq_true rfl⟩ rfl hl.1 rfl (Nat.le_of_ble_eq_true rfl) dX0_begin_52 ⟨Nat.zero_le _, Nat.zero_le _⟩ (fun q5 H locs hw hf => ?_)
  refine lv_aload_n hx hb dX0_begin_55 rfl (lv_at hl 0 rfl) ?_
  refine gf_X0_24 cx hw hk0 dX0_begin_56 ?_
  refine lv_iconst (v := 0) hx hb dX0_begin_59 (by decide) ?_
  refine lv_iconst (v := 0) hx hb dX0_begin_60 (by decide) ?_
  refine r_SN_v (As := [.ref (gg_a g (ky k0 6)), .int (0 : Int32), .int (0 : Int32)]) (rest := []) cx hw hf (nw_at cx) lk_X0_60 (fun q6 hq => k_X5_put l g hg (ky k0 6) (hk0.2.2.1 6 rfl) q5 (0 : Int32) (0 : Int32) q6 hq) ⟨⟨rfl, rfl⟩, Nat.le_of_ble_eq_true rfl, Nat.le_of_ble_eq_true rfl⟩ rfl hl.1 rfl (Nat.le_of_ble_eq_true rfl) dX0_begin_61 ⟨Nat.zero_le _, Nat.zero_le _⟩ (fun q6 H locs hw hf => ?_)
  refine lv_iconst (v := 0) hx hb dX0_begin_64 (by decide) ?_
  refine lv_istore_n hx hb dX0_begin_65 rfl hl (by decide) (lv' := [(2, .int (0 : Int32)), (0, .ref (gg_o g k0)), (1, .ref (gg_o g k1))]) rfl (fun ls hl => ?_)
  have L66 : ∀  (aft66 : St → Option (St)), (∀ (ls : Array Slot) (H : Heap) (locs : List Loc) (S1 : St), lv_has ls 3 [(0, .ref (gg_o g k0))] → HH wd_C g s S1 H locs → aft66 S1 = some q → W p l e rm_X0_begin s m args below meth c H locs 0 0 (MQ below (qc_v wd_C g q) args s 0 0 (aw g)) (F0 m 98 ls [])) → ∀ (n66 : Nat) (ls : Array Slot) (H : Heap) (locs : List Loc) (z66 : Int32 × St), lv_has ls 3 [(0, .ref (gg_o g k0)), (2, .int z66.1)] → HH wd_C g s z66.2 H locs → (iter (f_X0_begin_L66 k0 k1  ) n66 z66).bind aft66 = some q → W p l e rm_X0_begin s m args below meth c H locs 0 0 (MQ below (qc_v wd_C g q) args s 0 0 (aw g)) (F0 m 66 ls []) := by
    intro aft66 hX66 n66
    induction n66 with
    | zero => intro ls H locs z66 hl hw hf; exact h_iter0 hf
    | succ n66 ih66 =>
      intro ls H locs z66 hl hw hf
      replace hf := h_iter hf
      unfold f_X0_begin_L66 at hf
      refine lv_iload_n hx hb dX0_begin_66 rfl (lv_at hl 1 rfl) ?_
      refine lv_bipush (v := 8) hx hb dX0_begin_67 (by decide) ?_
      refine lv_icmp_ge hx hb dX0_begin_69 (tgt := 98) rfl (fun hc7 => ?_) (fun hc7 => ?_)
      · replace hf := h_pos hc7 hf
        exact hX66 _ _ _ z66.2 (lv_sub hl [0] rfl) hw hf
      replace hf := h_neg hc7 hf
      refine lv_aload_n hx hb dX0_begin_72 rfl (lv_at hl 0 rfl) ?_
      refine gf_X0_27 cx hw hk0 dX0_begin_73 ?_
      refine lv_iload_n hx hb dX0_begin_76 rfl (lv_at hl 1 rfl) ?_
      refine lv_ldc hx hb hown (hts _ wd_291) dX0_begin_77 ?_
      refine r_SN_v (As := [.ref (gg_a g (ky k0 7)), .int z66.1, .int (100000 : Int32)]) (rest := []) cx hw hf (nw_at cx) lk_X0_60 (fun q8 hq => k_X5_put l g hg (ky k0 7) (hk0.2.2.1 7 rfl) z66.2 z66.1 (100000 : Int32) q8 hq) ⟨⟨rfl, rfl⟩, Nat.le_of_ble_eq_true rfl, Nat.le_of_ble_eq_true rfl⟩ rfl hl.1 rfl (Nat.le_of_ble_eq_true rfl) dX0_begin_79 ⟨Nat.zero_le _, Nat.zero_le _⟩ (fun q8 H locs hw hf => ?_)
      refine lv_aload_n hx hb dX0_begin_82 rfl (lv_at hl 0 rfl) ?_
      refine gf_X0_30 cx hw hk0 dX0_begin_83 ?_
      refine lv_iload_n hx hb dX0_begin_86 rfl (lv_at hl 1 rfl) ?_
      refine lv_bipush (v := -2) hx hb dX0_begin_87 (by decide) ?_
      refine r_SN_v (As := [.ref (gg_a g (ky k0 8)), .int z66.1, .int (-2 : Int32)]) (rest := []) cx hw hf (nw_at cx) lk_X0_60 (fun q9 hq => k_X5_put l g hg (ky k0 8) (hk0.2.2.1 8 rfl) q8 z66.1 (-2 : Int32) q9 hq) ⟨⟨rfl, rfl⟩, Nat.le_of_ble_eq_true rfl, Nat.le_of_ble_eq_true rfl⟩ rfl hl.1 rfl (Nat.le_of_ble_eq_true rfl) dX0_begin_89 ⟨Nat.zero_le _, Nat.zero_le _⟩ (fun q9 H locs hw hf => ?_)
      refine lv_iinc hx hb dX0_begin_92 hl (k := 1) rfl (congrArg (HAdd.hAdd _) (show Int32.ofInt (1) = 1 by decide)) (by decide) (lv' := [(2, .int (z66.1 + 1)), (0, .ref (gg_o g k0))]) rfl (fun ls hl => ?_)
      refine lv_goto hx hb dX0_begin_95 (tgt := 66) rfl ?_
      exact ih66 _ _ _ ((z66.1 + 1), q9) (lv_sub hl [1, 0] rfl) hw hf
  refine L66 _ (fun ls H locs S10 hl hw hf => ?_) FU _ _ _ ((0 : Int32), q6) (lv_sub hl [1, 0] rfl) hw (h_assoc hf)
  try dsimp only at hf
  refine lv_aload_n hx hb dX0_begin_98 rfl (lv_at hl 0 rfl) ?_
  refine r_V_v (As := []) (rest := []) cx hw hf hk0.2.1 (by rw [hk0.1]; rfl) lk_X0_65 (fun q11 hq => k_X0_setLates l g hg k0 hk0 hA S10  q11 hq) ⟨⟨rfl, rfl⟩, Nat.le_of_ble_eq_true rfl, Nat.le_of_ble_eq_true rfl⟩ rfl hl.1 rfl (Nat.le_of_ble_eq_true rfl) dX0_begin_99 ⟨Nat.zero_le _, Nat.zero_le _⟩ (fun q11 H locs hw hf => ?_)
  exact r_vret cx hw hr hlk hf dX0_begin_102
theorem dX0_copyOf_0 : decode cX0_copyOf 0 = .ok (.aload_n 1, 1) := by decide +kernel
theorem dX0_copyOf_1 : decode cX0_copyOf 1 = .ok (.getfield 41, 3) := by decide +kernel
theorem dX0_copyOf_4 : decode cX0_copyOf 4 = .ok (.iconst 1, 1) := by decide +kernel
theorem dX0_copyOf_5 : decode cX0_copyOf 5 = .ok (.iadd, 1) := by decide +kernel
theorem dX0_copyOf_6 : decode cX0_copyOf 6 = .ok (.istore_n 2, 1) := by decide +kernel
theorem dX0_copyOf_7 : decode cX0_copyOf 7 = .ok (.aload_n 0, 1) := by decide +kernel
theorem dX0_copyOf_8 : decode cX0_copyOf 8 = .ok (.aload_n 1, 1) := by decide +kernel
theorem dX0_copyOf_9 : decode cX0_copyOf 9 = .ok (.getfield 33, 3) := by decide +kernel
theorem dX0_copyOf_12 : decode cX0_copyOf 12 = .ok (.putfield 33, 3) := by decide +kernel
theorem dX0_copyOf_15 : decode cX0_copyOf 15 = .ok (.aload_n 0, 1) := by decide +kernel
theorem dX0_copyOf_16 : decode cX0_copyOf 16 = .ok (.aload_n 1, 1) := by decide +kernel
theorem dX0_copyOf_17 : decode cX0_copyOf 17 = .ok (.getfield 41, 3) := by decide +kernel
theorem dX0_copyOf_20 : decode cX0_copyOf 20 = .ok (.putfield 41, 3) := by decide +kernel
theorem dX0_copyOf_23 : decode cX0_copyOf 23 = .ok (.aload_n 1, 1) := by decide +kernel
theorem dX0_copyOf_24 : decode cX0_copyOf 24 = .ok (.getfield 9, 3) := by decide +kernel
theorem dX0_copyOf_27 : decode cX0_copyOf 27 = .ok (.iconst 0, 1) := by decide +kernel
theorem dX0_copyOf_28 : decode cX0_copyOf 28 = .ok (.aload_n 0, 1) := by decide +kernel
theorem dX0_copyOf_29 : decode cX0_copyOf 29 = .ok (.getfield 9, 3) := by decide +kernel
theorem dX0_copyOf_32 : decode cX0_copyOf 32 = .ok (.iconst 0, 1) := by decide +kernel
theorem dX0_copyOf_33 : decode cX0_copyOf 33 = .ok (.iload_n 2, 1) := by decide +kernel
theorem dX0_copyOf_34 : decode cX0_copyOf 34 = .ok (.bipush 6, 2) := by decide +kernel
theorem dX0_copyOf_36 : decode cX0_copyOf 36 = .ok (.imul, 1) := by decide +kernel
theorem dX0_copyOf_37 : decode cX0_copyOf 37 = .ok (.invokestatic 50, 3) := by decide +kernel
theorem dX0_copyOf_40 : decode cX0_copyOf 40 = .ok (.aload_n 1, 1) := by decide +kernel
theorem dX0_copyOf_41 : decode cX0_copyOf 41 = .ok (.getfield 15, 3) := by decide +kernel
theorem dX0_copyOf_44 : decode cX0_copyOf 44 = .ok (.iconst 0, 1) := by decide +kernel
theorem dX0_copyOf_45 : decode cX0_copyOf 45 = .ok (.aload_n 0, 1) := by decide +kernel
theorem dX0_copyOf_46 : decode cX0_copyOf 46 = .ok (.getfield 15, 3) := by decide +kernel
theorem dX0_copyOf_49 : decode cX0_copyOf 49 = .ok (.iconst 0, 1) := by decide +kernel
theorem dX0_copyOf_50 : decode cX0_copyOf 50 = .ok (.iload_n 2, 1) := by decide +kernel
theorem dX0_copyOf_51 : decode cX0_copyOf 51 = .ok (.bipush 6, 2) := by decide +kernel
theorem dX0_copyOf_53 : decode cX0_copyOf 53 = .ok (.imul, 1) := by decide +kernel
theorem dX0_copyOf_54 : decode cX0_copyOf 54 = .ok (.invokestatic 50, 3) := by decide +kernel
theorem dX0_copyOf_57 : decode cX0_copyOf 57 = .ok (.aload_n 1, 1) := by decide +kernel
theorem dX0_copyOf_58 : decode cX0_copyOf 58 = .ok (.getfield 18, 3) := by decide +kernel
theorem dX0_copyOf_61 : decode cX0_copyOf 61 = .ok (.iconst 0, 1) := by decide +kernel
theorem dX0_copyOf_62 : decode cX0_copyOf 62 = .ok (.aload_n 0, 1) := by decide +kernel
theorem dX0_copyOf_63 : decode cX0_copyOf 63 = .ok (.getfield 18, 3) := by decide +kernel
theorem dX0_copyOf_66 : decode cX0_copyOf 66 = .ok (.iconst 0, 1) := by decide +kernel
theorem dX0_copyOf_67 : decode cX0_copyOf 67 = .ok (.iload_n 2, 1) := by decide +kernel
theorem dX0_copyOf_68 : decode cX0_copyOf 68 = .ok (.bipush 8, 2) := by decide +kernel
theorem dX0_copyOf_70 : decode cX0_copyOf 70 = .ok (.imul, 1) := by decide +kernel
theorem dX0_copyOf_71 : decode cX0_copyOf 71 = .ok (.invokestatic 50, 3) := by decide +kernel
theorem dX0_copyOf_74 : decode cX0_copyOf 74 = .ok (.aload_n 1, 1) := by decide +kernel
theorem dX0_copyOf_75 : decode cX0_copyOf 75 = .ok (.getfield 21, 3) := by decide +kernel
theorem dX0_copyOf_78 : decode cX0_copyOf 78 = .ok (.iconst 0, 1) := by decide +kernel
theorem dX0_copyOf_79 : decode cX0_copyOf 79 = .ok (.aload_n 0, 1) := by decide +kernel
theorem dX0_copyOf_80 : decode cX0_copyOf 80 = .ok (.getfield 21, 3) := by decide +kernel
theorem dX0_copyOf_83 : decode cX0_copyOf 83 = .ok (.iconst 0, 1) := by decide +kernel
theorem dX0_copyOf_84 : decode cX0_copyOf 84 = .ok (.iload_n 2, 1) := by decide +kernel
theorem dX0_copyOf_85 : decode cX0_copyOf 85 = .ok (.bipush 8, 2) := by decide +kernel
theorem dX0_copyOf_87 : decode cX0_copyOf 87 = .ok (.imul, 1) := by decide +kernel
theorem dX0_copyOf_88 : decode cX0_copyOf 88 = .ok (.invokestatic 50, 3) := by decide +kernel
theorem dX0_copyOf_91 : decode cX0_copyOf 91 = .ok (.aload_n 1, 1) := by decide +kernel
theorem dX0_copyOf_92 : decode cX0_copyOf 92 = .ok (.getfield 24, 3) := by decide +kernel
theorem dX0_copyOf_95 : decode cX0_copyOf 95 = .ok (.iconst 0, 1) := by decide +kernel
theorem dX0_copyOf_96 : decode cX0_copyOf 96 = .ok (.aload_n 0, 1) := by decide +kernel
theorem dX0_copyOf_97 : decode cX0_copyOf 97 = .ok (.getfield 24, 3) := by decide +kernel
theorem dX0_copyOf_100 : decode cX0_copyOf 100 = .ok (.iconst 0, 1) := by decide +kernel
theorem dX0_copyOf_101 : decode cX0_copyOf 101 = .ok (.iload_n 2, 1) := by decide +kernel
theorem dX0_copyOf_102 : decode cX0_copyOf 102 = .ok (.invokestatic 50, 3) := by decide +kernel
theorem dX0_copyOf_105 : decode cX0_copyOf 105 = .ok (.aload_n 1, 1) := by decide +kernel
theorem dX0_copyOf_106 : decode cX0_copyOf 106 = .ok (.getfield 27, 3) := by decide +kernel
theorem dX0_copyOf_109 : decode cX0_copyOf 109 = .ok (.iconst 0, 1) := by decide +kernel
theorem dX0_copyOf_110 : decode cX0_copyOf 110 = .ok (.aload_n 0, 1) := by decide +kernel
theorem dX0_copyOf_111 : decode cX0_copyOf 111 = .ok (.getfield 27, 3) := by decide +kernel
theorem dX0_copyOf_114 : decode cX0_copyOf 114 = .ok (.iconst 0, 1) := by decide +kernel
theorem dX0_copyOf_115 : decode cX0_copyOf 115 = .ok (.bipush 8, 2) := by decide +kernel
theorem dX0_copyOf_117 : decode cX0_copyOf 117 = .ok (.invokestatic 50, 3) := by decide +kernel
theorem dX0_copyOf_120 : decode cX0_copyOf 120 = .ok (.aload_n 1, 1) := by decide +kernel
theorem dX0_copyOf_121 : decode cX0_copyOf 121 = .ok (.getfield 30, 3) := by decide +kernel
theorem dX0_copyOf_124 : decode cX0_copyOf 124 = .ok (.iconst 0, 1) := by decide +kernel
theorem dX0_copyOf_125 : decode cX0_copyOf 125 = .ok (.aload_n 0, 1) := by decide +kernel
theorem dX0_copyOf_126 : decode cX0_copyOf 126 = .ok (.getfield 30, 3) := by decide +kernel
theorem dX0_copyOf_129 : decode cX0_copyOf 129 = .ok (.iconst 0, 1) := by decide +kernel
theorem dX0_copyOf_130 : decode cX0_copyOf 130 = .ok (.bipush 8, 2) := by decide +kernel
theorem dX0_copyOf_132 : decode cX0_copyOf 132 = .ok (.invokestatic 50, 3) := by decide +kernel
theorem dX0_copyOf_135 : decode cX0_copyOf 135 = .ok (.return_, 1) := by decide +kernel
abbrev rm_X0_copyOf : Room := { frames := 2, cells := 0, slots := 0, locals := 144 }
def f_X0_copyOf (k0 : Nat) (k1 : Nat) (S : St)  : Option (St) :=
  chk (isT (st_P S (ky k1 0))) (lt_v (up_P S (ky k0 0) (st_P S (ky k1 0))) (fun (S2 : St) => lt_v (up_I S2 (ky k0 1) (st_I S2 (ky k1 1))) (fun (S3 : St) => (f_X5_copy (ky k1 2) (ky k0 2) S3 (0 : Int32) (0 : Int32) (((st_I S (ky k1 1)) + (1 : Int32)) * (6 : Int32))).bind (fun (q4 : St) => (f_X5_copy (ky k1 3) (ky k0 3) q4 (0 : Int32) (0 : Int32) (((st_I S (ky k1 1)) + (1 : Int32)) * (6 : Int32))).bind (fun (q5 : St) => (f_X5_copy (ky k1 4) (ky k0 4) q5 (0 : Int32) (0 : Int32) (((st_I S (ky k1 1)) + (1 : Int32)) * (8 : Int32))).bind (fun (q6 : St) => (f_X5_copy (ky k1 5) (ky k0 5) q6 (0 : Int32) (0 : Int32) (((st_I S (ky k1 1)) + (1 : Int32)) * (8 : Int32))).bind (fun (q7 : St) => (f_X5_copy (ky k1 6) (ky k0 6) q7 (0 : Int32) (0 : Int32) ((st_I S (ky k1 1)) + (1 : Int32))).bind (fun (q8 : St) => (f_X5_copy (ky k1 7) (ky k0 7) q8 (0 : Int32) (0 : Int32) (8 : Int32)).bind (fun (q9 : St) => (f_X5_copy (ky k1 8) (ky k0 8) q9 (0 : Int32) (0 : Int32) (8 : Int32)).bind (fun (q10 : St) => some q10))))))))))
set_option maxRecDepth 100000 in
set_option maxHeartbeats 4000000 in
theorem k_X0_copyOf (l : Launch) (g : GG) (hg : gd wd_C g) (k0 : Nat) (k1 : Nat) (hk0 : hs wd_C g k0 0) (hA : allT g) (hk1 : hs wd_C g k1 0) (S : St)  (q : St) (hf : f_X0_copyOf k0 k1 S  = some q) : Met l yX0_copyOf (Cond.code yX0_copyOf cX0_copyOf 3 none :: gw_tbl) rm_X0_copyOf (va_Pc [.ref (gg_o g k0), .ref (gg_o g k1)] (wI wd_C g S)) (qc_v wd_C g q) 0 0 (aw g) := by
  refine mt_start (own := RX0) hg (by decide) rfl (Nat.le_of_ble_eq_true rfl) (fun p e s m args below meth c ls H locs cx hw hr hlk hl => ?_)
  have hx := cx.1
  have hb := cx.2.1
  have hown := cx.2.2.2.1
  have hts := cx.2.2.2.2.1
  have hl : lv_has ls 3 [(0, .ref (gg_o g k0)), (1, .ref (gg_o g k1))] := hl
  replace hf := h_top hf
  unfold f_X0_copyOf at hf
  refine lv_aload_n hx hb dX0_copyOf_0 rfl (lv_at hl 1 rfl) ?_
  refine gf_X0_41 cx hw hk1 dX0_copyOf_1 ?_
  refine lv_iconst (v := 1) hx hb dX0_copyOf_4 (by decide) ?_
  refine lv_iadd hx hb dX0_copyOf_5 ?_
  refine lv_istore_n hx hb dX0_copyOf_6 rfl hl (by decide) (lv' := [(2, .int ((st_I S (ky k1 1)) + (1 : Int32))), (0, .ref (gg_o g k0)), (1, .ref (gg_o g k1))]) rfl (fun ls hl => ?_)
  refine lv_aload_n hx hb dX0_copyOf_7 rfl (lv_at hl 1 rfl) ?_
  refine lv_aload_n hx hb dX0_copyOf_8 rfl (lv_at hl 2 rfl) ?_
  obtain ⟨hc1, hf⟩ := h_chk hf
  refine gf_X0_33 cx hw hk1 dX0_copyOf_9 ?_
  refine pf_X0_33 cx hw hk0 hf dX0_copyOf_12 (fun S2 H locs hw hf => ?_)
  refine lv_aload_n hx hb dX0_copyOf_15 rfl (lv_at hl 1 rfl) ?_
  refine lv_aload_n hx hb dX0_copyOf_16 rfl (lv_at hl 2 rfl) ?_
  refine gf_X0_41 cx hw hk1 dX0_copyOf_17 ?_
  refine pf_X0_41 cx hw hk0 hf dX0_copyOf_20 (fun S3 H locs hw hf => ?_)
  refine lv_aload_n hx hb dX0_copyOf_23 rfl (lv_at hl 2 rfl) ?_
  refine gf_X0_9 cx hw hk1 dX0_copyOf_24 ?_
  refine lv_iconst (v := 0) hx hb dX0_copyOf_27 (by decide) ?_
  refine lv_aload_n hx hb dX0_copyOf_28 rfl (lv_at hl 1 rfl) ?_
  refine gf_X0_9 cx hw hk0 dX0_copyOf_29 ?_
  refine lv_iconst (v := 0) hx hb dX0_copyOf_32 (by decide) ?_
  refine lv_iload_n hx hb dX0_copyOf_33 rfl (lv_at hl 0 rfl) ?_
  refine lv_bipush (v := 6) hx hb dX0_copyOf_34 (by decide) ?_
  refine lv_imul hx hb dX0_copyOf_36 ?_
  refine r_SN_v (As := [.ref (gg_a g (ky k1 2)), .int (0 : Int32), .ref (gg_a g (ky k0 2)), .int (0 : Int32), .int (((st_I S (ky k1 1)) + (1 : Int32)) * (6 : Int32))]) (rest := []) cx hw hf (nw_at cx) lk_X0_50 (fun q4 hq => k_X5_copy l g hg (ky k1 2) (ky k0 2) (hk1.2.2.1 2 rfl) (hk0.2.2.1 2 rfl) S3 (0 : Int32) (0 : Int32) (((st_I S (ky k1 1)) + (1 : Int32)) * (6 : Int32)) q4 hq) ⟨⟨rfl, rfl⟩, Nat.le_of_ble_eq_true rfl, Nat.le_of_ble_eq_true rfl⟩ rfl hl.1 rfl (Nat.le_of_ble_eq_true rfl) dX0_copyOf_37 ⟨Nat.zero_le _, Nat.zero_le _⟩ (fun q4 H locs hw hf => ?_)
  refine lv_aload_n hx hb dX0_copyOf_40 rfl (lv_at hl 2 rfl) ?_
  refine gf_X0_15 cx hw hk1 dX0_copyOf_41 ?_
  refine lv_iconst (v := 0) hx hb dX0_copyOf_44 (by decide) ?_
  refine lv_aload_n hx hb dX0_copyOf_45 rfl (lv_at hl 1 rfl) ?_
  refine gf_X0_15 cx hw hk0 dX0_copyOf_46 ?_
  refine lv_iconst (v := 0) hx hb dX0_copyOf_49 (by decide) ?_
  refine lv_iload_n hx hb dX0_copyOf_50 rfl (lv_at hl 0 rfl) ?_
  refine lv_bipush (v := 6) hx hb dX0_copyOf_51 (by decide) ?_
  refine lv_imul hx hb dX0_copyOf_53 ?_
  refine r_SN_v (As := [.ref (gg_a g (ky k1 3)), .int (0 : Int32), .ref (gg_a g (ky k0 3)), .int (0 : Int32), .int (((st_I S (ky k1 1)) + (1 : Int32)) * (6 : Int32))]) (rest := []) cx hw hf (nw_at cx) lk_X0_50 (fun q5 hq => k_X5_copy l g hg (ky k1 3) (ky k0 3) (hk1.2.2.1 3 rfl) (hk0.2.2.1 3 rfl) q4 (0 : Int32) (0 : Int32) (((st_I S (ky k1 1)) + (1 : Int32)) * (6 : Int32)) q5 hq) ⟨⟨rfl, rfl⟩, Nat.le_of_ble_eq_true rfl, Nat.le_of_ble_eq_true rfl⟩ rfl hl.1 rfl (Nat.le_of_ble_eq_true rfl) dX0_copyOf_54 ⟨Nat.zero_le _, Nat.zero_le _⟩ (fun q5 H locs hw hf => ?_)
  refine lv_aload_n hx hb dX0_copyOf_57 rfl (lv_at hl 2 rfl) ?_
  refine gf_X0_18 cx hw hk1 dX0_copyOf_58 ?_
  refine lv_iconst (v := 0) hx hb dX0_copyOf_61 (by decide) ?_
  refine lv_aload_n hx hb dX0_copyOf_62 rfl (lv_at hl 1 rfl) ?_
  refine gf_X0_18 cx hw hk0 dX0_copyOf_63 ?_
  refine lv_iconst (v := 0) hx hb dX0_copyOf_66 (by decide) ?_
  refine lv_iload_n hx hb dX0_copyOf_67 rfl (lv_at hl 0 rfl) ?_
  refine lv_bipush (v := 8) hx hb dX0_copyOf_68 (by decide) ?_
  refine lv_imul hx hb dX0_copyOf_70 ?_
  refine r_SN_v (As := [.ref (gg_a g (ky k1 4)), .int (0 : Int32), .ref (gg_a g (ky k0 4)), .int (0 : Int32), .int (((st_I S (ky k1 1)) + (1 : Int32)) * (8 : Int32))]) (rest := []) cx hw hf (nw_at cx) lk_X0_50 (fun q6 hq => k_X5_copy l g hg (ky k1 4) (ky k0 4) (hk1.2.2.1 4 rfl) (hk0.2.2.1 4 rfl) q5 (0 : Int32) (0 : Int32) (((st_I S (ky k1 1)) + (1 : Int32)) * (8 : Int32)) q6 hq) ⟨⟨rfl, rfl⟩, Nat.le_of_ble_eq_true rfl, Nat.le_of_ble_eq_true rfl⟩ rfl hl.1 rfl (Nat.le_of_ble_eq_true rfl) dX0_copyOf_71 ⟨Nat.zero_le _, Nat.zero_le _⟩ (fun q6 H locs hw hf => ?_)
  refine lv_aload_n hx hb dX0_copyOf_74 rfl (lv_at hl 2 rfl) ?_
  refine gf_X0_21 cx hw hk1 dX0_copyOf_75 ?_
  refine lv_iconst (v := 0) hx hb dX0_copyOf_78 (by decide) ?_
  refine lv_aload_n hx hb dX0_copyOf_79 rfl (lv_at hl 1 rfl) ?_
  refine gf_X0_21 cx hw hk0 dX0_copyOf_80 ?_
  refine lv_iconst (v := 0) hx hb dX0_copyOf_83 (by decide) ?_
  refine lv_iload_n hx hb dX0_copyOf_84 rfl (lv_at hl 0 rfl) ?_
  refine lv_bipush (v := 8) hx hb dX0_copyOf_85 (by decide) ?_
  refine lv_imul hx hb dX0_copyOf_87 ?_
  refine r_SN_v (As := [.ref (gg_a g (ky k1 5)), .int (0 : Int32), .ref (gg_a g (ky k0 5)), .int (0 : Int32), .int (((st_I S (ky k1 1)) + (1 : Int32)) * (8 : Int32))]) (rest := []) cx hw hf (nw_at cx) lk_X0_50 (fun q7 hq => k_X5_copy l g hg (ky k1 5) (ky k0 5) (hk1.2.2.1 5 rfl) (hk0.2.2.1 5 rfl) q6 (0 : Int32) (0 : Int32) (((st_I S (ky k1 1)) + (1 : Int32)) * (8 : Int32)) q7 hq) ⟨⟨rfl, rfl⟩, Nat.le_of_ble_eq_true rfl, Nat.le_of_ble_eq_true rfl⟩ rfl hl.1 rfl (Nat.le_of_ble_eq_true rfl) dX0_copyOf_88 ⟨Nat.zero_le _, Nat.zero_le _⟩ (fun q7 H locs hw hf => ?_)
  refine lv_aload_n hx hb dX0_copyOf_91 rfl (lv_at hl 2 rfl) ?_
  refine gf_X0_24 cx hw hk1 dX0_copyOf_92 ?_
  refine lv_iconst (v := 0) hx hb dX0_copyOf_95 (by decide) ?_
  refine lv_aload_n hx hb dX0_copyOf_96 rfl (lv_at hl 1 rfl) ?_
  refine gf_X0_24 cx hw hk0 dX0_copyOf_97 ?_
  refine lv_iconst (v := 0) hx hb dX0_copyOf_100 (by decide) ?_
  refine lv_iload_n hx hb dX0_copyOf_101 rfl (lv_at hl 0 rfl) ?_
  refine r_SN_v (As := [.ref (gg_a g (ky k1 6)), .int (0 : Int32), .ref (gg_a g (ky k0 6)), .int (0 : Int32), .int ((st_I S (ky k1 1)) + (1 : Int32))]) (rest := []) cx hw hf (nw_at cx) lk_X0_50 (fun q8 hq => k_X5_copy l g hg (ky k1 6) (ky k0 6) (hk1.2.2.1 6 rfl) (hk0.2.2.1 6 rfl) q7 (0 : Int32) (0 : Int32) ((st_I S (ky k1 1)) + (1 : Int32)) q8 hq) ⟨⟨rfl, rfl⟩, Nat.le_of_ble_eq_true rfl, Nat.le_of_ble_eq_true rfl⟩ rfl hl.1 rfl (Nat.le_of_ble_eq_true rfl) dX0_copyOf_102 ⟨Nat.zero_le _, Nat.zero_le _⟩ (fun q8 H locs hw hf => ?_)
  refine lv_aload_n hx hb dX0_copyOf_105 rfl (lv_at hl 2 rfl) ?_
  refine gf_X0_27 cx hw hk1 dX0_copyOf_106 ?_
  refine lv_iconst (v := 0) hx hb dX0_copyOf_109 (by decide) ?_
  refine lv_aload_n hx hb dX0_copyOf_110 rfl (lv_at hl 1 rfl) ?_
  refine gf_X0_27 cx hw hk0 dX0_copyOf_111 ?_
  refine lv_iconst (v := 0) hx hb dX0_copyOf_114 (by decide) ?_
  refine lv_bipush (v := 8) hx hb dX0_copyOf_115 (by decide) ?_
  refine r_SN_v (As := [.ref (gg_a g (ky k1 7)), .int (0 : Int32), .ref (gg_a g (ky k0 7)), .int (0 : Int32), .int (8 : Int32)]) (rest := []) cx hw hf (nw_at cx) lk_X0_50 (fun q9 hq => k_X5_copy l g hg (ky k1 7) (ky k0 7) (hk1.2.2.1 7 rfl) (hk0.2.2.1 7 rfl) q8 (0 : Int32) (0 : Int32) (8 : Int32) q9 hq) ⟨⟨rfl, rfl⟩, Nat.le_of_ble_eq_true rfl, Nat.le_of_ble_eq_true rfl⟩ rfl hl.1 rfl (Nat.le_of_ble_eq_true rfl) dX0_copyOf_117 ⟨Nat.zero_le _, Nat.zero_le _⟩ (fun q9 H locs hw hf => ?_)
  refine lv_aload_n hx hb dX0_copyOf_120 rfl (lv_at hl 2 rfl) ?_
  refine gf_X0_30 cx hw hk1 dX0_copyOf_121 ?_
  refine lv_iconst (v := 0) hx hb dX0_copyOf_124 (by decide) ?_
  refine lv_aload_n hx hb dX0_copyOf_125 rfl (lv_at hl 1 rfl) ?_
  refine gf_X0_30 cx hw hk0 dX0_copyOf_126 ?_
  refine lv_iconst (v := 0) hx hb dX0_copyOf_129 (by decide) ?_
  refine lv_bipush (v := 8) hx hb dX0_copyOf_130 (by decide) ?_
  refine r_SN_v (As := [.ref (gg_a g (ky k1 8)), .int (0 : Int32), .ref (gg_a g (ky k0 8)), .int (0 : Int32), .int (8 : Int32)]) (rest := []) cx hw hf (nw_at cx) lk_X0_50 (fun q10 hq => k_X5_copy l g hg (ky k1 8) (ky k0 8) (hk1.2.2.1 8 rfl) (hk0.2.2.1 8 rfl) q9 (0 : Int32) (0 : Int32) (8 : Int32) q10 hq) ⟨⟨rfl, rfl⟩, Nat.le_of_ble_eq_true rfl, Nat.le_of_ble_eq_true rfl⟩ rfl hl.1 rfl (Nat.le_of_ble_eq_true rfl) dX0_copyOf_132 ⟨Nat.zero_le _, Nat.zero_le _⟩ (fun q10 H locs hw hf => ?_)
  exact r_vret cx hw hr hlk hf dX0_copyOf_135
theorem dX0_keepIn_0 : decode cX0_keepIn 0 = .ok (.aload_n 1, 1) := by decide +kernel
theorem dX0_keepIn_1 : decode cX0_keepIn 1 = .ok (.iload_n 2, 1) := by decide +kernel
theorem dX0_keepIn_2 : decode cX0_keepIn 2 = .ok (.aload_n 0, 1) := by decide +kernel
theorem dX0_keepIn_3 : decode cX0_keepIn 3 = .ok (.getfield 41, 3) := by decide +kernel
theorem dX0_keepIn_6 : decode cX0_keepIn 6 = .ok (.invokestatic 60, 3) := by decide +kernel
theorem dX0_keepIn_9 : decode cX0_keepIn 9 = .ok (.aload_n 1, 1) := by decide +kernel
theorem dX0_keepIn_10 : decode cX0_keepIn 10 = .ok (.iload_n 2, 1) := by decide +kernel
theorem dX0_keepIn_11 : decode cX0_keepIn 11 = .ok (.iconst 1, 1) := by decide +kernel
theorem dX0_keepIn_12 : decode cX0_keepIn 12 = .ok (.iadd, 1) := by decide +kernel
theorem dX0_keepIn_13 : decode cX0_keepIn 13 = .ok (.aload_n 0, 1) := by decide +kernel
theorem dX0_keepIn_14 : decode cX0_keepIn 14 = .ok (.getfield 24, 3) := by decide +kernel
theorem dX0_keepIn_17 : decode cX0_keepIn 17 = .ok (.aload_n 0, 1) := by decide +kernel
theorem dX0_keepIn_18 : decode cX0_keepIn 18 = .ok (.getfield 41, 3) := by decide +kernel
theorem dX0_keepIn_21 : decode cX0_keepIn 21 = .ok (.invokestatic 68, 3) := by decide +kernel
theorem dX0_keepIn_24 : decode cX0_keepIn 24 = .ok (.invokestatic 60, 3) := by decide +kernel
theorem dX0_keepIn_27 : decode cX0_keepIn 27 = .ok (.iload_n 2, 1) := by decide +kernel
theorem dX0_keepIn_28 : decode cX0_keepIn 28 = .ok (.iconst 2, 1) := by decide +kernel
theorem dX0_keepIn_29 : decode cX0_keepIn 29 = .ok (.iadd, 1) := by decide +kernel
theorem dX0_keepIn_30 : decode cX0_keepIn 30 = .ok (.istore_n 3, 1) := by decide +kernel
theorem dX0_keepIn_31 : decode cX0_keepIn 31 = .ok (.aload_n 0, 1) := by decide +kernel
theorem dX0_keepIn_32 : decode cX0_keepIn 32 = .ok (.getfield 9, 3) := by decide +kernel
theorem dX0_keepIn_35 : decode cX0_keepIn 35 = .ok (.aload_n 0, 1) := by decide +kernel
theorem dX0_keepIn_36 : decode cX0_keepIn 36 = .ok (.getfield 41, 3) := by decide +kernel
theorem dX0_keepIn_39 : decode cX0_keepIn 39 = .ok (.bipush 6, 2) := by decide +kernel
theorem dX0_keepIn_41 : decode cX0_keepIn 41 = .ok (.imul, 1) := by decide +kernel
theorem dX0_keepIn_42 : decode cX0_keepIn 42 = .ok (.aload_n 1, 1) := by decide +kernel
theorem dX0_keepIn_43 : decode cX0_keepIn 43 = .ok (.iload_n 3, 1) := by decide +kernel
theorem dX0_keepIn_44 : decode cX0_keepIn 44 = .ok (.bipush 6, 2) := by decide +kernel
theorem dX0_keepIn_46 : decode cX0_keepIn 46 = .ok (.invokestatic 50, 3) := by decide +kernel
theorem dX0_keepIn_49 : decode cX0_keepIn 49 = .ok (.aload_n 0, 1) := by decide +kernel
theorem dX0_keepIn_50 : decode cX0_keepIn 50 = .ok (.getfield 15, 3) := by decide +kernel
theorem dX0_keepIn_53 : decode cX0_keepIn 53 = .ok (.aload_n 0, 1) := by decide +kernel
theorem dX0_keepIn_54 : decode cX0_keepIn 54 = .ok (.getfield 41, 3) := by decide +kernel
theorem dX0_keepIn_57 : decode cX0_keepIn 57 = .ok (.bipush 6, 2) := by decide +kernel
theorem dX0_keepIn_59 : decode cX0_keepIn 59 = .ok (.imul, 1) := by decide +kernel
theorem dX0_keepIn_60 : decode cX0_keepIn 60 = .ok (.aload_n 1, 1) := by decide +kernel
theorem dX0_keepIn_61 : decode cX0_keepIn 61 = .ok (.iload_n 3, 1) := by decide +kernel
theorem dX0_keepIn_62 : decode cX0_keepIn 62 = .ok (.bipush 6, 2) := by decide +kernel
theorem dX0_keepIn_64 : decode cX0_keepIn 64 = .ok (.iadd, 1) := by decide +kernel
theorem dX0_keepIn_65 : decode cX0_keepIn 65 = .ok (.bipush 6, 2) := by decide +kernel
theorem dX0_keepIn_67 : decode cX0_keepIn 67 = .ok (.invokestatic 50, 3) := by decide +kernel
theorem dX0_keepIn_70 : decode cX0_keepIn 70 = .ok (.iinc 3 12, 3) := by decide +kernel
theorem dX0_keepIn_73 : decode cX0_keepIn 73 = .ok (.aload_n 0, 1) := by decide +kernel
theorem dX0_keepIn_74 : decode cX0_keepIn 74 = .ok (.getfield 18, 3) := by decide +kernel
theorem dX0_keepIn_77 : decode cX0_keepIn 77 = .ok (.aload_n 0, 1) := by decide +kernel
theorem dX0_keepIn_78 : decode cX0_keepIn 78 = .ok (.getfield 41, 3) := by decide +kernel
theorem dX0_keepIn_81 : decode cX0_keepIn 81 = .ok (.bipush 8, 2) := by decide +kernel
theorem dX0_keepIn_83 : decode cX0_keepIn 83 = .ok (.imul, 1) := by decide +kernel
theorem dX0_keepIn_84 : decode cX0_keepIn 84 = .ok (.aload_n 1, 1) := by decide +kernel
theorem dX0_keepIn_85 : decode cX0_keepIn 85 = .ok (.iload_n 3, 1) := by decide +kernel
theorem dX0_keepIn_86 : decode cX0_keepIn 86 = .ok (.bipush 8, 2) := by decide +kernel
theorem dX0_keepIn_88 : decode cX0_keepIn 88 = .ok (.invokestatic 50, 3) := by decide +kernel
theorem dX0_keepIn_91 : decode cX0_keepIn 91 = .ok (.aload_n 0, 1) := by decide +kernel
theorem dX0_keepIn_92 : decode cX0_keepIn 92 = .ok (.getfield 27, 3) := by decide +kernel
theorem dX0_keepIn_95 : decode cX0_keepIn 95 = .ok (.iconst 0, 1) := by decide +kernel
theorem dX0_keepIn_96 : decode cX0_keepIn 96 = .ok (.aload_n 1, 1) := by decide +kernel
theorem dX0_keepIn_97 : decode cX0_keepIn 97 = .ok (.iload_n 3, 1) := by decide +kernel
theorem dX0_keepIn_98 : decode cX0_keepIn 98 = .ok (.bipush 8, 2) := by decide +kernel
theorem dX0_keepIn_100 : decode cX0_keepIn 100 = .ok (.iadd, 1) := by decide +kernel
theorem dX0_keepIn_101 : decode cX0_keepIn 101 = .ok (.bipush 8, 2) := by decide +kernel
theorem dX0_keepIn_103 : decode cX0_keepIn 103 = .ok (.invokestatic 50, 3) := by decide +kernel
theorem dX0_keepIn_106 : decode cX0_keepIn 106 = .ok (.return_, 1) := by decide +kernel
abbrev rm_X0_keepIn : Room := { frames := 2, cells := 0, slots := 0, locals := 144 }
def f_X0_keepIn (k0 : Nat) (k1 : Nat) (S : St) (x2 : Int32) : Option (St) :=
  (f_X5_put k1 S x2 (st_I S (ky k0 1))).bind (fun (q1 : St) => (f_X5_at (ky k0 6) q1 (st_I q1 (ky k0 1))).bind (fun (q2 : Int32) => (f_X5_put k1 q1 (x2 + (1 : Int32)) q2).bind (fun (q3 : St) => (f_X5_copy (ky k0 2) k1 q3 ((st_I q3 (ky k0 1)) * (6 : Int32)) (x2 + (2 : Int32)) (6 : Int32)).bind (fun (q4 : St) => (f_X5_copy (ky k0 3) k1 q4 ((st_I q4 (ky k0 1)) * (6 : Int32)) ((x2 + (2 : Int32)) + (6 : Int32)) (6 : Int32)).bind (fun (q5 : St) => (f_X5_copy (ky k0 4) k1 q5 ((st_I q5 (ky k0 1)) * (8 : Int32)) ((x2 + (2 : Int32)) + 12) (8 : Int32)).bind (fun (q6 : St) => (f_X5_copy (ky k0 7) k1 q6 (0 : Int32) (((x2 + (2 : Int32)) + 12) + (8 : Int32)) (8 : Int32)).bind (fun (q7 : St) => some q7)))))))
set_option maxRecDepth 100000 in
set_option maxHeartbeats 4000000 in
theorem k_X0_keepIn (l : Launch) (g : GG) (hg : gd wd_C g) (k0 : Nat) (k1 : Nat) (hk0 : hs wd_C g k0 0) (hA : allT g) (hk1 : k1 ∈ gg_as g) (S : St) (x2 : Int32) (q : St) (hf : f_X0_keepIn k0 k1 S x2 = some q) : Met l yX0_keepIn (Cond.code yX0_keepIn cX0_keepIn 4 none :: gw_tbl) rm_X0_keepIn (va_Pc [.ref (gg_o g k0), .ref (gg_a g k1), .int x2] (wI wd_C g S)) (qc_v wd_C g q) 0 0 (aw g) := by
  refine mt_start (own := RX0) hg (by decide) rfl (Nat.le_of_ble_eq_true rfl) (fun p e s m args below meth c ls H locs cx hw hr hlk hl => ?_)
  have hx := cx.1
  have hb := cx.2.1
  have hown := cx.2.2.2.1
  have hts := cx.2.2.2.2.1
  have hl : lv_has ls 4 [(0, .ref (gg_o g k0)), (1, .ref (gg_a g k1)), (2, .int x2)] := hl
  replace hf := h_top hf
  unfold f_X0_keepIn at hf
  refine lv_aload_n hx hb dX0_keepIn_0 rfl (lv_at hl 1 rfl) ?_
  refine lv_iload_n hx hb dX0_keepIn_1 rfl (lv_at hl 2 rfl) ?_
  refine lv_aload_n hx hb dX0_keepIn_2 rfl (lv_at hl 0 rfl) ?_
  refine gf_X0_41 cx hw hk0 dX0_keepIn_3 ?_
  refine r_SN_v (As := [.ref (gg_a g k1), .int x2, .int (st_I S (ky k0 1))]) (rest := []) cx hw hf (nw_at cx) lk_X0_60 (fun q1 hq => k_X5_put l g hg k1 hk1 S x2 (st_I S (ky k0 1)) q1 hq) ⟨⟨rfl, rfl⟩, Nat.le_of_ble_eq_true rfl, Nat.le_of_ble_eq_true rfl⟩ rfl hl.1 rfl (Nat.le_of_ble_eq_true rfl) dX0_keepIn_6 ⟨Nat.zero_le _, Nat.zero_le _⟩ (fun q1 H locs hw hf => ?_)
  refine lv_aload_n hx hb dX0_keepIn_9 rfl (lv_at hl 1 rfl) ?_
  refine lv_iload_n hx hb dX0_keepIn_10 rfl (lv_at hl 2 rfl) ?_
  refine lv_iconst (v := 1) hx hb dX0_keepIn_11 (by decide) ?_
  refine lv_iadd hx hb dX0_keepIn_12 ?_
  refine lv_aload_n hx hb dX0_keepIn_13 rfl (lv_at hl 0 rfl) ?_
  refine gf_X0_24 cx hw hk0 dX0_keepIn_14 ?_
  refine lv_aload_n hx hb dX0_keepIn_17 rfl (lv_at hl 0 rfl) ?_
  refine gf_X0_41 cx hw hk0 dX0_keepIn_18 ?_
  refine r_SN_i (As := [.ref (gg_a g (ky k0 6)), .int (st_I q1 (ky k0 1))]) (rest := [.int (x2 + (1 : Int32)), .ref (gg_a g k1)]) cx hw hf (nw_at cx) lk_X0_68 (fun q2 hq => k_X5_at l g hg (ky k0 6) (hk0.2.2.1 6 rfl) q1 (st_I q1 (ky k0 1)) q2 hq) ⟨⟨rfl, rfl⟩, Nat.le_of_ble_eq_true rfl, Nat.le_of_ble_eq_true rfl⟩ rfl hl.1 rfl (Nat.le_of_ble_eq_true rfl) dX0_keepIn_21 ⟨Nat.zero_le _, Nat.zero_le _⟩ (fun q2 H locs hw hf => ?_)
  refine r_SN_v (As := [.ref (gg_a g k1), .int (x2 + (1 : Int32)), .int q2]) (rest := []) cx hw hf (nw_at cx) lk_X0_60 (fun q3 hq => k_X5_put l g hg k1 hk1 q1 (x2 + (1 : Int32)) q2 q3 hq) ⟨⟨rfl, rfl⟩, Nat.le_of_ble_eq_true rfl, Nat.le_of_ble_eq_true rfl⟩ rfl hl.1 rfl (Nat.le_of_ble_eq_true rfl) dX0_keepIn_24 ⟨Nat.zero_le _, Nat.zero_le _⟩ (fun q3 H locs hw hf => ?_)
  refine lv_iload_n hx hb dX0_keepIn_27 rfl (lv_at hl 2 rfl) ?_
  refine lv_iconst (v := 2) hx hb dX0_keepIn_28 (by decide) ?_
  refine lv_iadd hx hb dX0_keepIn_29 ?_
  refine lv_istore_n hx hb dX0_keepIn_30 rfl hl (by decide) (lv' := [(3, .int (x2 + (2 : Int32))), (0, .ref (gg_o g k0)), (1, .ref (gg_a g k1)), (2, .int x2)]) rfl (fun ls hl => ?_)
  refine lv_aload_n hx hb dX0_keepIn_31 rfl (lv_at hl 1 rfl) ?_
  refine gf_X0_9 cx hw hk0 dX0_keepIn_32 ?_
  refine lv_aload_n hx hb dX0_keepIn_35 rfl (lv_at hl 1 rfl) ?_
  refine gf_X0_41 cx hw hk0 dX0_keepIn_36 ?_
  refine lv_bipush (v := 6) hx hb dX0_keepIn_39 (by decide) ?_
  refine lv_imul hx hb dX0_keepIn_41 ?_
  refine lv_aload_n hx hb dX0_keepIn_42 rfl (lv_at hl 2 rfl) ?_
  refine lv_iload_n hx hb dX0_keepIn_43 rfl (lv_at hl 0 rfl) ?_
  refine lv_bipush (v := 6) hx hb dX0_keepIn_44 (by decide) ?_
  refine r_SN_v (As := [.ref (gg_a g (ky k0 2)), .int ((st_I q3 (ky k0 1)) * (6 : Int32)), .ref (gg_a g k1), .int (x2 + (2 : Int32)), .int (6 : Int32)]) (rest := []) cx hw hf (nw_at cx) lk_X0_50 (fun q4 hq => k_X5_copy l g hg (ky k0 2) k1 (hk0.2.2.1 2 rfl) hk1 q3 ((st_I q3 (ky k0 1)) * (6 : Int32)) (x2 + (2 : Int32)) (6 : Int32) q4 hq) ⟨⟨rfl, rfl⟩, Nat.le_of_ble_eq_true rfl, Nat.le_of_ble_eq_true rfl⟩ rfl hl.1 rfl (Nat.le_of_ble_eq_true rfl) dX0_keepIn_46 ⟨Nat.zero_le _, Nat.zero_le _⟩ (fun q4 H locs hw hf => ?_)
  refine lv_aload_n hx hb dX0_keepIn_49 rfl (lv_at hl 1 rfl) ?_
  refine gf_X0_15 cx hw hk0 dX0_keepIn_50 ?_
  refine lv_aload_n hx hb dX0_keepIn_53 rfl (lv_at hl 1 rfl) ?_
  refine gf_X0_41 cx hw hk0 dX0_keepIn_54 ?_
  refine lv_bipush (v := 6) hx hb dX0_keepIn_57 (by decide) ?_
  refine lv_imul hx hb dX0_keepIn_59 ?_
  refine lv_aload_n hx hb dX0_keepIn_60 rfl (lv_at hl 2 rfl) ?_
  refine lv_iload_n hx hb dX0_keepIn_61 rfl (lv_at hl 0 rfl) ?_
  refine lv_bipush (v := 6) hx hb dX0_keepIn_62 (by decide) ?_
  refine lv_iadd hx hb dX0_keepIn_64 ?_
  refine lv_bipush (v := 6) hx hb dX0_keepIn_65 (by decide) ?_
  refine r_SN_v (As := [.ref (gg_a g (ky k0 3)), .int ((st_I q4 (ky k0 1)) * (6 : Int32)), .ref (gg_a g k1), .int ((x2 + (2 : Int32)) + (6 : Int32)), .int (6 : Int32)]) (rest := []) cx hw hf (nw_at cx) lk_X0_50 (fun q5 hq => k_X5_copy l g hg (ky k0 3) k1 (hk0.2.2.1 3 rfl) hk1 q4 ((st_I q4 (ky k0 1)) * (6 : Int32)) ((x2 + (2 : Int32)) + (6 : Int32)) (6 : Int32) q5 hq) ⟨⟨rfl, rfl⟩, Nat.le_of_ble_eq_true rfl, Nat.le_of_ble_eq_true rfl⟩ rfl hl.1 rfl (Nat.le_of_ble_eq_true rfl) dX0_keepIn_67 ⟨Nat.zero_le _, Nat.zero_le _⟩ (fun q5 H locs hw hf => ?_)
  refine lv_iinc hx hb dX0_keepIn_70 hl (k := 0) rfl (congrArg (HAdd.hAdd _) (show Int32.ofInt (12) = 12 by decide)) (by decide) (lv' := [(3, .int ((x2 + (2 : Int32)) + 12)), (0, .ref (gg_o g k0)), (1, .ref (gg_a g k1)), (2, .int x2)]) rfl (fun ls hl => ?_)
  refine lv_aload_n hx hb dX0_keepIn_73 rfl (lv_at hl 1 rfl) ?_
  refine gf_X0_18 cx hw hk0 dX0_keepIn_74 ?_
  refine lv_aload_n hx hb dX0_keepIn_77 rfl (lv_at hl 1 rfl) ?_
  refine gf_X0_41 cx hw hk0 dX0_keepIn_78 ?_
  refine lv_bipush (v := 8) hx hb dX0_keepIn_81 (by decide) ?_
  refine lv_imul hx hb dX0_keepIn_83 ?_
  refine lv_aload_n hx hb dX0_keepIn_84 rfl (lv_at hl 2 rfl) ?_
  refine lv_iload_n hx hb dX0_keepIn_85 rfl (lv_at hl 0 rfl) ?_
  refine lv_bipush (v := 8) hx hb dX0_keepIn_86 (by decide) ?_
  refine r_SN_v (As := [.ref (gg_a g (ky k0 4)), .int ((st_I q5 (ky k0 1)) * (8 : Int32)), .ref (gg_a g k1), .int ((x2 + (2 : Int32)) + 12), .int (8 : Int32)]) (rest := []) cx hw hf (nw_at cx) lk_X0_50 (fun q6 hq => k_X5_copy l g hg (ky k0 4) k1 (hk0.2.2.1 4 rfl) hk1 q5 ((st_I q5 (ky k0 1)) * (8 : Int32)) ((x2 + (2 : Int32)) + 12) (8 : Int32) q6 hq) ⟨⟨rfl, rfl⟩, Nat.le_of_ble_eq_true rfl, Nat.le_of_ble_eq_true rfl⟩ rfl hl.1 rfl (Nat.le_of_ble_eq_true rfl) dX0_keepIn_88 ⟨Nat.zero_le _, Nat.zero_le _⟩ (fun q6 H locs hw hf => ?_)
  refine lv_aload_n hx hb dX0_keepIn_91 rfl (lv_at hl 1 rfl) ?_
  refine gf_X0_27 cx hw hk0 dX0_keepIn_92 ?_
  refine lv_iconst (v := 0) hx hb dX0_keepIn_95 (by decide) ?_
  refine lv_aload_n hx hb dX0_keepIn_96 rfl (lv_at hl 2 rfl) ?_
  refine lv_iload_n hx hb dX0_keepIn_97 rfl (lv_at hl 0 rfl) ?_
  refine lv_bipush (v := 8) hx hb dX0_keepIn_98 (by decide) ?_
  refine lv_iadd hx hb dX0_keepIn_100 ?_
  refine lv_bipush (v := 8) hx hb dX0_keepIn_101 (by decide) ?_
  refine r_SN_v (As := [.ref (gg_a g (ky k0 7)), .int (0 : Int32), .ref (gg_a g k1), .int (((x2 + (2 : Int32)) + 12) + (8 : Int32)), .int (8 : Int32)]) (rest := []) cx hw hf (nw_at cx) lk_X0_50 (fun q7 hq => k_X5_copy l g hg (ky k0 7) k1 (hk0.2.2.1 7 rfl) hk1 q6 (0 : Int32) (((x2 + (2 : Int32)) + 12) + (8 : Int32)) (8 : Int32) q7 hq) ⟨⟨rfl, rfl⟩, Nat.le_of_ble_eq_true rfl, Nat.le_of_ble_eq_true rfl⟩ rfl hl.1 rfl (Nat.le_of_ble_eq_true rfl) dX0_keepIn_103 ⟨Nat.zero_le _, Nat.zero_le _⟩ (fun q7 H locs hw hf => ?_)
  exact r_vret cx hw hr hlk hf dX0_keepIn_106
theorem dX0_goBackTo_0 : decode cX0_goBackTo 0 = .ok (.aload_n 0, 1) := by decide +kernel
theorem dX0_goBackTo_1 : decode cX0_goBackTo 1 = .ok (.aload_n 1, 1) := by decide +kernel
theorem dX0_goBackTo_2 : decode cX0_goBackTo 2 = .ok (.iload_n 2, 1) := by decide +kernel
theorem dX0_goBackTo_3 : decode cX0_goBackTo 3 = .ok (.invokestatic 68, 3) := by decide +kernel
theorem dX0_goBackTo_6 : decode cX0_goBackTo 6 = .ok (.putfield 41, 3) := by decide +kernel
theorem dX0_goBackTo_9 : decode cX0_goBackTo 9 = .ok (.aload_n 0, 1) := by decide +kernel
theorem dX0_goBackTo_10 : decode cX0_goBackTo 10 = .ok (.getfield 24, 3) := by decide +kernel
theorem dX0_goBackTo_13 : decode cX0_goBackTo 13 = .ok (.aload_n 0, 1) := by decide +kernel
theorem dX0_goBackTo_14 : decode cX0_goBackTo 14 = .ok (.getfield 41, 3) := by decide +kernel
theorem dX0_goBackTo_17 : decode cX0_goBackTo 17 = .ok (.aload_n 1, 1) := by decide +kernel
theorem dX0_goBackTo_18 : decode cX0_goBackTo 18 = .ok (.iload_n 2, 1) := by decide +kernel
theorem dX0_goBackTo_19 : decode cX0_goBackTo 19 = .ok (.iconst 1, 1) := by decide +kernel
theorem dX0_goBackTo_20 : decode cX0_goBackTo 20 = .ok (.iadd, 1) := by decide +kernel
theorem dX0_goBackTo_21 : decode cX0_goBackTo 21 = .ok (.invokestatic 68, 3) := by decide +kernel
theorem dX0_goBackTo_24 : decode cX0_goBackTo 24 = .ok (.invokestatic 60, 3) := by decide +kernel
theorem dX0_goBackTo_27 : decode cX0_goBackTo 27 = .ok (.iload_n 2, 1) := by decide +kernel
theorem dX0_goBackTo_28 : decode cX0_goBackTo 28 = .ok (.iconst 2, 1) := by decide +kernel
theorem dX0_goBackTo_29 : decode cX0_goBackTo 29 = .ok (.iadd, 1) := by decide +kernel
theorem dX0_goBackTo_30 : decode cX0_goBackTo 30 = .ok (.istore_n 3, 1) := by decide +kernel
theorem dX0_goBackTo_31 : decode cX0_goBackTo 31 = .ok (.aload_n 1, 1) := by decide +kernel
theorem dX0_goBackTo_32 : decode cX0_goBackTo 32 = .ok (.iload_n 3, 1) := by decide +kernel
theorem dX0_goBackTo_33 : decode cX0_goBackTo 33 = .ok (.aload_n 0, 1) := by decide +kernel
theorem dX0_goBackTo_34 : decode cX0_goBackTo 34 = .ok (.getfield 9, 3) := by decide +kernel
theorem dX0_goBackTo_37 : decode cX0_goBackTo 37 = .ok (.aload_n 0, 1) := by decide +kernel
theorem dX0_goBackTo_38 : decode cX0_goBackTo 38 = .ok (.getfield 41, 3) := by decide +kernel
theorem dX0_goBackTo_41 : decode cX0_goBackTo 41 = .ok (.bipush 6, 2) := by decide +kernel
theorem dX0_goBackTo_43 : decode cX0_goBackTo 43 = .ok (.imul, 1) := by decide +kernel
theorem dX0_goBackTo_44 : decode cX0_goBackTo 44 = .ok (.bipush 6, 2) := by decide +kernel
theorem dX0_goBackTo_46 : decode cX0_goBackTo 46 = .ok (.invokestatic 50, 3) := by decide +kernel
theorem dX0_goBackTo_49 : decode cX0_goBackTo 49 = .ok (.aload_n 1, 1) := by decide +kernel
theorem dX0_goBackTo_50 : decode cX0_goBackTo 50 = .ok (.iload_n 3, 1) := by decide +kernel
theorem dX0_goBackTo_51 : decode cX0_goBackTo 51 = .ok (.bipush 6, 2) := by decide +kernel
theorem dX0_goBackTo_53 : decode cX0_goBackTo 53 = .ok (.iadd, 1) := by decide +kernel
theorem dX0_goBackTo_54 : decode cX0_goBackTo 54 = .ok (.aload_n 0, 1) := by decide +kernel
theorem dX0_goBackTo_55 : decode cX0_goBackTo 55 = .ok (.getfield 15, 3) := by decide +kernel
theorem dX0_goBackTo_58 : decode cX0_goBackTo 58 = .ok (.aload_n 0, 1) := by decide +kernel
theorem dX0_goBackTo_59 : decode cX0_goBackTo 59 = .ok (.getfield 41, 3) := by decide +kernel
theorem dX0_goBackTo_62 : decode cX0_goBackTo 62 = .ok (.bipush 6, 2) := by decide +kernel
theorem dX0_goBackTo_64 : decode cX0_goBackTo 64 = .ok (.imul, 1) := by decide +kernel
theorem dX0_goBackTo_65 : decode cX0_goBackTo 65 = .ok (.bipush 6, 2) := by decide +kernel
theorem dX0_goBackTo_67 : decode cX0_goBackTo 67 = .ok (.invokestatic 50, 3) := by decide +kernel
theorem dX0_goBackTo_70 : decode cX0_goBackTo 70 = .ok (.iinc 3 12, 3) := by decide +kernel
theorem dX0_goBackTo_73 : decode cX0_goBackTo 73 = .ok (.aload_n 1, 1) := by decide +kernel
theorem dX0_goBackTo_74 : decode cX0_goBackTo 74 = .ok (.iload_n 3, 1) := by decide +kernel
theorem dX0_goBackTo_75 : decode cX0_goBackTo 75 = .ok (.aload_n 0, 1) := by decide +kernel
theorem dX0_goBackTo_76 : decode cX0_goBackTo 76 = .ok (.getfield 18, 3) := by decide +kernel
theorem dX0_goBackTo_79 : decode cX0_goBackTo 79 = .ok (.aload_n 0, 1) := by decide +kernel
theorem dX0_goBackTo_80 : decode cX0_goBackTo 80 = .ok (.getfield 41, 3) := by decide +kernel
theorem dX0_goBackTo_83 : decode cX0_goBackTo 83 = .ok (.bipush 8, 2) := by decide +kernel
theorem dX0_goBackTo_85 : decode cX0_goBackTo 85 = .ok (.imul, 1) := by decide +kernel
theorem dX0_goBackTo_86 : decode cX0_goBackTo 86 = .ok (.bipush 8, 2) := by decide +kernel
theorem dX0_goBackTo_88 : decode cX0_goBackTo 88 = .ok (.invokestatic 50, 3) := by decide +kernel
theorem dX0_goBackTo_91 : decode cX0_goBackTo 91 = .ok (.aload_n 1, 1) := by decide +kernel
theorem dX0_goBackTo_92 : decode cX0_goBackTo 92 = .ok (.iload_n 3, 1) := by decide +kernel
theorem dX0_goBackTo_93 : decode cX0_goBackTo 93 = .ok (.bipush 8, 2) := by decide +kernel
theorem dX0_goBackTo_95 : decode cX0_goBackTo 95 = .ok (.iadd, 1) := by decide +kernel
theorem dX0_goBackTo_96 : decode cX0_goBackTo 96 = .ok (.aload_n 0, 1) := by decide +kernel
theorem dX0_goBackTo_97 : decode cX0_goBackTo 97 = .ok (.getfield 27, 3) := by decide +kernel
theorem dX0_goBackTo_100 : decode cX0_goBackTo 100 = .ok (.iconst 0, 1) := by decide +kernel
theorem dX0_goBackTo_101 : decode cX0_goBackTo 101 = .ok (.bipush 8, 2) := by decide +kernel
theorem dX0_goBackTo_103 : decode cX0_goBackTo 103 = .ok (.invokestatic 50, 3) := by decide +kernel
theorem dX0_goBackTo_106 : decode cX0_goBackTo 106 = .ok (.aload_n 0, 1) := by decide +kernel
theorem dX0_goBackTo_107 : decode cX0_goBackTo 107 = .ok (.invokevirtual 65, 3) := by decide +kernel
theorem dX0_goBackTo_110 : decode cX0_goBackTo 110 = .ok (.return_, 1) := by decide +kernel
abbrev rm_X0_goBackTo : Room := { frames := 4, cells := 0, slots := 0, locals := 144 }
def f_X0_goBackTo (k0 : Nat) (k1 : Nat) (S : St) (x2 : Int32) : Option (St) :=
  (f_X5_at k1 S x2).bind (fun (q1 : Int32) => lt_v (up_I S (ky k0 1) q1) (fun (S2 : St) => (f_X5_at k1 S2 (x2 + (1 : Int32))).bind (fun (q3 : Int32) => (f_X5_put (ky k0 6) S2 (st_I S2 (ky k0 1)) q3).bind (fun (q4 : St) => (f_X5_copy k1 (ky k0 2) q4 (x2 + (2 : Int32)) ((st_I q4 (ky k0 1)) * (6 : Int32)) (6 : Int32)).bind (fun (q5 : St) => (f_X5_copy k1 (ky k0 3) q5 ((x2 + (2 : Int32)) + (6 : Int32)) ((st_I q5 (ky k0 1)) * (6 : Int32)) (6 : Int32)).bind (fun (q6 : St) => (f_X5_copy k1 (ky k0 4) q6 ((x2 + (2 : Int32)) + 12) ((st_I q6 (ky k0 1)) * (8 : Int32)) (8 : Int32)).bind (fun (q7 : St) => (f_X5_copy k1 (ky k0 7) q7 (((x2 + (2 : Int32)) + 12) + (8 : Int32)) (0 : Int32) (8 : Int32)).bind (fun (q8 : St) => (f_X0_setLates k0 q8 ).bind (fun (q9 : St) => some q9)))))))))
set_option maxRecDepth 100000 in
set_option maxHeartbeats 4000000 in
theorem k_X0_goBackTo (l : Launch) (g : GG) (hg : gd wd_C g) (k0 : Nat) (k1 : Nat) (hk0 : hs wd_C g k0 0) (hA : allT g) (hk1 : k1 ∈ gg_as g) (S : St) (x2 : Int32) (q : St) (hf : f_X0_goBackTo k0 k1 S x2 = some q) : Met l yX0_goBackTo (Cond.code yX0_goBackTo cX0_goBackTo 4 none :: gw_tbl) rm_X0_goBackTo (va_Pc [.ref (gg_o g k0), .ref (gg_a g k1), .int x2] (wI wd_C g S)) (qc_v wd_C g q) 0 0 (aw g) := by
  refine mt_start (own := RX0) hg (by decide) rfl (Nat.le_of_ble_eq_true rfl) (fun p e s m args below meth c ls H locs cx hw hr hlk hl => ?_)
  have hx := cx.1
  have hb := cx.2.1
  have hown := cx.2.2.2.1
  have hts := cx.2.2.2.2.1
  have hl : lv_has ls 4 [(0, .ref (gg_o g k0)), (1, .ref (gg_a g k1)), (2, .int x2)] := hl
  replace hf := h_top hf
  unfold f_X0_goBackTo at hf
  refine lv_aload_n hx hb dX0_goBackTo_0 rfl (lv_at hl 0 rfl) ?_
  refine lv_aload_n hx hb dX0_goBackTo_1 rfl (lv_at hl 1 rfl) ?_
  refine lv_iload_n hx hb dX0_goBackTo_2 rfl (lv_at hl 2 rfl) ?_
  refine r_SN_i (As := [.ref (gg_a g k1), .int x2]) (rest := [.ref (gg_o g k0)]) cx hw hf (nw_at cx) lk_X0_68 (fun q1 hq => k_X5_at l g hg k1 hk1 S x2 q1 hq) ⟨⟨rfl, rfl⟩, Nat.le_of_ble_eq_true rfl, Nat.le_of_ble_eq_true rfl⟩ rfl hl.1 rfl (Nat.le_of_ble_eq_true rfl) dX0_goBackTo_3 ⟨Nat.zero_le _, Nat.zero_le _⟩ (fun q1 H locs hw hf => ?_)
  refine pf_X0_41 cx hw hk0 hf dX0_goBackTo_6 (fun S2 H locs hw hf => ?_)
  refine lv_aload_n hx hb dX0_goBackTo_9 rfl (lv_at hl 0 rfl) ?_
  refine gf_X0_24 cx hw hk0 dX0_goBackTo_10 ?_
  refine lv_aload_n hx hb dX0_goBackTo_13 rfl (lv_at hl 0 rfl) ?_
  refine gf_X0_41 cx hw hk0 dX0_goBackTo_14 ?_
  refine lv_aload_n hx hb dX0_goBackTo_17 rfl (lv_at hl 1 rfl) ?_
  refine lv_iload_n hx hb dX0_goBackTo_18 rfl (lv_at hl 2 rfl) ?_
  refine lv_iconst (v := 1) hx hb dX0_goBackTo_19 (by decide) ?_
  refine lv_iadd hx hb dX0_goBackTo_20 ?_
  refine r_SN_i (As := [.ref (gg_a g k1), .int (x2 + (1 : Int32))]) (rest := [.int (st_I S2 (ky k0 1)), .ref (gg_a g (ky k0 6))]) cx hw hf (nw_at cx) lk_X0_68 (fun q3 hq => k_X5_at l g hg k1 hk1 S2 (x2 + (1 : Int32)) q3 hq) ⟨⟨rfl, rfl⟩, Nat.le_of_ble_eq_true rfl, Nat.le_of_ble_eq_true rfl⟩ rfl hl.1 rfl (Nat.le_of_ble_eq_true rfl) dX0_goBackTo_21 ⟨Nat.zero_le _, Nat.zero_le _⟩ (fun q3 H locs hw hf => ?_)
  refine r_SN_v (As := [.ref (gg_a g (ky k0 6)), .int (st_I S2 (ky k0 1)), .int q3]) (rest := []) cx hw hf (nw_at cx) lk_X0_60 (fun q4 hq => k_X5_put l g hg (ky k0 6) (hk0.2.2.1 6 rfl) S2 (st_I S2 (ky k0 1)) q3 q4 hq) ⟨⟨rfl, rfl⟩, Nat.le_of_ble_eq_true rfl, Nat.le_of_ble_eq_true rfl⟩ rfl hl.1 rfl (Nat.le_of_ble_eq_true rfl) dX0_goBackTo_24 ⟨Nat.zero_le _, Nat.zero_le _⟩ (fun q4 H locs hw hf => ?_)
  refine lv_iload_n hx hb dX0_goBackTo_27 rfl (lv_at hl 2 rfl) ?_
  refine lv_iconst (v := 2) hx hb dX0_goBackTo_28 (by decide) ?_
  refine lv_iadd hx hb dX0_goBackTo_29 ?_
  refine lv_istore_n hx hb dX0_goBackTo_30 rfl hl (by decide) (lv' := [(3, .int (x2 + (2 : Int32))), (0, .ref (gg_o g k0)), (1, .ref (gg_a g k1)), (2, .int x2)]) rfl (fun ls hl => ?_)
  refine lv_aload_n hx hb dX0_goBackTo_31 rfl (lv_at hl 2 rfl) ?_
  refine lv_iload_n hx hb dX0_goBackTo_32 rfl (lv_at hl 0 rfl) ?_
  refine lv_aload_n hx hb dX0_goBackTo_33 rfl (lv_at hl 1 rfl) ?_
  refine gf_X0_9 cx hw hk0 dX0_goBackTo_34 ?_
  refine lv_aload_n hx hb dX0_goBackTo_37 rfl (lv_at hl 1 rfl) ?_
  refine gf_X0_41 cx hw hk0 dX0_goBackTo_38 ?_
  refine lv_bipush (v := 6) hx hb dX0_goBackTo_41 (by decide) ?_
  refine lv_imul hx hb dX0_goBackTo_43 ?_
  refine lv_bipush (v := 6) hx hb dX0_goBackTo_44 (by decide) ?_
  refine r_SN_v (As := [.ref (gg_a g k1), .int (x2 + (2 : Int32)), .ref (gg_a g (ky k0 2)), .int ((st_I q4 (ky k0 1)) * (6 : Int32)), .int (6 : Int32)]) (rest := []) cx hw hf (nw_at cx) lk_X0_50 (fun q5 hq => k_X5_copy l g hg k1 (ky k0 2) hk1 (hk0.2.2.1 2 rfl) q4 (x2 + (2 : Int32)) ((st_I q4 (ky k0 1)) * (6 : Int32)) (6 : Int32) q5 hq) ⟨⟨rfl, rfl⟩, Nat.le_of_ble_eq_true rfl, Nat.le_of_ble_eq_true rfl⟩ rfl hl.1 rfl (Nat.le_of_ble_eq_true rfl) dX0_goBackTo_46 ⟨Nat.zero_le _, Nat.zero_le _⟩ (fun q5 H locs hw hf => ?_)
  refine lv_aload_n hx hb dX0_goBackTo_49 rfl (lv_at hl 2 rfl) ?_
  refine lv_iload_n hx hb dX0_goBackTo_50 rfl (lv_at hl 0 rfl) ?_
  refine lv_bipush (v := 6) hx hb dX0_goBackTo_51 (by decide) ?_
  refine lv_iadd hx hb dX0_goBackTo_53 ?_
  refine lv_aload_n hx hb dX0_goBackTo_54 rfl (lv_at hl 1 rfl) ?_
  refine gf_X0_15 cx hw hk0 dX0_goBackTo_55 ?_
  refine lv_aload_n hx hb dX0_goBackTo_58 rfl (lv_at hl 1 rfl) ?_
  refine gf_X0_41 cx hw hk0 dX0_goBackTo_59 ?_
  refine lv_bipush (v := 6) hx hb dX0_goBackTo_62 (by decide) ?_
  refine lv_imul hx hb dX0_goBackTo_64 ?_
  refine lv_bipush (v := 6) hx hb dX0_goBackTo_65 (by decide) ?_
  refine r_SN_v (As := [.ref (gg_a g k1), .int ((x2 + (2 : Int32)) + (6 : Int32)), .ref (gg_a g (ky k0 3)), .int ((st_I q5 (ky k0 1)) * (6 : Int32)), .int (6 : Int32)]) (rest := []) cx hw hf (nw_at cx) lk_X0_50 (fun q6 hq => k_X5_copy l g hg k1 (ky k0 3) hk1 (hk0.2.2.1 3 rfl) q5 ((x2 + (2 : Int32)) + (6 : Int32)) ((st_I q5 (ky k0 1)) * (6 : Int32)) (6 : Int32) q6 hq) ⟨⟨rfl, rfl⟩, Nat.le_of_ble_eq_true rfl, Nat.le_of_ble_eq_true rfl⟩ rfl hl.1 rfl (Nat.le_of_ble_eq_true rfl) dX0_goBackTo_67 ⟨Nat.zero_le _, Nat.zero_le _⟩ (fun q6 H locs hw hf => ?_)
  refine lv_iinc hx hb dX0_goBackTo_70 hl (k := 0) rfl (congrArg (HAdd.hAdd _) (show Int32.ofInt (12) = 12 by decide)) (by decide) (lv' := [(3, .int ((x2 + (2 : Int32)) + 12)), (0, .ref (gg_o g k0)), (1, .ref (gg_a g k1)), (2, .int x2)]) rfl (fun ls hl => ?_)
  refine lv_aload_n hx hb dX0_goBackTo_73 rfl (lv_at hl 2 rfl) ?_
  refine lv_iload_n hx hb dX0_goBackTo_74 rfl (lv_at hl 0 rfl) ?_
  refine lv_aload_n hx hb dX0_goBackTo_75 rfl (lv_at hl 1 rfl) ?_
  refine gf_X0_18 cx hw hk0 dX0_goBackTo_76 ?_
  refine lv_aload_n hx hb dX0_goBackTo_79 rfl (lv_at hl 1 rfl) ?_
  refine gf_X0_41 cx hw hk0 dX0_goBackTo_80 ?_
  refine lv_bipush (v := 8) hx hb dX0_goBackTo_83 (by decide) ?_
  refine lv_imul hx hb dX0_goBackTo_85 ?_
  refine lv_bipush (v := 8) hx hb dX0_goBackTo_86 (by decide) ?_
  refine r_SN_v (As := [.ref (gg_a g k1), .int ((x2 + (2 : Int32)) + 12), .ref (gg_a g (ky k0 4)), .int ((st_I q6 (ky k0 1)) * (8 : Int32)), .int (8 : Int32)]) (rest := []) cx hw hf (nw_at cx) lk_X0_50 (fun q7 hq => k_X5_copy l g hg k1 (ky k0 4) hk1 (hk0.2.2.1 4 rfl) q6 ((x2 + (2 : Int32)) + 12) ((st_I q6 (ky k0 1)) * (8 : Int32)) (8 : Int32) q7 hq) ⟨⟨rfl, rfl⟩, Nat.le_of_ble_eq_true rfl, Nat.le_of_ble_eq_true rfl⟩ rfl hl.1 rfl (Nat.le_of_ble_eq_true rfl) dX0_goBackTo_88 ⟨Nat.zero_le _, Nat.zero_le _⟩ (fun q7 H locs hw hf => ?_)
  refine lv_aload_n hx hb dX0_goBackTo_91 rfl (lv_at hl 2 rfl) ?_
  refine lv_iload_n hx hb dX0_goBackTo_92 rfl (lv_at hl 0 rfl) ?_
  refine lv_bipush (v := 8) hx hb dX0_goBackTo_93 (by decide) ?_
  refine lv_iadd hx hb dX0_goBackTo_95 ?_
  refine lv_aload_n hx hb dX0_goBackTo_96 rfl (lv_at hl 1 rfl) ?_
  refine gf_X0_27 cx hw hk0 dX0_goBackTo_97 ?_
  refine lv_iconst (v := 0) hx hb dX0_goBackTo_100 (by decide) ?_
  refine lv_bipush (v := 8) hx hb dX0_goBackTo_101 (by decide) ?_
  refine r_SN_v (As := [.ref (gg_a g k1), .int (((x2 + (2 : Int32)) + 12) + (8 : Int32)), .ref (gg_a g (ky k0 7)), .int (0 : Int32), .int (8 : Int32)]) (rest := []) cx hw hf (nw_at cx) lk_X0_50 (fun q8 hq => k_X5_copy l g hg k1 (ky k0 7) hk1 (hk0.2.2.1 7 rfl) q7 (((x2 + (2 : Int32)) + 12) + (8 : Int32)) (0 : Int32) (8 : Int32) q8 hq) ⟨⟨rfl, rfl⟩, Nat.le_of_ble_eq_true rfl, Nat.le_of_ble_eq_true rfl⟩ rfl hl.1 rfl (Nat.le_of_ble_eq_true rfl) dX0_goBackTo_103 ⟨Nat.zero_le _, Nat.zero_le _⟩ (fun q8 H locs hw hf => ?_)
  refine lv_aload_n hx hb dX0_goBackTo_106 rfl (lv_at hl 1 rfl) ?_
  refine r_V_v (As := []) (rest := []) cx hw hf hk0.2.1 (by rw [hk0.1]; rfl) lk_X0_65 (fun q9 hq => k_X0_setLates l g hg k0 hk0 hA q8  q9 hq) ⟨⟨rfl, rfl⟩, Nat.le_of_ble_eq_true rfl, Nat.le_of_ble_eq_true rfl⟩ rfl hl.1 rfl (Nat.le_of_ble_eq_true rfl) dX0_goBackTo_107 ⟨Nat.zero_le _, Nat.zero_le _⟩ (fun q9 H locs hw hf => ?_)
  exact r_vret cx hw hr hlk hf dX0_goBackTo_110
theorem dX0_roomOf_0 : decode cX0_roomOf 0 = .ok (.aload_n 0, 1) := by decide +kernel
theorem dX0_roomOf_1 : decode cX0_roomOf 1 = .ok (.getfield 9, 3) := by decide +kernel
theorem dX0_roomOf_4 : decode cX0_roomOf 4 = .ok (.iload_n 2, 1) := by decide +kernel
theorem dX0_roomOf_5 : decode cX0_roomOf 5 = .ok (.bipush 6, 2) := by decide +kernel
theorem dX0_roomOf_7 : decode cX0_roomOf 7 = .ok (.imul, 1) := by decide +kernel
theorem dX0_roomOf_8 : decode cX0_roomOf 8 = .ok (.iload_n 1, 1) := by decide +kernel
theorem dX0_roomOf_9 : decode cX0_roomOf 9 = .ok (.iadd, 1) := by decide +kernel
theorem dX0_roomOf_10 : decode cX0_roomOf 10 = .ok (.invokestatic 68, 3) := by decide +kernel
theorem dX0_roomOf_13 : decode cX0_roomOf 13 = .ok (.ireturn, 1) := by decide +kernel
abbrev rm_X0_roomOf : Room := { frames := 1, cells := 0, slots := 0, locals := 21 }
def f_X0_roomOf (k0 : Nat) (S : St) (x1 : Int32) (x2 : Int32) : Option (Int32) :=
  (f_X5_at (ky k0 2) S ((x2 * (6 : Int32)) + x1)).bind (fun (q1 : Int32) => some q1)
set_option maxRecDepth 100000 in
set_option maxHeartbeats 4000000 in
theorem k_X0_roomOf (l : Launch) (g : GG) (hg : gd wd_C g) (k0 : Nat) (hk0 : hs wd_C g k0 0) (hA : allT g) (S : St) (x1 : Int32) (x2 : Int32) (q : Int32) (hf : f_X0_roomOf k0 S x1 x2 = some q) : Met l yX0_roomOf (Cond.code yX0_roomOf cX0_roomOf 3 (some .int) :: gw_tbl) rm_X0_roomOf (va_Pc [.ref (gg_o g k0), .int x1, .int x2] (wI wd_C g S)) (qc_i wd_C g S q) 0 0 (aw g) := by
  refine mt_start (own := RX0) hg (by decide) rfl (Nat.le_of_ble_eq_true rfl) (fun p e s m args below meth c ls H locs cx hw hr hlk hl => ?_)
  have hx := cx.1
  have hb := cx.2.1
  have hown := cx.2.2.2.1
  have hts := cx.2.2.2.2.1
  have hl : lv_has ls 3 [(0, .ref (gg_o g k0)), (1, .int x1), (2, .int x2)] := hl
  replace hf := h_top hf
  unfold f_X0_roomOf at hf
  refine lv_aload_n hx hb dX0_roomOf_0 rfl (lv_at hl 0 rfl) ?_
  refine gf_X0_9 cx hw hk0 dX0_roomOf_1 ?_
  refine lv_iload_n hx hb dX0_roomOf_4 rfl (lv_at hl 2 rfl) ?_
  refine lv_bipush (v := 6) hx hb dX0_roomOf_5 (by decide) ?_
  refine lv_imul hx hb dX0_roomOf_7 ?_
  refine lv_iload_n hx hb dX0_roomOf_8 rfl (lv_at hl 1 rfl) ?_
  refine lv_iadd hx hb dX0_roomOf_9 ?_
  refine r_SN_i (As := [.ref (gg_a g (ky k0 2)), .int ((x2 * (6 : Int32)) + x1)]) (rest := []) cx hw hf (nw_at cx) lk_X0_68 (fun q1 hq => k_X5_at l g hg (ky k0 2) (hk0.2.2.1 2 rfl) S ((x2 * (6 : Int32)) + x1) q1 hq) ⟨⟨rfl, rfl⟩, Nat.le_of_ble_eq_true rfl, Nat.le_of_ble_eq_true rfl⟩ rfl hl.1 rfl (Nat.le_of_ble_eq_true rfl) dX0_roomOf_10 ⟨Nat.zero_le _, Nat.zero_le _⟩ (fun q1 H locs hw hf => ?_)
  exact r_iret cx hw hr hlk hf dX0_roomOf_13
theorem dX0_lateOf_0 : decode cX0_lateOf 0 = .ok (.aload_n 0, 1) := by decide +kernel
theorem dX0_lateOf_1 : decode cX0_lateOf 1 = .ok (.getfield 21, 3) := by decide +kernel
theorem dX0_lateOf_4 : decode cX0_lateOf 4 = .ok (.iload_n 2, 1) := by decide +kernel
theorem dX0_lateOf_5 : decode cX0_lateOf 5 = .ok (.bipush 8, 2) := by decide +kernel
theorem dX0_lateOf_7 : decode cX0_lateOf 7 = .ok (.imul, 1) := by decide +kernel
theorem dX0_lateOf_8 : decode cX0_lateOf 8 = .ok (.iload_n 1, 1) := by decide +kernel
theorem dX0_lateOf_9 : decode cX0_lateOf 9 = .ok (.iadd, 1) := by decide +kernel
theorem dX0_lateOf_10 : decode cX0_lateOf 10 = .ok (.invokestatic 68, 3) := by decide +kernel
theorem dX0_lateOf_13 : decode cX0_lateOf 13 = .ok (.ireturn, 1) := by decide +kernel
abbrev rm_X0_lateOf : Room := { frames := 1, cells := 0, slots := 0, locals := 21 }
def f_X0_lateOf (k0 : Nat) (S : St) (x1 : Int32) (x2 : Int32) : Option (Int32) :=
  (f_X5_at (ky k0 5) S ((x2 * (8 : Int32)) + x1)).bind (fun (q1 : Int32) => some q1)
set_option maxRecDepth 100000 in
set_option maxHeartbeats 4000000 in
theorem k_X0_lateOf (l : Launch) (g : GG) (hg : gd wd_C g) (k0 : Nat) (hk0 : hs wd_C g k0 0) (hA : allT g) (S : St) (x1 : Int32) (x2 : Int32) (q : Int32) (hf : f_X0_lateOf k0 S x1 x2 = some q) : Met l yX0_lateOf (Cond.code yX0_lateOf cX0_lateOf 3 (some .int) :: gw_tbl) rm_X0_lateOf (va_Pc [.ref (gg_o g k0), .int x1, .int x2] (wI wd_C g S)) (qc_i wd_C g S q) 0 0 (aw g) := by
  refine mt_start (own := RX0) hg (by decide) rfl (Nat.le_of_ble_eq_true rfl) (fun p e s m args below meth c ls H locs cx hw hr hlk hl => ?_)
  have hx := cx.1
  have hb := cx.2.1
  have hown := cx.2.2.2.1
  have hts := cx.2.2.2.2.1
  have hl : lv_has ls 3 [(0, .ref (gg_o g k0)), (1, .int x1), (2, .int x2)] := hl
  replace hf := h_top hf
  unfold f_X0_lateOf at hf
  refine lv_aload_n hx hb dX0_lateOf_0 rfl (lv_at hl 0 rfl) ?_
  refine gf_X0_21 cx hw hk0 dX0_lateOf_1 ?_
  refine lv_iload_n hx hb dX0_lateOf_4 rfl (lv_at hl 2 rfl) ?_
  refine lv_bipush (v := 8) hx hb dX0_lateOf_5 (by decide) ?_
  refine lv_imul hx hb dX0_lateOf_7 ?_
  refine lv_iload_n hx hb dX0_lateOf_8 rfl (lv_at hl 1 rfl) ?_
  refine lv_iadd hx hb dX0_lateOf_9 ?_
  refine r_SN_i (As := [.ref (gg_a g (ky k0 5)), .int ((x2 * (8 : Int32)) + x1)]) (rest := []) cx hw hf (nw_at cx) lk_X0_68 (fun q1 hq => k_X5_at l g hg (ky k0 5) (hk0.2.2.1 5 rfl) S ((x2 * (8 : Int32)) + x1) q1 hq) ⟨⟨rfl, rfl⟩, Nat.le_of_ble_eq_true rfl, Nat.le_of_ble_eq_true rfl⟩ rfl hl.1 rfl (Nat.le_of_ble_eq_true rfl) dX0_lateOf_10 ⟨Nat.zero_le _, Nat.zero_le _⟩ (fun q1 H locs hw hf => ?_)
  exact r_iret cx hw hr hlk hf dX0_lateOf_13
theorem dX5_has_0 : decode cX5_has 0 = .ok (.iload_n 1, 1) := by decide +kernel
theorem dX5_has_1 : decode cX5_has 1 = .ok (.ifCond .lt 22, 3) := by decide +kernel
theorem dX5_has_4 : decode cX5_has 4 = .ok (.iload_n 1, 1) := by decide +kernel
theorem dX5_has_5 : decode cX5_has 5 = .ok (.bipush 32, 2) := by decide +kernel
theorem dX5_has_7 : decode cX5_has 7 = .ok (.if_icmp .ge 16, 3) := by decide +kernel
theorem dX5_has_10 : decode cX5_has 10 = .ok (.iload_n 0, 1) := by decide +kernel
theorem dX5_has_11 : decode cX5_has 11 = .ok (.iload_n 1, 1) := by decide +kernel
theorem dX5_has_12 : decode cX5_has 12 = .ok (.iushr, 1) := by decide +kernel
theorem dX5_has_13 : decode cX5_has 13 = .ok (.iconst 1, 1) := by decide +kernel
theorem dX5_has_14 : decode cX5_has 14 = .ok (.iand, 1) := by decide +kernel
theorem dX5_has_15 : decode cX5_has 15 = .ok (.iconst 1, 1) := by decide +kernel
theorem dX5_has_16 : decode cX5_has 16 = .ok (.if_icmp .ne 7, 3) := by decide +kernel
theorem dX5_has_19 : decode cX5_has 19 = .ok (.iconst 1, 1) := by decide +kernel
theorem dX5_has_20 : decode cX5_has 20 = .ok (.goto 4, 3) := by decide +kernel
theorem dX5_has_23 : decode cX5_has 23 = .ok (.iconst 0, 1) := by decide +kernel
theorem dX5_has_24 : decode cX5_has 24 = .ok (.ireturn, 1) := by decide +kernel
abbrev rm_X5_has : Room := { frames := 0, cells := 0, slots := 0, locals := 0 }
def f_X5_has (x0 : Int32) (x1 : Int32) : Option (Int32) :=
  if x1 < 0 then (some (0 : Int32)) else (if (32 : Int32) ≤ x1 then (some (0 : Int32)) else (if ((i_ushr x0 x1) &&& (1 : Int32)) = (1 : Int32) then (some (1 : Int32)) else (some (0 : Int32))))
set_option maxRecDepth 100000 in
set_option maxHeartbeats 4000000 in
theorem k_X5_has (l : Launch) (g : GG) (hg : gd wd_C g)  (S : St) (x0 : Int32) (x1 : Int32) (q : Int32) (hf : f_X5_has   x0 x1 = some q) : Met l yX5_has (Cond.code yX5_has cX5_has 2 (some .boolean) :: gw_tbl) rm_X5_has (va_Pc [.int x0, .int x1] (wI wd_C g S)) (qc_i wd_C g S q) 0 0 (aw g) := by
  refine mt_start (own := RX5) hg (by decide) rfl (Nat.le_of_ble_eq_true rfl) (fun p e s m args below meth c ls H locs cx hw hr hlk hl => ?_)
  have hx := cx.1
  have hb := cx.2.1
  have hown := cx.2.2.2.1
  have hts := cx.2.2.2.2.1
  have hl : lv_has ls 2 [(0, .int x0), (1, .int x1)] := hl
  replace hf := h_top hf
  unfold f_X5_has at hf
  refine lv_iload_n hx hb dX5_has_0 rfl (lv_at hl 1 rfl) ?_
  refine lv_if_lt hx hb dX5_has_1 (tgt := 23) rfl (fun hc1 => ?_) (fun hc1 => ?_)
  · replace hf := h_pos hc1 hf
    refine lv_iconst (v := 0) hx hb dX5_has_23 (by decide) ?_
    exact r_zret cx hw hr hlk (Or.inl rfl) hf dX5_has_24
  replace hf := h_neg hc1 hf
  refine lv_iload_n hx hb dX5_has_4 rfl (lv_at hl 1 rfl) ?_
  refine lv_bipush (v := 32) hx hb dX5_has_5 (by decide) ?_
  refine lv_icmp_ge hx hb dX5_has_7 (tgt := 23) rfl (fun hc2 => ?_) (fun hc2 => ?_)
  · replace hf := h_pos hc2 hf
    refine lv_iconst (v := 0) hx hb dX5_has_23 (by decide) ?_
    exact r_zret cx hw hr hlk (Or.inl rfl) hf dX5_has_24
  replace hf := h_neg hc2 hf
  refine lv_iload_n hx hb dX5_has_10 rfl (lv_at hl 0 rfl) ?_
  refine lv_iload_n hx hb dX5_has_11 rfl (lv_at hl 1 rfl) ?_
  refine lv_iushr (v := i_ushr x0 x1) hx hb dX5_has_12 rfl ?_
  refine lv_iconst (v := 1) hx hb dX5_has_13 (by decide) ?_
  refine lv_iand hx hb dX5_has_14 ?_
  refine lv_iconst (v := 1) hx hb dX5_has_15 (by decide) ?_
  refine lv_icmp_ne hx hb dX5_has_16 (tgt := 23) rfl (fun hc3 => ?_) (fun hc3 => ?_)
  · replace hf := h_neg hc3 hf
    refine lv_iconst (v := 0) hx hb dX5_has_23 (by decide) ?_
    exact r_zret cx hw hr hlk (Or.inl rfl) hf dX5_has_24
  replace hf := h_pos hc3 hf
  refine lv_iconst (v := 1) hx hb dX5_has_19 (by decide) ?_
  refine lv_goto hx hb dX5_has_20 (tgt := 24) rfl ?_
  exact r_zret cx hw hr hlk (Or.inr rfl) hf dX5_has_24
theorem dX0_isTurned_0 : decode cX0_isTurned 0 = .ok (.aload_n 0, 1) := by decide +kernel
theorem dX0_isTurned_1 : decode cX0_isTurned 1 = .ok (.getfield 24, 3) := by decide +kernel
theorem dX0_isTurned_4 : decode cX0_isTurned 4 = .ok (.iload_n 2, 1) := by decide +kernel
theorem dX0_isTurned_5 : decode cX0_isTurned 5 = .ok (.invokestatic 68, 3) := by decide +kernel
theorem dX0_isTurned_8 : decode cX0_isTurned 8 = .ok (.iload_n 1, 1) := by decide +kernel
theorem dX0_isTurned_9 : decode cX0_isTurned 9 = .ok (.invokestatic 72, 3) := by decide +kernel
theorem dX0_isTurned_12 : decode cX0_isTurned 12 = .ok (.ireturn, 1) := by decide +kernel
abbrev rm_X0_isTurned : Room := { frames := 1, cells := 0, slots := 0, locals := 21 }
def f_X0_isTurned (k0 : Nat) (S : St) (x1 : Int32) (x2 : Int32) : Option (Int32) :=
  (f_X5_at (ky k0 6) S x2).bind (fun (q1 : Int32) => (f_X5_has   q1 x1).bind (fun (q2 : Int32) => chk (isb q2) (some q2)))
set_option maxRecDepth 100000 in
set_option maxHeartbeats 4000000 in
theorem k_X0_isTurned (l : Launch) (g : GG) (hg : gd wd_C g) (k0 : Nat) (hk0 : hs wd_C g k0 0) (hA : allT g) (S : St) (x1 : Int32) (x2 : Int32) (q : Int32) (hf : f_X0_isTurned k0 S x1 x2 = some q) : Met l yX0_isTurned (Cond.code yX0_isTurned cX0_isTurned 3 (some .boolean) :: gw_tbl) rm_X0_isTurned (va_Pc [.ref (gg_o g k0), .int x1, .int x2] (wI wd_C g S)) (qc_i wd_C g S q) 0 0 (aw g) := by
  refine mt_start (own := RX0) hg (by decide) rfl (Nat.le_of_ble_eq_true rfl) (fun p e s m args below meth c ls H locs cx hw hr hlk hl => ?_)
  have hx := cx.1
  have hb := cx.2.1
  have hown := cx.2.2.2.1
  have hts := cx.2.2.2.2.1
  have hl : lv_has ls 3 [(0, .ref (gg_o g k0)), (1, .int x1), (2, .int x2)] := hl
  replace hf := h_top hf
  unfold f_X0_isTurned at hf
  refine lv_aload_n hx hb dX0_isTurned_0 rfl (lv_at hl 0 rfl) ?_
  refine gf_X0_24 cx hw hk0 dX0_isTurned_1 ?_
  refine lv_iload_n hx hb dX0_isTurned_4 rfl (lv_at hl 2 rfl) ?_
  refine r_SN_i (As := [.ref (gg_a g (ky k0 6)), .int x2]) (rest := []) cx hw hf (nw_at cx) lk_X0_68 (fun q1 hq => k_X5_at l g hg (ky k0 6) (hk0.2.2.1 6 rfl) S x2 q1 hq) ⟨⟨rfl, rfl⟩, Nat.le_of_ble_eq_true rfl, Nat.le_of_ble_eq_true rfl⟩ rfl hl.1 rfl (Nat.le_of_ble_eq_true rfl) dX0_isTurned_5 ⟨Nat.zero_le _, Nat.zero_le _⟩ (fun q1 H locs hw hf => ?_)
  refine lv_iload_n hx hb dX0_isTurned_8 rfl (lv_at hl 1 rfl) ?_
  refine r_SN_i (As := [.int q1, .int x1]) (rest := []) cx hw hf (nw_at cx) lk_X0_72 (fun q2 hq => k_X5_has l g hg   S q1 x1 q2 hq) ⟨⟨rfl, rfl⟩, Nat.le_of_ble_eq_true rfl, Nat.le_of_ble_eq_true rfl⟩ rfl hl.1 rfl (Nat.le_of_ble_eq_true rfl) dX0_isTurned_9 ⟨Nat.zero_le _, Nat.zero_le _⟩ (fun q2 H locs hw hf => ?_)
  obtain ⟨hc3, hf⟩ := h_chk hf
  exact r_zret cx hw hr hlk hc3 hf dX0_isTurned_12
theorem dX0_isBroken_0 : decode cX0_isBroken 0 = .ok (.aload_n 0, 1) := by decide +kernel
theorem dX0_isBroken_1 : decode cX0_isBroken 1 = .ok (.getfield 27, 3) := by decide +kernel
theorem dX0_isBroken_4 : decode cX0_isBroken 4 = .ok (.iload_n 1, 1) := by decide +kernel
theorem dX0_isBroken_5 : decode cX0_isBroken 5 = .ok (.invokestatic 68, 3) := by decide +kernel
theorem dX0_isBroken_8 : decode cX0_isBroken 8 = .ok (.iload_n 2, 1) := by decide +kernel
theorem dX0_isBroken_9 : decode cX0_isBroken 9 = .ok (.if_icmp .gt 7, 3) := by decide +kernel
theorem dX0_isBroken_12 : decode cX0_isBroken 12 = .ok (.iconst 1, 1) := by decide +kernel
theorem dX0_isBroken_13 : decode cX0_isBroken 13 = .ok (.goto 4, 3) := by decide +kernel
theorem dX0_isBroken_16 : decode cX0_isBroken 16 = .ok (.iconst 0, 1) := by decide +kernel
theorem dX0_isBroken_17 : decode cX0_isBroken 17 = .ok (.ireturn, 1) := by decide +kernel
abbrev rm_X0_isBroken : Room := { frames := 1, cells := 0, slots := 0, locals := 21 }
def f_X0_isBroken (k0 : Nat) (S : St) (x1 : Int32) (x2 : Int32) : Option (Int32) :=
  (f_X5_at (ky k0 7) S x1).bind (fun (q1 : Int32) => if x2 < q1 then (some (0 : Int32)) else (some (1 : Int32)))
set_option maxRecDepth 100000 in
set_option maxHeartbeats 4000000 in
theorem k_X0_isBroken (l : Launch) (g : GG) (hg : gd wd_C g) (k0 : Nat) (hk0 : hs wd_C g k0 0) (hA : allT g) (S : St) (x1 : Int32) (x2 : Int32) (q : Int32) (hf : f_X0_isBroken k0 S x1 x2 = some q) : Met l yX0_isBroken (Cond.code yX0_isBroken cX0_isBroken 3 (some .boolean) :: gw_tbl) rm_X0_isBroken (va_Pc [.ref (gg_o g k0), .int x1, .int x2] (wI wd_C g S)) (qc_i wd_C g S q) 0 0 (aw g) := by
  refine mt_start (own := RX0) hg (by decide) rfl (Nat.le_of_ble_eq_true rfl) (fun p e s m args below meth c ls H locs cx hw hr hlk hl => ?_)
  have hx := cx.1
  have hb := cx.2.1
  have hown := cx.2.2.2.1
  have hts := cx.2.2.2.2.1
  have hl : lv_has ls 3 [(0, .ref (gg_o g k0)), (1, .int x1), (2, .int x2)] := hl
  replace hf := h_top hf
  unfold f_X0_isBroken at hf
  refine lv_aload_n hx hb dX0_isBroken_0 rfl (lv_at hl 0 rfl) ?_
  refine gf_X0_27 cx hw hk0 dX0_isBroken_1 ?_
  refine lv_iload_n hx hb dX0_isBroken_4 rfl (lv_at hl 1 rfl) ?_
  refine r_SN_i (As := [.ref (gg_a g (ky k0 7)), .int x1]) (rest := []) cx hw hf (nw_at cx) lk_X0_68 (fun q1 hq => k_X5_at l g hg (ky k0 7) (hk0.2.2.1 7 rfl) S x1 q1 hq) ⟨⟨rfl, rfl⟩, Nat.le_of_ble_eq_true rfl, Nat.le_of_ble_eq_true rfl⟩ rfl hl.1 rfl (Nat.le_of_ble_eq_true rfl) dX0_isBroken_5 ⟨Nat.zero_le _, Nat.zero_le _⟩ (fun q1 H locs hw hf => ?_)
  refine lv_iload_n hx hb dX0_isBroken_8 rfl (lv_at hl 2 rfl) ?_
  refine lv_icmp_gt hx hb dX0_isBroken_9 (tgt := 16) rfl (fun hc2 => ?_) (fun hc2 => ?_)
  · replace hf := h_pos hc2 hf
    refine lv_iconst (v := 0) hx hb dX0_isBroken_16 (by decide) ?_
    exact r_zret cx hw hr hlk (Or.inl rfl) hf dX0_isBroken_17
  replace hf := h_neg hc2 hf
  refine lv_iconst (v := 1) hx hb dX0_isBroken_12 (by decide) ?_
  refine lv_goto hx hb dX0_isBroken_13 (tgt := 17) rfl ?_
  exact r_zret cx hw hr hlk (Or.inr rfl) hf dX0_isBroken_17
theorem dX0_turnedOnes_0 : decode cX0_turnedOnes 0 = .ok (.aload_n 0, 1) := by decide +kernel
theorem dX0_turnedOnes_1 : decode cX0_turnedOnes 1 = .ok (.getfield 24, 3) := by decide +kernel
theorem dX0_turnedOnes_4 : decode cX0_turnedOnes 4 = .ok (.aload_n 0, 1) := by decide +kernel
theorem dX0_turnedOnes_5 : decode cX0_turnedOnes 5 = .ok (.getfield 41, 3) := by decide +kernel
theorem dX0_turnedOnes_8 : decode cX0_turnedOnes 8 = .ok (.invokestatic 68, 3) := by decide +kernel
theorem dX0_turnedOnes_11 : decode cX0_turnedOnes 11 = .ok (.ireturn, 1) := by decide +kernel
abbrev rm_X0_turnedOnes : Room := { frames := 1, cells := 0, slots := 0, locals := 21 }
def f_X0_turnedOnes (k0 : Nat) (S : St)  : Option (Int32) :=
  (f_X5_at (ky k0 6) S (st_I S (ky k0 1))).bind (fun (q1 : Int32) => some q1)
set_option maxRecDepth 100000 in
set_option maxHeartbeats 4000000 in
theorem k_X0_turnedOnes (l : Launch) (g : GG) (hg : gd wd_C g) (k0 : Nat) (hk0 : hs wd_C g k0 0) (hA : allT g) (S : St)  (q : Int32) (hf : f_X0_turnedOnes k0 S  = some q) : Met l yX0_turnedOnes (Cond.code yX0_turnedOnes cX0_turnedOnes 1 (some .int) :: gw_tbl) rm_X0_turnedOnes (va_Pc [.ref (gg_o g k0)] (wI wd_C g S)) (qc_i wd_C g S q) 0 0 (aw g) := by
  refine mt_start (own := RX0) hg (by decide) rfl (Nat.le_of_ble_eq_true rfl) (fun p e s m args below meth c ls H locs cx hw hr hlk hl => ?_)
  have hx := cx.1
  have hb := cx.2.1
  have hown := cx.2.2.2.1
  have hts := cx.2.2.2.2.1
  have hl : lv_has ls 1 [(0, .ref (gg_o g k0))] := hl
  replace hf := h_top hf
  unfold f_X0_turnedOnes at hf
  refine lv_aload_n hx hb dX0_turnedOnes_0 rfl (lv_at hl 0 rfl) ?_
  refine gf_X0_24 cx hw hk0 dX0_turnedOnes_1 ?_
  refine lv_aload_n hx hb dX0_turnedOnes_4 rfl (lv_at hl 0 rfl) ?_
  refine gf_X0_41 cx hw hk0 dX0_turnedOnes_5 ?_
  refine r_SN_i (As := [.ref (gg_a g (ky k0 6)), .int (st_I S (ky k0 1))]) (rest := []) cx hw hf (nw_at cx) lk_X0_68 (fun q1 hq => k_X5_at l g hg (ky k0 6) (hk0.2.2.1 6 rfl) S (st_I S (ky k0 1)) q1 hq) ⟨⟨rfl, rfl⟩, Nat.le_of_ble_eq_true rfl, Nat.le_of_ble_eq_true rfl⟩ rfl hl.1 rfl (Nat.le_of_ble_eq_true rfl) dX0_turnedOnes_8 ⟨Nat.zero_le _, Nat.zero_le _⟩ (fun q1 H locs hw hf => ?_)
  exact r_iret cx hw hr hlk hf dX0_turnedOnes_11
theorem dX0_brokenOnes_0 : decode cX0_brokenOnes 0 = .ok (.iconst 0, 1) := by decide +kernel
theorem dX0_brokenOnes_1 : decode cX0_brokenOnes 1 = .ok (.istore_n 1, 1) := by decide +kernel
theorem dX0_brokenOnes_2 : decode cX0_brokenOnes 2 = .ok (.iconst 0, 1) := by decide +kernel
theorem dX0_brokenOnes_3 : decode cX0_brokenOnes 3 = .ok (.istore_n 2, 1) := by decide +kernel
theorem dX0_brokenOnes_4 : decode cX0_brokenOnes 4 = .ok (.iload_n 2, 1) := by decide +kernel
theorem dX0_brokenOnes_5 : decode cX0_brokenOnes 5 = .ok (.aload_n 0, 1) := by decide +kernel
theorem dX0_brokenOnes_6 : decode cX0_brokenOnes 6 = .ok (.getfield 33, 3) := by decide +kernel
theorem dX0_brokenOnes_9 : decode cX0_brokenOnes 9 = .ok (.getfield 76, 3) := by decide +kernel
theorem dX0_brokenOnes_12 : decode cX0_brokenOnes 12 = .ok (.if_icmp .ge 31, 3) := by decide +kernel
theorem dX0_brokenOnes_15 : decode cX0_brokenOnes 15 = .ok (.iload_n 1, 1) := by decide +kernel
theorem dX0_brokenOnes_16 : decode cX0_brokenOnes 16 = .ok (.aload_n 0, 1) := by decide +kernel
theorem dX0_brokenOnes_17 : decode cX0_brokenOnes 17 = .ok (.iload_n 2, 1) := by decide +kernel
theorem dX0_brokenOnes_18 : decode cX0_brokenOnes 18 = .ok (.aload_n 0, 1) := by decide +kernel
theorem dX0_brokenOnes_19 : decode cX0_brokenOnes 19 = .ok (.getfield 41, 3) := by decide +kernel
theorem dX0_brokenOnes_22 : decode cX0_brokenOnes 22 = .ok (.invokevirtual 79, 3) := by decide +kernel
theorem dX0_brokenOnes_25 : decode cX0_brokenOnes 25 = .ok (.ifCond .eq 9, 3) := by decide +kernel
theorem dX0_brokenOnes_28 : decode cX0_brokenOnes 28 = .ok (.iconst 1, 1) := by decide +kernel
theorem dX0_brokenOnes_29 : decode cX0_brokenOnes 29 = .ok (.iload_n 2, 1) := by decide +kernel
theorem dX0_brokenOnes_30 : decode cX0_brokenOnes 30 = .ok (.ishl, 1) := by decide +kernel
theorem dX0_brokenOnes_31 : decode cX0_brokenOnes 31 = .ok (.goto 4, 3) := by decide +kernel
theorem dX0_brokenOnes_34 : decode cX0_brokenOnes 34 = .ok (.iconst 0, 1) := by decide +kernel
theorem dX0_brokenOnes_35 : decode cX0_brokenOnes 35 = .ok (.ior, 1) := by decide +kernel
theorem dX0_brokenOnes_36 : decode cX0_brokenOnes 36 = .ok (.istore_n 1, 1) := by decide +kernel
theorem dX0_brokenOnes_37 : decode cX0_brokenOnes 37 = .ok (.iinc 2 1, 3) := by decide +kernel
theorem dX0_brokenOnes_40 : decode cX0_brokenOnes 40 = .ok (.goto (-36), 3) := by decide +kernel
theorem dX0_brokenOnes_43 : decode cX0_brokenOnes 43 = .ok (.iload_n 1, 1) := by decide +kernel
theorem dX0_brokenOnes_44 : decode cX0_brokenOnes 44 = .ok (.ireturn, 1) := by decide +kernel
abbrev rm_X0_brokenOnes : Room := { frames := 2, cells := 0, slots := 0, locals := 43 }
def f_X0_brokenOnes_J35 (k0 : Nat) (S : St) (x2 : Int32) (y0 : Int32) (y1 : Int32) : Option ((Int32 × Int32) ⊕ (Int32)) :=
  some (.inl ((y1 ||| y0), (x2 + 1)))
def f_X0_brokenOnes_L4 (k0 : Nat) (S : St)  (z4 : Int32 × Int32) : Option ((Int32 × Int32) ⊕ (Int32)) :=
  chk (isT (st_P S (ky k0 0))) (if (st_I S (ky (st_P S (ky k0 0)) 3)) ≤ z4.2 then (some (.inr z4.1)) else ((f_X0_isBroken k0 S z4.2 (st_I S (ky k0 1))).bind (fun (q3 : Int32) => if q3 = 0 then (f_X0_brokenOnes_J35 k0 S z4.2 (0 : Int32) z4.1) else (f_X0_brokenOnes_J35 k0 S z4.2 ((1 : Int32) <<< (z4.2 &&& 31)) z4.1))))
def f_X0_brokenOnes (k0 : Nat) (S : St)  : Option (Int32) :=
  iter (f_X0_brokenOnes_L4 k0 S ) FU ((0 : Int32), (0 : Int32))
set_option maxRecDepth 100000 in
set_option maxHeartbeats 4000000 in
theorem k_X0_brokenOnes (l : Launch) (g : GG) (hg : gd wd_C g) (k0 : Nat) (hk0 : hs wd_C g k0 0) (hA : allT g) (S : St)  (q : Int32) (hf : f_X0_brokenOnes k0 S  = some q) : Met l yX0_brokenOnes (Cond.code yX0_brokenOnes cX0_brokenOnes 3 (some .int) :: gw_tbl) rm_X0_brokenOnes (va_Pc [.ref (gg_o g k0)] (wI wd_C g S)) (qc_i wd_C g S q) 0 0 (aw g) := by
  refine mt_start (own := RX0) hg (by decide) rfl (Nat.le_of_ble_eq_true rfl) (fun p e s m args below meth c ls H locs cx hw hr hlk hl => ?_)
  have hx := cx.1
  have hb := cx.2.1
  have hown := cx.2.2.2.1
  have hts := cx.2.2.2.2.1
  have hl : lv_has ls 3 [(0, .ref (gg_o g k0))] := hl
  replace hf := h_top hf
  unfold f_X0_brokenOnes at hf
  refine lv_iconst (v := 0) hx hb dX0_brokenOnes_0 (by decide) ?_
  refine lv_istore_n hx hb dX0_brokenOnes_1 rfl hl (by decide) (lv' := [(1, .int (0 : Int32)), (0, .ref (gg_o g k0))]) rfl (fun ls hl => ?_)
  refine lv_iconst (v := 0) hx hb dX0_brokenOnes_2 (by decide) ?_
  refine lv_istore_n hx hb dX0_brokenOnes_3 rfl hl (by decide) (lv' := [(2, .int (0 : Int32)), (1, .int (0 : Int32)), (0, .ref (gg_o g k0))]) rfl (fun ls hl => ?_)
  have L4 : ∀  (aft4 : Int32 → Option (Int32)), (∀ v : Int32, aft4 v = some q → (some v : Option (Int32)).bind some = some q) → ∀ (n4 : Nat) (ls : Array Slot) (H : Heap) (locs : List Loc) (z4 : Int32 × Int32), lv_has ls 3 [(0, .ref (gg_o g k0)), (1, .int z4.1), (2, .int z4.2)] → HH wd_C g s S H locs → (iter (f_X0_brokenOnes_L4 k0 S ) n4 z4).bind aft4 = some q → W p l e rm_X0_brokenOnes s m args below meth c H locs 0 0 (MQ below (qc_i wd_C g S q) args s 0 0 (aw g)) (F0 m 4 ls []) := by
    intro aft4 hR4 n4
    induction n4 with
    | zero => intro ls H locs z4 hl hw hf; exact h_iter0 hf
    | succ n4 ih4 =>
      intro ls H locs z4 hl hw hf
      replace hf := h_iter hf
      unfold f_X0_brokenOnes_L4 at hf
      have J35 : ∀ (ls : Array Slot) (H : Heap) (locs : List Loc) (x2 : Int32) (y0 : Int32) (y1 : Int32), lv_has ls 3 [(0, .ref (gg_o g k0)), (2, .int x2)] → HH wd_C g s S H locs → (f_X0_brokenOnes_J35 k0 S x2 y0 y1).bind (it_K (f_X0_brokenOnes_L4 k0 S ) n4 aft4) = some q → W p l e rm_X0_brokenOnes s m args below meth c H locs 0 0 (MQ below (qc_i wd_C g S q) args s 0 0 (aw g)) (F0 m 35 ls [.int y0, .int y1]) := by
        intro ls H locs x2 y0 y1 hl hw hf
        unfold f_X0_brokenOnes_J35 at hf
        refine lv_ior hx hb dX0_brokenOnes_35 ?_
        refine lv_istore_n hx hb dX0_brokenOnes_36 rfl hl (by decide) (lv' := [(1, .int (y1 ||| y0)), (0, .ref (gg_o g k0)), (2, .int x2)]) rfl (fun ls hl => ?_)
        refine lv_iinc hx hb dX0_brokenOnes_37 hl (k := 2) rfl (congrArg (HAdd.hAdd _) (show Int32.ofInt (1) = 1 by decide)) (by decide) (lv' := [(2, .int (x2 + 1)), (1, .int (y1 ||| y0)), (0, .ref (gg_o g k0))]) rfl (fun ls hl => ?_)
        refine lv_goto hx hb dX0_brokenOnes_40 (tgt := 4) rfl ?_
        exact ih4 _ _ _ ((y1 ||| y0), (x2 + 1)) (lv_sub hl [2, 1, 0] rfl) hw hf
      refine lv_iload_n hx hb dX0_brokenOnes_4 rfl (lv_at hl 2 rfl) ?_
      refine lv_aload_n hx hb dX0_brokenOnes_5 rfl (lv_at hl 0 rfl) ?_
      obtain ⟨hc1, hf⟩ := h_chk hf
      refine gf_X0_33 cx hw hk0 dX0_brokenOnes_6 ?_
      refine gf_X0_76 cx hw ((allT_at hA hc1).1) dX0_brokenOnes_9 ?_
      refine lv_icmp_ge hx hb dX0_brokenOnes_12 (tgt := 43) rfl (fun hc2 => ?_) (fun hc2 => ?_)
      · replace hf := h_pos hc2 hf
        refine lv_iload_n hx hb dX0_brokenOnes_43 rfl (lv_at hl 1 rfl) ?_
        replace hf := hR4 z4.1 hf
        exact r_iret cx hw hr hlk hf dX0_brokenOnes_44
      replace hf := h_neg hc2 hf
      refine lv_iload_n hx hb dX0_brokenOnes_15 rfl (lv_at hl 1 rfl) ?_
      refine lv_aload_n hx hb dX0_brokenOnes_16 rfl (lv_at hl 0 rfl) ?_
      refine lv_iload_n hx hb dX0_brokenOnes_17 rfl (lv_at hl 2 rfl) ?_
      refine lv_aload_n hx hb dX0_brokenOnes_18 rfl (lv_at hl 0 rfl) ?_
      refine gf_X0_41 cx hw hk0 dX0_brokenOnes_19 ?_
      refine r_V_i (As := [.int z4.2, .int (st_I S (ky k0 1))]) (rest := [.int z4.1]) cx hw hf hk0.2.1 (by rw [hk0.1]; rfl) lk_X0_79 (fun q3 hq => k_X0_isBroken l g hg k0 hk0 hA S z4.2 (st_I S (ky k0 1)) q3 hq) ⟨⟨rfl, rfl⟩, Nat.le_of_ble_eq_true rfl, Nat.le_of_ble_eq_true rfl⟩ rfl hl.1 rfl (Nat.le_of_ble_eq_true rfl) dX0_brokenOnes_22 ⟨Nat.zero_le _, Nat.zero_le _⟩ (fun q3 H locs hw hf => ?_)
      refine lv_if_eq hx hb dX0_brokenOnes_25 (tgt := 34) rfl (fun hc4 => ?_) (fun hc4 => ?_)
      · replace hf := h_pos hc4 hf
        refine lv_iconst (v := 0) hx hb dX0_brokenOnes_34 (by decide) ?_
        exact J35 _ _ _ z4.2 (0 : Int32) z4.1 (lv_sub hl [0, 2] rfl) hw hf
      replace hf := h_neg hc4 hf
      refine lv_iconst (v := 1) hx hb dX0_brokenOnes_28 (by decide) ?_
      refine lv_iload_n hx hb dX0_brokenOnes_29 rfl (lv_at hl 2 rfl) ?_
      refine lv_ishl hx hb dX0_brokenOnes_30 ?_
      refine lv_goto hx hb dX0_brokenOnes_31 (tgt := 35) rfl ?_
      exact J35 _ _ _ z4.2 ((1 : Int32) <<< (z4.2 &&& 31)) z4.1 (lv_sub hl [0, 2] rfl) hw hf
  exact L4 some (fun v h => h) FU _ _ _ ((0 : Int32), (0 : Int32)) (lv_sub hl [2, 1, 0] rfl) hw hf
theorem dX0_showing_0 : decode cX0_showing 0 = .ok (.aload_n 0, 1) := by decide +kernel
theorem dX0_showing_1 : decode cX0_showing 1 = .ok (.iload_n 1, 1) := by decide +kernel
theorem dX0_showing_2 : decode cX0_showing 2 = .ok (.iload_n 2, 1) := by decide +kernel
theorem dX0_showing_3 : decode cX0_showing 3 = .ok (.invokevirtual 79, 3) := by decide +kernel
theorem dX0_showing_6 : decode cX0_showing 6 = .ok (.ifCond .eq 14, 3) := by decide +kernel
theorem dX0_showing_9 : decode cX0_showing 9 = .ok (.aload_n 0, 1) := by decide +kernel
theorem dX0_showing_10 : decode cX0_showing 10 = .ok (.getfield 30, 3) := by decide +kernel
theorem dX0_showing_13 : decode cX0_showing 13 = .ok (.iload_n 1, 1) := by decide +kernel
theorem dX0_showing_14 : decode cX0_showing 14 = .ok (.invokestatic 68, 3) := by decide +kernel
theorem dX0_showing_17 : decode cX0_showing 17 = .ok (.goto 11, 3) := by decide +kernel
theorem dX0_showing_20 : decode cX0_showing 20 = .ok (.iload_n 2, 1) := by decide +kernel
theorem dX0_showing_21 : decode cX0_showing 21 = .ok (.aload_n 0, 1) := by decide +kernel
theorem dX0_showing_22 : decode cX0_showing 22 = .ok (.iload_n 1, 1) := by decide +kernel
theorem dX0_showing_23 : decode cX0_showing 23 = .ok (.iload_n 2, 1) := by decide +kernel
theorem dX0_showing_24 : decode cX0_showing 24 = .ok (.invokevirtual 85, 3) := by decide +kernel
theorem dX0_showing_27 : decode cX0_showing 27 = .ok (.isub, 1) := by decide +kernel
theorem dX0_showing_28 : decode cX0_showing 28 = .ok (.istore_n 3, 1) := by decide +kernel
theorem dX0_showing_29 : decode cX0_showing 29 = .ok (.iload_n 3, 1) := by decide +kernel
theorem dX0_showing_30 : decode cX0_showing 30 = .ok (.ifCond .lt 21, 3) := by decide +kernel
theorem dX0_showing_33 : decode cX0_showing 33 = .ok (.aload_n 0, 1) := by decide +kernel
theorem dX0_showing_34 : decode cX0_showing 34 = .ok (.iload_n 1, 1) := by decide +kernel
theorem dX0_showing_35 : decode cX0_showing 35 = .ok (.iload_n 2, 1) := by decide +kernel
theorem dX0_showing_36 : decode cX0_showing 36 = .ok (.invokevirtual 89, 3) := by decide +kernel
theorem dX0_showing_39 : decode cX0_showing 39 = .ok (.ifCond .ne 12, 3) := by decide +kernel
theorem dX0_showing_42 : decode cX0_showing 42 = .ok (.aload_n 0, 1) := by decide +kernel
theorem dX0_showing_43 : decode cX0_showing 43 = .ok (.iload_n 1, 1) := by decide +kernel
theorem dX0_showing_44 : decode cX0_showing 44 = .ok (.iload_n 3, 1) := by decide +kernel
theorem dX0_showing_45 : decode cX0_showing 45 = .ok (.invokevirtual 89, 3) := by decide +kernel
theorem dX0_showing_48 : decode cX0_showing 48 = .ok (.ifCond .eq 6, 3) := by decide +kernel
theorem dX0_showing_51 : decode cX0_showing 51 = .ok (.bipush (-2), 2) := by decide +kernel
theorem dX0_showing_53 : decode cX0_showing 53 = .ok (.ireturn, 1) := by decide +kernel
theorem dX0_showing_54 : decode cX0_showing 54 = .ok (.iload_n 3, 1) := by decide +kernel
theorem dX0_showing_55 : decode cX0_showing 55 = .ok (.ireturn, 1) := by decide +kernel
abbrev rm_X0_showing : Room := { frames := 2, cells := 0, slots := 0, locals := 43 }
def f_X0_showing_J28 (k0 : Nat) (S : St) (x1 : Int32) (x2 : Int32) (y0 : Int32) : Option (Int32) :=
  if y0 < 0 then (some (-2 : Int32)) else ((f_X0_isTurned k0 S x1 x2).bind (fun (q5 : Int32) => if q5 = 0 then ((f_X0_isTurned k0 S x1 y0).bind (fun (q7 : Int32) => if q7 = 0 then (some y0) else (some (-2 : Int32)))) else (some (-2 : Int32))))
def f_X0_showing (k0 : Nat) (S : St) (x1 : Int32) (x2 : Int32) : Option (Int32) :=
  (f_X0_isBroken k0 S x1 x2).bind (fun (q1 : Int32) => if q1 = 0 then ((f_X0_lateOf k0 S x1 x2).bind (fun (q3 : Int32) => f_X0_showing_J28 k0 S x1 x2 (x2 - q3))) else ((f_X5_at (ky k0 8) S x1).bind (fun (q9 : Int32) => f_X0_showing_J28 k0 S x1 x2 q9)))
set_option maxRecDepth 100000 in
set_option maxHeartbeats 4000000 in
theorem k_X0_showing (l : Launch) (g : GG) (hg : gd wd_C g) (k0 : Nat) (hk0 : hs wd_C g k0 0) (hA : allT g) (S : St) (x1 : Int32) (x2 : Int32) (q : Int32) (hf : f_X0_showing k0 S x1 x2 = some q) : Met l yX0_showing (Cond.code yX0_showing cX0_showing 4 (some .int) :: gw_tbl) rm_X0_showing (va_Pc [.ref (gg_o g k0), .int x1, .int x2] (wI wd_C g S)) (qc_i wd_C g S q) 0 0 (aw g) := by
  refine mt_start (own := RX0) hg (by decide) rfl (Nat.le_of_ble_eq_true rfl) (fun p e s m args below meth c ls H locs cx hw hr hlk hl => ?_)
  have hx := cx.1
  have hb := cx.2.1
  have hown := cx.2.2.2.1
  have hts := cx.2.2.2.2.1
  have hl : lv_has ls 4 [(0, .ref (gg_o g k0)), (1, .int x1), (2, .int x2)] := hl
  replace hf := h_top hf
  unfold f_X0_showing at hf
  have J28 : ∀ (ls : Array Slot) (H : Heap) (locs : List Loc) (x1 : Int32) (x2 : Int32) (y0 : Int32), lv_has ls 4 [(0, .ref (gg_o g k0)), (1, .int x1), (2, .int x2)] → HH wd_C g s S H locs → (f_X0_showing_J28 k0 S x1 x2 y0).bind some = some q → W p l e rm_X0_showing s m args below meth c H locs 0 0 (MQ below (qc_i wd_C g S q) args s 0 0 (aw g)) (F0 m 28 ls [.int y0]) := by
    intro ls H locs x1 x2 y0 hl hw hf
    unfold f_X0_showing_J28 at hf
    refine lv_istore_n hx hb dX0_showing_28 rfl hl (by decide) (lv' := [(3, .int y0), (0, .ref (gg_o g k0)), (1, .int x1), (2, .int x2)]) rfl (fun ls hl => ?_)
    refine lv_iload_n hx hb dX0_showing_29 rfl (lv_at hl 0 rfl) ?_
    refine lv_if_lt hx hb dX0_showing_30 (tgt := 51) rfl (fun hc4 => ?_) (fun hc4 => ?_)
    · replace hf := h_pos hc4 hf
      refine lv_bipush (v := -2) hx hb dX0_showing_51 (by decide) ?_
      exact r_iret cx hw hr hlk hf dX0_showing_53
    replace hf := h_neg hc4 hf
    refine lv_aload_n hx hb dX0_showing_33 rfl (lv_at hl 1 rfl) ?_
    refine lv_iload_n hx hb dX0_showing_34 rfl (lv_at hl 2 rfl) ?_
    refine lv_iload_n hx hb dX0_showing_35 rfl (lv_at hl 3 rfl) ?_
    refine r_V_i (As := [.int x1, .int x2]) (rest := []) cx hw hf hk0.2.1 (by rw [hk0.1]; rfl) lk_X0_89 (fun q5 hq => k_X0_isTurned l g hg k0 hk0 hA S x1 x2 q5 hq) ⟨⟨rfl, rfl⟩, Nat.le_of_ble_eq_true rfl, Nat.le_of_ble_eq_true rfl⟩ rfl hl.1 rfl (Nat.le_of_ble_eq_true rfl) dX0_showing_36 ⟨Nat.zero_le _, Nat.zero_le _⟩ (fun q5 H locs hw hf => ?_)
    refine lv_if_ne hx hb dX0_showing_39 (tgt := 51) rfl (fun hc6 => ?_) (fun hc6 => ?_)
    · replace hf := h_neg hc6 hf
      refine lv_bipush (v := -2) hx hb dX0_showing_51 (by decide) ?_
      exact r_iret cx hw hr hlk hf dX0_showing_53
    replace hf := h_pos hc6 hf
    refine lv_aload_n hx hb dX0_showing_42 rfl (lv_at hl 1 rfl) ?_
    refine lv_iload_n hx hb dX0_showing_43 rfl (lv_at hl 2 rfl) ?_
    refine lv_iload_n hx hb dX0_showing_44 rfl (lv_at hl 0 rfl) ?_
    refine r_V_i (As := [.int x1, .int y0]) (rest := []) cx hw hf hk0.2.1 (by rw [hk0.1]; rfl) lk_X0_89 (fun q7 hq => k_X0_isTurned l g hg k0 hk0 hA S x1 y0 q7 hq) ⟨⟨rfl, rfl⟩, Nat.le_of_ble_eq_true rfl, Nat.le_of_ble_eq_true rfl⟩ rfl hl.1 rfl (Nat.le_of_ble_eq_true rfl) dX0_showing_45 ⟨Nat.zero_le _, Nat.zero_le _⟩ (fun q7 H locs hw hf => ?_)
    refine lv_if_eq hx hb dX0_showing_48 (tgt := 54) rfl (fun hc8 => ?_) (fun hc8 => ?_)
    · replace hf := h_pos hc8 hf
      refine lv_iload_n hx hb dX0_showing_54 rfl (lv_at hl 0 rfl) ?_
      exact r_iret cx hw hr hlk hf dX0_showing_55
    replace hf := h_neg hc8 hf
    refine lv_bipush (v := -2) hx hb dX0_showing_51 (by decide) ?_
    exact r_iret cx hw hr hlk hf dX0_showing_53
  refine lv_aload_n hx hb dX0_showing_0 rfl (lv_at hl 0 rfl) ?_
  refine lv_iload_n hx hb dX0_showing_1 rfl (lv_at hl 1 rfl) ?_
  refine lv_iload_n hx hb dX0_showing_2 rfl (lv_at hl 2 rfl) ?_
  refine r_V_i (As := [.int x1, .int x2]) (rest := []) cx hw hf hk0.2.1 (by rw [hk0.1]; rfl) lk_X0_79 (fun q1 hq => k_X0_isBroken l g hg k0 hk0 hA S x1 x2 q1 hq) ⟨⟨rfl, rfl⟩, Nat.le_of_ble_eq_true rfl, Nat.le_of_ble_eq_true rfl⟩ rfl hl.1 rfl (Nat.le_of_ble_eq_true rfl) dX0_showing_3 ⟨Nat.zero_le _, Nat.zero_le _⟩ (fun q1 H locs hw hf => ?_)
  refine lv_if_eq hx hb dX0_showing_6 (tgt := 20) rfl (fun hc2 => ?_) (fun hc2 => ?_)
  · replace hf := h_pos hc2 hf
    refine lv_iload_n hx hb dX0_showing_20 rfl (lv_at hl 2 rfl) ?_
    refine lv_aload_n hx hb dX0_showing_21 rfl (lv_at hl 0 rfl) ?_
    refine lv_iload_n hx hb dX0_showing_22 rfl (lv_at hl 1 rfl) ?_
    refine lv_iload_n hx hb dX0_showing_23 rfl (lv_at hl 2 rfl) ?_
    refine r_V_i (As := [.int x1, .int x2]) (rest := [.int x2]) cx hw hf hk0.2.1 (by rw [hk0.1]; rfl) lk_X0_85 (fun q3 hq => k_X0_lateOf l g hg k0 hk0 hA S x1 x2 q3 hq) ⟨⟨rfl, rfl⟩, Nat.le_of_ble_eq_true rfl, Nat.le_of_ble_eq_true rfl⟩ rfl hl.1 rfl (Nat.le_of_ble_eq_true rfl) dX0_showing_24 ⟨Nat.zero_le _, Nat.zero_le _⟩ (fun q3 H locs hw hf => ?_)
    refine lv_isub hx hb dX0_showing_27 ?_
    exact J28 _ _ _ x1 x2 (x2 - q3) (lv_sub hl [0, 1, 2] rfl) hw hf
  replace hf := h_neg hc2 hf
  refine lv_aload_n hx hb dX0_showing_9 rfl (lv_at hl 0 rfl) ?_
  refine gf_X0_30 cx hw hk0 dX0_showing_10 ?_
  refine lv_iload_n hx hb dX0_showing_13 rfl (lv_at hl 1 rfl) ?_
  refine r_SN_i (As := [.ref (gg_a g (ky k0 8)), .int x1]) (rest := []) cx hw hf (nw_at cx) lk_X0_68 (fun q9 hq => k_X5_at l g hg (ky k0 8) (hk0.2.2.1 8 rfl) S x1 q9 hq) ⟨⟨rfl, rfl⟩, Nat.le_of_ble_eq_true rfl, Nat.le_of_ble_eq_true rfl⟩ rfl hl.1 rfl (Nat.le_of_ble_eq_true rfl) dX0_showing_14 ⟨Nat.zero_le _, Nat.zero_le _⟩ (fun q9 H locs hw hf => ?_)
  refine lv_goto hx hb dX0_showing_17 (tgt := 28) rfl ?_
  exact J28 _ _ _ x1 x2 q9 (lv_sub hl [0, 1, 2] rfl) hw hf
theorem dX0_roomShown_0 : decode cX0_roomShown 0 = .ok (.aload_n 0, 1) := by decide +kernel
theorem dX0_roomShown_1 : decode cX0_roomShown 1 = .ok (.iload_n 1, 1) := by decide +kernel
theorem dX0_roomShown_2 : decode cX0_roomShown 2 = .ok (.iload_n 2, 1) := by decide +kernel
theorem dX0_roomShown_3 : decode cX0_roomShown 3 = .ok (.invokevirtual 92, 3) := by decide +kernel
theorem dX0_roomShown_6 : decode cX0_roomShown 6 = .ok (.istore_n 3, 1) := by decide +kernel
theorem dX0_roomShown_7 : decode cX0_roomShown 7 = .ok (.iload_n 3, 1) := by decide +kernel
theorem dX0_roomShown_8 : decode cX0_roomShown 8 = .ok (.ifCond .ge 8, 3) := by decide +kernel
theorem dX0_roomShown_11 : decode cX0_roomShown 11 = .ok (.bipush (-2), 2) := by decide +kernel
theorem dX0_roomShown_13 : decode cX0_roomShown 13 = .ok (.goto 9, 3) := by decide +kernel
theorem dX0_roomShown_16 : decode cX0_roomShown 16 = .ok (.aload_n 0, 1) := by decide +kernel
theorem dX0_roomShown_17 : decode cX0_roomShown 17 = .ok (.iload_n 1, 1) := by decide +kernel
theorem dX0_roomShown_18 : decode cX0_roomShown 18 = .ok (.iload_n 3, 1) := by decide +kernel
theorem dX0_roomShown_19 : decode cX0_roomShown 19 = .ok (.invokevirtual 95, 3) := by decide +kernel
theorem dX0_roomShown_22 : decode cX0_roomShown 22 = .ok (.ireturn, 1) := by decide +kernel
abbrev rm_X0_roomShown : Room := { frames := 3, cells := 0, slots := 0, locals := 66 }
def f_X0_roomShown (k0 : Nat) (S : St) (x1 : Int32) (x2 : Int32) : Option (Int32) :=
  (f_X0_showing k0 S x1 x2).bind (fun (q1 : Int32) => if 0 ≤ q1 then ((f_X0_hangOf k0 S x1 q1).bind (fun (q3 : Int32) => some q3)) else (some (-2 : Int32)))
set_option maxRecDepth 100000 in
set_option maxHeartbeats 4000000 in
theorem k_X0_roomShown (l : Launch) (g : GG) (hg : gd wd_C g) (k0 : Nat) (hk0 : hs wd_C g k0 0) (hA : allT g) (S : St) (x1 : Int32) (x2 : Int32) (q : Int32) (hf : f_X0_roomShown k0 S x1 x2 = some q) : Met l yX0_roomShown (Cond.code yX0_roomShown cX0_roomShown 4 (some .int) :: gw_tbl) rm_X0_roomShown (va_Pc [.ref (gg_o g k0), .int x1, .int x2] (wI wd_C g S)) (qc_i wd_C g S q) 0 0 (aw g) := by
  refine mt_start (own := RX0) hg (by decide) rfl (Nat.le_of_ble_eq_true rfl) (fun p e s m args below meth c ls H locs cx hw hr hlk hl => ?_)
  have hx := cx.1
  have hb := cx.2.1
  have hown := cx.2.2.2.1
  have hts := cx.2.2.2.2.1
  have hl : lv_has ls 4 [(0, .ref (gg_o g k0)), (1, .int x1), (2, .int x2)] := hl
  replace hf := h_top hf
  unfold f_X0_roomShown at hf
  refine lv_aload_n hx hb dX0_roomShown_0 rfl (lv_at hl 0 rfl) ?_
  refine lv_iload_n hx hb dX0_roomShown_1 rfl (lv_at hl 1 rfl) ?_
  refine lv_iload_n hx hb dX0_roomShown_2 rfl (lv_at hl 2 rfl) ?_
  refine r_V_i (As := [.int x1, .int x2]) (rest := []) cx hw hf hk0.2.1 (by rw [hk0.1]; rfl) lk_X0_92 (fun q1 hq => k_X0_showing l g hg k0 hk0 hA S x1 x2 q1 hq) ⟨⟨rfl, rfl⟩, Nat.le_of_ble_eq_true rfl, Nat.le_of_ble_eq_true rfl⟩ rfl hl.1 rfl (Nat.le_of_ble_eq_true rfl) dX0_roomShown_3 ⟨Nat.zero_le _, Nat.zero_le _⟩ (fun q1 H locs hw hf => ?_)
  refine lv_istore_n hx hb dX0_roomShown_6 rfl hl (by decide) (lv' := [(3, .int q1), (0, .ref (gg_o g k0)), (1, .int x1), (2, .int x2)]) rfl (fun ls hl => ?_)
  refine lv_iload_n hx hb dX0_roomShown_7 rfl (lv_at hl 0 rfl) ?_
  refine lv_if_ge hx hb dX0_roomShown_8 (tgt := 16) rfl (fun hc2 => ?_) (fun hc2 => ?_)
  · replace hf := h_pos hc2 hf
    refine lv_aload_n hx hb dX0_roomShown_16 rfl (lv_at hl 1 rfl) ?_
    refine lv_iload_n hx hb dX0_roomShown_17 rfl (lv_at hl 2 rfl) ?_
    refine lv_iload_n hx hb dX0_roomShown_18 rfl (lv_at hl 0 rfl) ?_
    refine r_V_i (As := [.int x1, .int q1]) (rest := []) cx hw hf hk0.2.1 (by rw [hk0.1]; rfl) lk_X0_95 (fun q3 hq => k_X0_hangOf l g hg k0 hk0 hA S x1 q1 q3 hq) ⟨⟨rfl, rfl⟩, Nat.le_of_ble_eq_true rfl, Nat.le_of_ble_eq_true rfl⟩ rfl hl.1 rfl (Nat.le_of_ble_eq_true rfl) dX0_roomShown_19 ⟨Nat.zero_le _, Nat.zero_le _⟩ (fun q3 H locs hw hf => ?_)
    exact r_iret cx hw hr hlk hf dX0_roomShown_22
  replace hf := h_neg hc2 hf
  refine lv_bipush (v := -2) hx hb dX0_roomShown_11 (by decide) ?_
  refine lv_goto hx hb dX0_roomShown_13 (tgt := 22) rfl ?_
  exact r_iret cx hw hr hlk hf dX0_roomShown_22
theorem dX0_menShown_0 : decode cX0_menShown 0 = .ok (.aload_n 0, 1) := by decide +kernel
theorem dX0_menShown_1 : decode cX0_menShown 1 = .ok (.iload_n 1, 1) := by decide +kernel
theorem dX0_menShown_2 : decode cX0_menShown 2 = .ok (.iload_n 2, 1) := by decide +kernel
theorem dX0_menShown_3 : decode cX0_menShown 3 = .ok (.invokevirtual 92, 3) := by decide +kernel
theorem dX0_menShown_6 : decode cX0_menShown 6 = .ok (.istore_n 3, 1) := by decide +kernel
theorem dX0_menShown_7 : decode cX0_menShown 7 = .ok (.iload_n 3, 1) := by decide +kernel
theorem dX0_menShown_8 : decode cX0_menShown 8 = .ok (.ifCond .ge 7, 3) := by decide +kernel
theorem dX0_menShown_11 : decode cX0_menShown 11 = .ok (.iconst 0, 1) := by decide +kernel
theorem dX0_menShown_12 : decode cX0_menShown 12 = .ok (.goto 14, 3) := by decide +kernel
theorem dX0_menShown_15 : decode cX0_menShown 15 = .ok (.aload_n 0, 1) := by decide +kernel
theorem dX0_menShown_16 : decode cX0_menShown 16 = .ok (.aload_n 0, 1) := by decide +kernel
theorem dX0_menShown_17 : decode cX0_menShown 17 = .ok (.iload_n 1, 1) := by decide +kernel
theorem dX0_menShown_18 : decode cX0_menShown 18 = .ok (.iload_n 3, 1) := by decide +kernel
theorem dX0_menShown_19 : decode cX0_menShown 19 = .ok (.invokevirtual 95, 3) := by decide +kernel
theorem dX0_menShown_22 : decode cX0_menShown 22 = .ok (.iload_n 3, 1) := by decide +kernel
theorem dX0_menShown_23 : decode cX0_menShown 23 = .ok (.invokevirtual 98, 3) := by decide +kernel
theorem dX0_menShown_26 : decode cX0_menShown 26 = .ok (.ireturn, 1) := by decide +kernel
abbrev rm_X0_menShown : Room := { frames := 3, cells := 0, slots := 0, locals := 66 }
def f_X0_menShown (k0 : Nat) (S : St) (x1 : Int32) (x2 : Int32) : Option (Int32) :=
  (f_X0_showing k0 S x1 x2).bind (fun (q1 : Int32) => if 0 ≤ q1 then ((f_X0_hangOf k0 S x1 q1).bind (fun (q3 : Int32) => (f_X0_menIn k0 S q3 q1).bind (fun (q4 : Int32) => some q4))) else (some (0 : Int32)))
set_option maxRecDepth 100000 in
set_option maxHeartbeats 4000000 in
theorem k_X0_menShown (l : Launch) (g : GG) (hg : gd wd_C g) (k0 : Nat) (hk0 : hs wd_C g k0 0) (hA : allT g) (S : St) (x1 : Int32) (x2 : Int32) (q : Int32) (hf : f_X0_menShown k0 S x1 x2 = some q) : Met l yX0_menShown (Cond.code yX0_menShown cX0_menShown 4 (some .int) :: gw_tbl) rm_X0_menShown (va_Pc [.ref (gg_o g k0), .int x1, .int x2] (wI wd_C g S)) (qc_i wd_C g S q) 0 0 (aw g) := by
  refine mt_start (own := RX0) hg (by decide) rfl (Nat.le_of_ble_eq_true rfl) (fun p e s m args below meth c ls H locs cx hw hr hlk hl => ?_)
  have hx := cx.1
  have hb := cx.2.1
  have hown := cx.2.2.2.1
  have hts := cx.2.2.2.2.1
  have hl : lv_has ls 4 [(0, .ref (gg_o g k0)), (1, .int x1), (2, .int x2)] := hl
  replace hf := h_top hf
  unfold f_X0_menShown at hf
  refine lv_aload_n hx hb dX0_menShown_0 rfl (lv_at hl 0 rfl) ?_
  refine lv_iload_n hx hb dX0_menShown_1 rfl (lv_at hl 1 rfl) ?_
  refine lv_iload_n hx hb dX0_menShown_2 rfl (lv_at hl 2 rfl) ?_
  refine r_V_i (As := [.int x1, .int x2]) (rest := []) cx hw hf hk0.2.1 (by rw [hk0.1]; rfl) lk_X0_92 (fun q1 hq => k_X0_showing l g hg k0 hk0 hA S x1 x2 q1 hq) ⟨⟨rfl, rfl⟩, Nat.le_of_ble_eq_true rfl, Nat.le_of_ble_eq_true rfl⟩ rfl hl.1 rfl (Nat.le_of_ble_eq_true rfl) dX0_menShown_3 ⟨Nat.zero_le _, Nat.zero_le _⟩ (fun q1 H locs hw hf => ?_)
  refine lv_istore_n hx hb dX0_menShown_6 rfl hl (by decide) (lv' := [(3, .int q1), (0, .ref (gg_o g k0)), (1, .int x1), (2, .int x2)]) rfl (fun ls hl => ?_)
  refine lv_iload_n hx hb dX0_menShown_7 rfl (lv_at hl 0 rfl) ?_
  refine lv_if_ge hx hb dX0_menShown_8 (tgt := 15) rfl (fun hc2 => ?_) (fun hc2 => ?_)
  · replace hf := h_pos hc2 hf
    refine lv_aload_n hx hb dX0_menShown_15 rfl (lv_at hl 1 rfl) ?_
    refine lv_aload_n hx hb dX0_menShown_16 rfl (lv_at hl 1 rfl) ?_
    refine lv_iload_n hx hb dX0_menShown_17 rfl (lv_at hl 2 rfl) ?_
    refine lv_iload_n hx hb dX0_menShown_18 rfl (lv_at hl 0 rfl) ?_
    refine r_V_i (As := [.int x1, .int q1]) (rest := [.ref (gg_o g k0)]) cx hw hf hk0.2.1 (by rw [hk0.1]; rfl) lk_X0_95 (fun q3 hq => k_X0_hangOf l g hg k0 hk0 hA S x1 q1 q3 hq) ⟨⟨rfl, rfl⟩, Nat.le_of_ble_eq_true rfl, Nat.le_of_ble_eq_true rfl⟩ rfl hl.1 rfl (Nat.le_of_ble_eq_true rfl) dX0_menShown_19 ⟨Nat.zero_le _, Nat.zero_le _⟩ (fun q3 H locs hw hf => ?_)
    refine lv_iload_n hx hb dX0_menShown_22 rfl (lv_at hl 0 rfl) ?_
    refine r_V_i (As := [.int q3, .int q1]) (rest := []) cx hw hf hk0.2.1 (by rw [hk0.1]; rfl) lk_X0_98 (fun q4 hq => k_X0_menIn l g hg k0 hk0 hA S q3 q1 q4 hq) ⟨⟨rfl, rfl⟩, Nat.le_of_ble_eq_true rfl, Nat.le_of_ble_eq_true rfl⟩ rfl hl.1 rfl (Nat.le_of_ble_eq_true rfl) dX0_menShown_23 ⟨Nat.zero_le _, Nat.zero_le _⟩ (fun q4 H locs hw hf => ?_)
    exact r_iret cx hw hr hlk hf dX0_menShown_26
  replace hf := h_neg hc2 hf
  refine lv_iconst (v := 0) hx hb dX0_menShown_11 (by decide) ?_
  refine lv_goto hx hb dX0_menShown_12 (tgt := 26) rfl ?_
  exact r_iret cx hw hr hlk hf dX0_menShown_26
theorem dX0_menShownIn_0 : decode cX0_menShownIn 0 = .ok (.iconst 0, 1) := by decide +kernel
theorem dX0_menShownIn_1 : decode cX0_menShownIn 1 = .ok (.istore_n 3, 1) := by decide +kernel
theorem dX0_menShownIn_2 : decode cX0_menShownIn 2 = .ok (.iconst 0, 1) := by decide +kernel
theorem dX0_menShownIn_3 : decode cX0_menShownIn 3 = .ok (.istore 4, 2) := by decide +kernel
theorem dX0_menShownIn_5 : decode cX0_menShownIn 5 = .ok (.iload 4, 2) := by decide +kernel
theorem dX0_menShownIn_7 : decode cX0_menShownIn 7 = .ok (.aload_n 0, 1) := by decide +kernel
theorem dX0_menShownIn_8 : decode cX0_menShownIn 8 = .ok (.getfield 33, 3) := by decide +kernel
theorem dX0_menShownIn_11 : decode cX0_menShownIn 11 = .ok (.getfield 76, 3) := by decide +kernel
theorem dX0_menShownIn_14 : decode cX0_menShownIn 14 = .ok (.if_icmp .ge 34, 3) := by decide +kernel
theorem dX0_menShownIn_17 : decode cX0_menShownIn 17 = .ok (.iload_n 3, 1) := by decide +kernel
theorem dX0_menShownIn_18 : decode cX0_menShownIn 18 = .ok (.aload_n 0, 1) := by decide +kernel
theorem dX0_menShownIn_19 : decode cX0_menShownIn 19 = .ok (.iload 4, 2) := by decide +kernel
theorem dX0_menShownIn_21 : decode cX0_menShownIn 21 = .ok (.iload_n 2, 1) := by decide +kernel
theorem dX0_menShownIn_22 : decode cX0_menShownIn 22 = .ok (.invokevirtual 95, 3) := by decide +kernel
theorem dX0_menShownIn_25 : decode cX0_menShownIn 25 = .ok (.iload_n 1, 1) := by decide +kernel
theorem dX0_menShownIn_26 : decode cX0_menShownIn 26 = .ok (.if_icmp .ne 13, 3) := by decide +kernel
theorem dX0_menShownIn_29 : decode cX0_menShownIn 29 = .ok (.aload_n 0, 1) := by decide +kernel
theorem dX0_menShownIn_30 : decode cX0_menShownIn 30 = .ok (.iload 4, 2) := by decide +kernel
theorem dX0_menShownIn_32 : decode cX0_menShownIn 32 = .ok (.iload_n 2, 1) := by decide +kernel
theorem dX0_menShownIn_33 : decode cX0_menShownIn 33 = .ok (.invokevirtual 101, 3) := by decide +kernel
theorem dX0_menShownIn_36 : decode cX0_menShownIn 36 = .ok (.goto 4, 3) := by decide +kernel
theorem dX0_menShownIn_39 : decode cX0_menShownIn 39 = .ok (.iconst 0, 1) := by decide +kernel
theorem dX0_menShownIn_40 : decode cX0_menShownIn 40 = .ok (.ior, 1) := by decide +kernel
theorem dX0_menShownIn_41 : decode cX0_menShownIn 41 = .ok (.istore_n 3, 1) := by decide +kernel
theorem dX0_menShownIn_42 : decode cX0_menShownIn 42 = .ok (.iinc 4 1, 3) := by decide +kernel
theorem dX0_menShownIn_45 : decode cX0_menShownIn 45 = .ok (.goto (-40), 3) := by decide +kernel
theorem dX0_menShownIn_48 : decode cX0_menShownIn 48 = .ok (.iload_n 3, 1) := by decide +kernel
theorem dX0_menShownIn_49 : decode cX0_menShownIn 49 = .ok (.ireturn, 1) := by decide +kernel
abbrev rm_X0_menShownIn : Room := { frames := 4, cells := 0, slots := 0, locals := 89 }
def f_X0_menShownIn_J40 (k0 : Nat) (S : St) (x1 : Int32) (x2 : Int32) (x4 : Int32) (y0 : Int32) (y1 : Int32) : Option ((Int32 × Int32) ⊕ (Int32)) :=
  some (.inl ((y1 ||| y0), (x4 + 1)))
def f_X0_menShownIn_L5 (k0 : Nat) (S : St) (x1 : Int32) (x2 : Int32) (z5 : Int32 × Int32) : Option ((Int32 × Int32) ⊕ (Int32)) :=
  chk (isT (st_P S (ky k0 0))) (if (st_I S (ky (st_P S (ky k0 0)) 3)) ≤ z5.2 then (some (.inr z5.1)) else ((f_X0_hangOf k0 S z5.2 x2).bind (fun (q3 : Int32) => if q3 = x1 then ((f_X0_menShown k0 S z5.2 x2).bind (fun (q5 : Int32) => f_X0_menShownIn_J40 k0 S x1 x2 z5.2 q5 z5.1)) else (f_X0_menShownIn_J40 k0 S x1 x2 z5.2 (0 : Int32) z5.1))))
def f_X0_menShownIn (k0 : Nat) (S : St) (x1 : Int32) (x2 : Int32) : Option (Int32) :=
  iter (f_X0_menShownIn_L5 k0 S x1 x2) FU ((0 : Int32), (0 : Int32))
set_option maxRecDepth 100000 in
set_option maxHeartbeats 4000000 in
theorem k_X0_menShownIn (l : Launch) (g : GG) (hg : gd wd_C g) (k0 : Nat) (hk0 : hs wd_C g k0 0) (hA : allT g) (S : St) (x1 : Int32) (x2 : Int32) (q : Int32) (hf : f_X0_menShownIn k0 S x1 x2 = some q) : Met l yX0_menShownIn (Cond.code yX0_menShownIn cX0_menShownIn 5 (some .int) :: gw_tbl) rm_X0_menShownIn (va_Pc [.ref (gg_o g k0), .int x1, .int x2] (wI wd_C g S)) (qc_i wd_C g S q) 0 0 (aw g) := by
  refine mt_start (own := RX0) hg (by decide) rfl (Nat.le_of_ble_eq_true rfl) (fun p e s m args below meth c ls H locs cx hw hr hlk hl => ?_)
  have hx := cx.1
  have hb := cx.2.1
  have hown := cx.2.2.2.1
  have hts := cx.2.2.2.2.1
  have hl : lv_has ls 5 [(0, .ref (gg_o g k0)), (1, .int x1), (2, .int x2)] := hl
  replace hf := h_top hf
  unfold f_X0_menShownIn at hf
  refine lv_iconst (v := 0) hx hb dX0_menShownIn_0 (by decide) ?_
  refine lv_istore_n hx hb dX0_menShownIn_1 rfl hl (by decide) (lv' := [(3, .int (0 : Int32)), (0, .ref (gg_o g k0)), (1, .int x1), (2, .int x2)]) rfl (fun ls hl => ?_)
  refine lv_iconst (v := 0) hx hb dX0_menShownIn_2 (by decide) ?_
  refine lv_istore hx hb dX0_menShownIn_3 hl (by decide) (lv' := [(4, .int (0 : Int32)), (3, .int (0 : Int32)), (0, .ref (gg_o g k0)), (1, .int x1), (2, .int x2)]) rfl (fun ls hl => ?_)
  have L5 : ∀ (x1 : Int32) (x2 : Int32) (aft5 : Int32 → Option (Int32)), (∀ v : Int32, aft5 v = some q → (some v : Option (Int32)).bind some = some q) → ∀ (n5 : Nat) (ls : Array Slot) (H : Heap) (locs : List Loc) (z5 : Int32 × Int32), lv_has ls 5 [(0, .ref (gg_o g k0)), (1, .int x1), (2, .int x2), (3, .int z5.1), (4, .int z5.2)] → HH wd_C g s S H locs → (iter (f_X0_menShownIn_L5 k0 S x1 x2) n5 z5).bind aft5 = some q → W p l e rm_X0_menShownIn s m args below meth c H locs 0 0 (MQ below (qc_i wd_C g S q) args s 0 0 (aw g)) (F0 m 5 ls []) := by
    intro x1 x2 aft5 hR5 n5
    induction n5 with
    | zero => intro ls H locs z5 hl hw hf; exact h_iter0 hf
    | succ n5 ih5 =>
      intro ls H locs z5 hl hw hf
      replace hf := h_iter hf
      unfold f_X0_menShownIn_L5 at hf
      have J40 : ∀ (ls : Array Slot) (H : Heap) (locs : List Loc) (x4 : Int32) (y0 : Int32) (y1 : Int32), lv_has ls 5 [(0, .ref (gg_o g k0)), (1, .int x1), (2, .int x2), (4, .int x4)] → HH wd_C g s S H locs → (f_X0_menShownIn_J40 k0 S x1 x2 x4 y0 y1).bind (it_K (f_X0_menShownIn_L5 k0 S x1 x2) n5 aft5) = some q → W p l e rm_X0_menShownIn s m args below meth c H locs 0 0 (MQ below (qc_i wd_C g S q) args s 0 0 (aw g)) (F0 m 40 ls [.int y0, .int y1]) := by
        intro ls H locs x4 y0 y1 hl hw hf
        unfold f_X0_menShownIn_J40 at hf
        refine lv_ior hx hb dX0_menShownIn_40 ?_
        refine lv_istore_n hx hb dX0_menShownIn_41 rfl hl (by decide) (lv' := [(3, .int (y1 ||| y0)), (0, .ref (gg_o g k0)), (1, .int x1), (2, .int x2), (4, .int x4)]) rfl (fun ls hl => ?_)
        refine lv_iinc hx hb dX0_menShownIn_42 hl (k := 4) rfl (congrArg (HAdd.hAdd _) (show Int32.ofInt (1) = 1 by decide)) (by decide) (lv' := [(4, .int (x4 + 1)), (3, .int (y1 ||| y0)), (0, .ref (gg_o g k0)), (1, .int x1), (2, .int x2)]) rfl (fun ls hl => ?_)
        refine lv_goto hx hb dX0_menShownIn_45 (tgt := 5) rfl ?_
        exact ih5 _ _ _ ((y1 ||| y0), (x4 + 1)) (lv_sub hl [2, 3, 4, 1, 0] rfl) hw hf
      refine lv_iload hx hb dX0_menShownIn_5 (lv_at hl 4 rfl) ?_
      refine lv_aload_n hx hb dX0_menShownIn_7 rfl (lv_at hl 0 rfl) ?_
      obtain ⟨hc1, hf⟩ := h_chk hf
      refine gf_X0_33 cx hw hk0 dX0_menShownIn_8 ?_
      refine gf_X0_76 cx hw ((allT_at hA hc1).1) dX0_menShownIn_11 ?_
      refine lv_icmp_ge hx hb dX0_menShownIn_14 (tgt := 48) rfl (fun hc2 => ?_) (fun hc2 => ?_)
      · replace hf := h_pos hc2 hf
        refine lv_iload_n hx hb dX0_menShownIn_48 rfl (lv_at hl 3 rfl) ?_
        replace hf := hR5 z5.1 hf
        exact r_iret cx hw hr hlk hf dX0_menShownIn_49
      replace hf := h_neg hc2 hf
      refine lv_iload_n hx hb dX0_menShownIn_17 rfl (lv_at hl 3 rfl) ?_
      refine lv_aload_n hx hb dX0_menShownIn_18 rfl (lv_at hl 0 rfl) ?_
      refine lv_iload hx hb dX0_menShownIn_19 (lv_at hl 4 rfl) ?_
      refine lv_iload_n hx hb dX0_menShownIn_21 rfl (lv_at hl 2 rfl) ?_
      refine r_V_i (As := [.int z5.2, .int x2]) (rest := [.int z5.1]) cx hw hf hk0.2.1 (by rw [hk0.1]; rfl) lk_X0_95 (fun q3 hq => k_X0_hangOf l g hg k0 hk0 hA S z5.2 x2 q3 hq) ⟨⟨rfl, rfl⟩, Nat.le_of_ble_eq_true rfl, Nat.le_of_ble_eq_true rfl⟩ rfl hl.1 rfl (Nat.le_of_ble_eq_true rfl) dX0_menShownIn_22 ⟨Nat.zero_le _, Nat.zero_le _⟩ (fun q3 H locs hw hf => ?_)
      refine lv_iload_n hx hb dX0_menShownIn_25 rfl (lv_at hl 1 rfl) ?_
      refine lv_icmp_ne hx hb dX0_menShownIn_26 (tgt := 39) rfl (fun hc4 => ?_) (fun hc4 => ?_)
      · replace hf := h_neg hc4 hf
        refine lv_iconst (v := 0) hx hb dX0_menShownIn_39 (by decide) ?_
        exact J40 _ _ _ z5.2 (0 : Int32) z5.1 (lv_sub hl [0, 1, 2, 4] rfl) hw hf
      replace hf := h_pos hc4 hf
      refine lv_aload_n hx hb dX0_menShownIn_29 rfl (lv_at hl 0 rfl) ?_
      refine lv_iload hx hb dX0_menShownIn_30 (lv_at hl 4 rfl) ?_
      refine lv_iload_n hx hb dX0_menShownIn_32 rfl (lv_at hl 2 rfl) ?_
      refine r_V_i (As := [.int z5.2, .int x2]) (rest := [.int z5.1]) cx hw hf hk0.2.1 (by rw [hk0.1]; rfl) lk_X0_101 (fun q5 hq => k_X0_menShown l g hg k0 hk0 hA S z5.2 x2 q5 hq) ⟨⟨rfl, rfl⟩, Nat.le_of_ble_eq_true rfl, Nat.le_of_ble_eq_true rfl⟩ rfl hl.1 rfl (Nat.le_of_ble_eq_true rfl) dX0_menShownIn_33 ⟨Nat.zero_le _, Nat.zero_le _⟩ (fun q5 H locs hw hf => ?_)
      refine lv_goto hx hb dX0_menShownIn_36 (tgt := 40) rfl ?_
      exact J40 _ _ _ z5.2 q5 z5.1 (lv_sub hl [0, 1, 2, 4] rfl) hw hf
  exact L5 x1 x2 some (fun v h => h) FU _ _ _ ((0 : Int32), (0 : Int32)) (lv_sub hl [2, 3, 4, 1, 0] rfl) hw hf
theorem dX0_seenIn_0 : decode cX0_seenIn 0 = .ok (.iload_n 2, 1) := by decide +kernel
theorem dX0_seenIn_1 : decode cX0_seenIn 1 = .ok (.ifCond .lt 19, 3) := by decide +kernel
theorem dX0_seenIn_4 : decode cX0_seenIn 4 = .ok (.iload_n 3, 1) := by decide +kernel
theorem dX0_seenIn_5 : decode cX0_seenIn 5 = .ok (.iload_n 1, 1) := by decide +kernel
theorem dX0_seenIn_6 : decode cX0_seenIn 6 = .ok (.if_icmp .eq 14, 3) := by decide +kernel
theorem dX0_seenIn_9 : decode cX0_seenIn 9 = .ok (.iload_n 3, 1) := by decide +kernel
theorem dX0_seenIn_10 : decode cX0_seenIn 10 = .ok (.aload_n 0, 1) := by decide +kernel
theorem dX0_seenIn_11 : decode cX0_seenIn 11 = .ok (.getfield 33, 3) := by decide +kernel
theorem dX0_seenIn_14 : decode cX0_seenIn 14 = .ok (.getfield 76, 3) := by decide +kernel
theorem dX0_seenIn_17 : decode cX0_seenIn 17 = .ok (.if_icmp .lt 6, 3) := by decide +kernel
theorem dX0_seenIn_20 : decode cX0_seenIn 20 = .ok (.bipush (-2), 2) := by decide +kernel
theorem dX0_seenIn_22 : decode cX0_seenIn 22 = .ok (.ireturn, 1) := by decide +kernel
theorem dX0_seenIn_23 : decode cX0_seenIn 23 = .ok (.aload_n 0, 1) := by decide +kernel
theorem dX0_seenIn_24 : decode cX0_seenIn 24 = .ok (.iload_n 3, 1) := by decide +kernel
theorem dX0_seenIn_25 : decode cX0_seenIn 25 = .ok (.iload_n 2, 1) := by decide +kernel
theorem dX0_seenIn_26 : decode cX0_seenIn 26 = .ok (.invokevirtual 95, 3) := by decide +kernel
theorem dX0_seenIn_29 : decode cX0_seenIn 29 = .ok (.aload_n 0, 1) := by decide +kernel
theorem dX0_seenIn_30 : decode cX0_seenIn 30 = .ok (.iload_n 1, 1) := by decide +kernel
theorem dX0_seenIn_31 : decode cX0_seenIn 31 = .ok (.iload_n 2, 1) := by decide +kernel
theorem dX0_seenIn_32 : decode cX0_seenIn 32 = .ok (.invokevirtual 95, 3) := by decide +kernel
theorem dX0_seenIn_35 : decode cX0_seenIn 35 = .ok (.if_icmp .eq 6, 3) := by decide +kernel
theorem dX0_seenIn_38 : decode cX0_seenIn 38 = .ok (.bipush (-2), 2) := by decide +kernel
theorem dX0_seenIn_40 : decode cX0_seenIn 40 = .ok (.ireturn, 1) := by decide +kernel
theorem dX0_seenIn_41 : decode cX0_seenIn 41 = .ok (.aload_n 0, 1) := by decide +kernel
theorem dX0_seenIn_42 : decode cX0_seenIn 42 = .ok (.iload_n 3, 1) := by decide +kernel
theorem dX0_seenIn_43 : decode cX0_seenIn 43 = .ok (.iload_n 2, 1) := by decide +kernel
theorem dX0_seenIn_44 : decode cX0_seenIn 44 = .ok (.invokevirtual 92, 3) := by decide +kernel
theorem dX0_seenIn_47 : decode cX0_seenIn 47 = .ok (.ireturn, 1) := by decide +kernel
abbrev rm_X0_seenIn : Room := { frames := 3, cells := 0, slots := 0, locals := 66 }
def f_X0_seenIn (k0 : Nat) (S : St) (x1 : Int32) (x2 : Int32) (x3 : Int32) : Option (Int32) :=
  if x2 < 0 then (some (-2 : Int32)) else (if x3 = x1 then (some (-2 : Int32)) else (chk (isT (st_P S (ky k0 0))) (if x3 < (st_I S (ky (st_P S (ky k0 0)) 3)) then ((f_X0_hangOf k0 S x3 x2).bind (fun (q5 : Int32) => (f_X0_hangOf k0 S x1 x2).bind (fun (q6 : Int32) => if q5 = q6 then ((f_X0_showing k0 S x3 x2).bind (fun (q8 : Int32) => some q8)) else (some (-2 : Int32))))) else (some (-2 : Int32)))))
set_option maxRecDepth 100000 in
set_option maxHeartbeats 4000000 in
theorem k_X0_seenIn (l : Launch) (g : GG) (hg : gd wd_C g) (k0 : Nat) (hk0 : hs wd_C g k0 0) (hA : allT g) (S : St) (x1 : Int32) (x2 : Int32) (x3 : Int32) (q : Int32) (hf : f_X0_seenIn k0 S x1 x2 x3 = some q) : Met l yX0_seenIn (Cond.code yX0_seenIn cX0_seenIn 4 (some .int) :: gw_tbl) rm_X0_seenIn (va_Pc [.ref (gg_o g k0), .int x1, .int x2, .int x3] (wI wd_C g S)) (qc_i wd_C g S q) 0 0 (aw g) := by
  refine mt_start (own := RX0) hg (by decide) rfl (Nat.le_of_ble_eq_true rfl) (fun p e s m args below meth c ls H locs cx hw hr hlk hl => ?_)
  have hx := cx.1
  have hb := cx.2.1
  have hown := cx.2.2.2.1
  have hts := cx.2.2.2.2.1
  have hl : lv_has ls 4 [(0, .ref (gg_o g k0)), (1, .int x1), (2, .int x2), (3, .int x3)] := hl
  replace hf := h_top hf
  unfold f_X0_seenIn at hf
  refine lv_iload_n hx hb dX0_seenIn_0 rfl (lv_at hl 2 rfl) ?_
  refine lv_if_lt hx hb dX0_seenIn_1 (tgt := 20) rfl (fun hc1 => ?_) (fun hc1 => ?_)
  · replace hf := h_pos hc1 hf
    refine lv_bipush (v := -2) hx hb dX0_seenIn_20 (by decide) ?_
    exact r_iret cx hw hr hlk hf dX0_seenIn_22
  replace hf := h_neg hc1 hf
  refine lv_iload_n hx hb dX0_seenIn_4 rfl (lv_at hl 3 rfl) ?_
  refine lv_iload_n hx hb dX0_seenIn_5 rfl (lv_at hl 1 rfl) ?_
  refine lv_icmp_eq hx hb dX0_seenIn_6 (tgt := 20) rfl (fun hc2 => ?_) (fun hc2 => ?_)
  · replace hf := h_pos hc2 hf
    refine lv_bipush (v := -2) hx hb dX0_seenIn_20 (by decide) ?_
    exact r_iret cx hw hr hlk hf dX0_seenIn_22
  replace hf := h_neg hc2 hf
  refine lv_iload_n hx hb dX0_seenIn_9 rfl (lv_at hl 3 rfl) ?_
  refine lv_aload_n hx hb dX0_seenIn_10 rfl (lv_at hl 0 rfl) ?_
  obtain ⟨hc3, hf⟩ := h_chk hf
  refine gf_X0_33 cx hw hk0 dX0_seenIn_11 ?_
  refine gf_X0_76 cx hw ((allT_at hA hc3).1) dX0_seenIn_14 ?_
  refine lv_icmp_lt hx hb dX0_seenIn_17 (tgt := 23) rfl (fun hc4 => ?_) (fun hc4 => ?_)
  · replace hf := h_pos hc4 hf
    refine lv_aload_n hx hb dX0_seenIn_23 rfl (lv_at hl 0 rfl) ?_
    refine lv_iload_n hx hb dX0_seenIn_24 rfl (lv_at hl 3 rfl) ?_
    refine lv_iload_n hx hb dX0_seenIn_25 rfl (lv_at hl 2 rfl) ?_
    refine r_V_i (As := [.int x3, .int x2]) (rest := []) cx hw hf hk0.2.1 (by rw [hk0.1]; rfl) lk_X0_95 (fun q5 hq => k_X0_hangOf l g hg k0 hk0 hA S x3 x2 q5 hq) ⟨⟨rfl, rfl⟩, Nat.le_of_ble_eq_true rfl, Nat.le_of_ble_eq_true rfl⟩ rfl hl.1 rfl (Nat.le_of_ble_eq_true rfl) dX0_seenIn_26 ⟨Nat.zero_le _, Nat.zero_le _⟩ (fun q5 H locs hw hf => ?_)
    refine lv_aload_n hx hb dX0_seenIn_29 rfl (lv_at hl 0 rfl) ?_
    refine lv_iload_n hx hb dX0_seenIn_30 rfl (lv_at hl 1 rfl) ?_
    refine lv_iload_n hx hb dX0_seenIn_31 rfl (lv_at hl 2 rfl) ?_
    refine r_V_i (As := [.int x1, .int x2]) (rest := [.int q5]) cx hw hf hk0.2.1 (by rw [hk0.1]; rfl) lk_X0_95 (fun q6 hq => k_X0_hangOf l g hg k0 hk0 hA S x1 x2 q6 hq) ⟨⟨rfl, rfl⟩, Nat.le_of_ble_eq_true rfl, Nat.le_of_ble_eq_true rfl⟩ rfl hl.1 rfl (Nat.le_of_ble_eq_true rfl) dX0_seenIn_32 ⟨Nat.zero_le _, Nat.zero_le _⟩ (fun q6 H locs hw hf => ?_)
    refine lv_icmp_eq hx hb dX0_seenIn_35 (tgt := 41) rfl (fun hc7 => ?_) (fun hc7 => ?_)
    · replace hf := h_pos hc7 hf
      refine lv_aload_n hx hb dX0_seenIn_41 rfl (lv_at hl 0 rfl) ?_
      refine lv_iload_n hx hb dX0_seenIn_42 rfl (lv_at hl 3 rfl) ?_
      refine lv_iload_n hx hb dX0_seenIn_43 rfl (lv_at hl 2 rfl) ?_
      refine r_V_i (As := [.int x3, .int x2]) (rest := []) cx hw hf hk0.2.1 (by rw [hk0.1]; rfl) lk_X0_92 (fun q8 hq => k_X0_showing l g hg k0 hk0 hA S x3 x2 q8 hq) ⟨⟨rfl, rfl⟩, Nat.le_of_ble_eq_true rfl, Nat.le_of_ble_eq_true rfl⟩ rfl hl.1 rfl (Nat.le_of_ble_eq_true rfl) dX0_seenIn_44 ⟨Nat.zero_le _, Nat.zero_le _⟩ (fun q8 H locs hw hf => ?_)
      exact r_iret cx hw hr hlk hf dX0_seenIn_47
    replace hf := h_neg hc7 hf
    refine lv_bipush (v := -2) hx hb dX0_seenIn_38 (by decide) ?_
    exact r_iret cx hw hr hlk hf dX0_seenIn_40
  replace hf := h_neg hc4 hf
  refine lv_bipush (v := -2) hx hb dX0_seenIn_20 (by decide) ?_
  exact r_iret cx hw hr hlk hf dX0_seenIn_22
theorem dX0_darkRooms_0 : decode cX0_darkRooms 0 = .ok (.sipush 255, 3) := by decide +kernel
theorem dX0_darkRooms_3 : decode cX0_darkRooms 3 = .ok (.istore_n 1, 1) := by decide +kernel
theorem dX0_darkRooms_4 : decode cX0_darkRooms 4 = .ok (.iconst 0, 1) := by decide +kernel
theorem dX0_darkRooms_5 : decode cX0_darkRooms 5 = .ok (.istore_n 2, 1) := by decide +kernel
theorem dX0_darkRooms_6 : decode cX0_darkRooms 6 = .ok (.iload_n 2, 1) := by decide +kernel
theorem dX0_darkRooms_7 : decode cX0_darkRooms 7 = .ok (.aload_n 0, 1) := by decide +kernel
theorem dX0_darkRooms_8 : decode cX0_darkRooms 8 = .ok (.getfield 33, 3) := by decide +kernel
theorem dX0_darkRooms_11 : decode cX0_darkRooms 11 = .ok (.getfield 76, 3) := by decide +kernel
theorem dX0_darkRooms_14 : decode cX0_darkRooms 14 = .ok (.if_icmp .ge 49, 3) := by decide +kernel
theorem dX0_darkRooms_17 : decode cX0_darkRooms 17 = .ok (.aload_n 0, 1) := by decide +kernel
theorem dX0_darkRooms_18 : decode cX0_darkRooms 18 = .ok (.iload_n 2, 1) := by decide +kernel
theorem dX0_darkRooms_19 : decode cX0_darkRooms 19 = .ok (.aload_n 0, 1) := by decide +kernel
theorem dX0_darkRooms_20 : decode cX0_darkRooms 20 = .ok (.getfield 41, 3) := by decide +kernel
theorem dX0_darkRooms_23 : decode cX0_darkRooms 23 = .ok (.invokevirtual 89, 3) := by decide +kernel
theorem dX0_darkRooms_26 : decode cX0_darkRooms 26 = .ok (.ifCond .ne 31, 3) := by decide +kernel
theorem dX0_darkRooms_29 : decode cX0_darkRooms 29 = .ok (.aload_n 0, 1) := by decide +kernel
theorem dX0_darkRooms_30 : decode cX0_darkRooms 30 = .ok (.iload_n 2, 1) := by decide +kernel
theorem dX0_darkRooms_31 : decode cX0_darkRooms 31 = .ok (.aload_n 0, 1) := by decide +kernel
theorem dX0_darkRooms_32 : decode cX0_darkRooms 32 = .ok (.getfield 41, 3) := by decide +kernel
theorem dX0_darkRooms_35 : decode cX0_darkRooms 35 = .ok (.invokevirtual 79, 3) := by decide +kernel
theorem dX0_darkRooms_38 : decode cX0_darkRooms 38 = .ok (.ifCond .ne 19, 3) := by decide +kernel
theorem dX0_darkRooms_41 : decode cX0_darkRooms 41 = .ok (.iload_n 1, 1) := by decide +kernel
theorem dX0_darkRooms_42 : decode cX0_darkRooms 42 = .ok (.iconst 1, 1) := by decide +kernel
theorem dX0_darkRooms_43 : decode cX0_darkRooms 43 = .ok (.aload_n 0, 1) := by decide +kernel
theorem dX0_darkRooms_44 : decode cX0_darkRooms 44 = .ok (.iload_n 2, 1) := by decide +kernel
theorem dX0_darkRooms_45 : decode cX0_darkRooms 45 = .ok (.aload_n 0, 1) := by decide +kernel
theorem dX0_darkRooms_46 : decode cX0_darkRooms 46 = .ok (.getfield 41, 3) := by decide +kernel
theorem dX0_darkRooms_49 : decode cX0_darkRooms 49 = .ok (.invokevirtual 95, 3) := by decide +kernel
theorem dX0_darkRooms_52 : decode cX0_darkRooms 52 = .ok (.ishl, 1) := by decide +kernel
theorem dX0_darkRooms_53 : decode cX0_darkRooms 53 = .ok (.iconst (-1), 1) := by decide +kernel
theorem dX0_darkRooms_54 : decode cX0_darkRooms 54 = .ok (.ixor, 1) := by decide +kernel
theorem dX0_darkRooms_55 : decode cX0_darkRooms 55 = .ok (.iand, 1) := by decide +kernel
theorem dX0_darkRooms_56 : decode cX0_darkRooms 56 = .ok (.istore_n 1, 1) := by decide +kernel
theorem dX0_darkRooms_57 : decode cX0_darkRooms 57 = .ok (.iinc 2 1, 3) := by decide +kernel
theorem dX0_darkRooms_60 : decode cX0_darkRooms 60 = .ok (.goto (-54), 3) := by decide +kernel
theorem dX0_darkRooms_63 : decode cX0_darkRooms 63 = .ok (.iload_n 1, 1) := by decide +kernel
theorem dX0_darkRooms_64 : decode cX0_darkRooms 64 = .ok (.ireturn, 1) := by decide +kernel
abbrev rm_X0_darkRooms : Room := { frames := 2, cells := 0, slots := 0, locals := 43 }
def f_X0_darkRooms_L6 (k0 : Nat) (S : St)  (z6 : Int32 × Int32) : Option ((Int32 × Int32) ⊕ (Int32)) :=
  chk (isT (st_P S (ky k0 0))) (if (st_I S (ky (st_P S (ky k0 0)) 3)) ≤ z6.2 then (some (.inr z6.1)) else ((f_X0_isTurned k0 S z6.2 (st_I S (ky k0 1))).bind (fun (q3 : Int32) => if q3 = 0 then ((f_X0_isBroken k0 S z6.2 (st_I S (ky k0 1))).bind (fun (q5 : Int32) => if q5 = 0 then ((f_X0_hangOf k0 S z6.2 (st_I S (ky k0 1))).bind (fun (q7 : Int32) => lt_v (z6.1 &&& (((1 : Int32) <<< (q7 &&& 31)) ^^^ (-1 : Int32))) (fun (u8 : Int32) => some (.inl (u8, (z6.2 + 1)))))) else (some (.inl (z6.1, (z6.2 + 1)))))) else (some (.inl (z6.1, (z6.2 + 1)))))))
def f_X0_darkRooms (k0 : Nat) (S : St)  : Option (Int32) :=
  iter (f_X0_darkRooms_L6 k0 S ) FU ((255 : Int32), (0 : Int32))
set_option maxRecDepth 100000 in
set_option maxHeartbeats 4000000 in
theorem k_X0_darkRooms (l : Launch) (g : GG) (hg : gd wd_C g) (k0 : Nat) (hk0 : hs wd_C g k0 0) (hA : allT g) (S : St)  (q : Int32) (hf : f_X0_darkRooms k0 S  = some q) : Met l yX0_darkRooms (Cond.code yX0_darkRooms cX0_darkRooms 3 (some .int) :: gw_tbl) rm_X0_darkRooms (va_Pc [.ref (gg_o g k0)] (wI wd_C g S)) (qc_i wd_C g S q) 0 0 (aw g) := by
  refine mt_start (own := RX0) hg (by decide) rfl (Nat.le_of_ble_eq_true rfl) (fun p e s m args below meth c ls H locs cx hw hr hlk hl => ?_)
  have hx := cx.1
  have hb := cx.2.1
  have hown := cx.2.2.2.1
  have hts := cx.2.2.2.2.1
  have hl : lv_has ls 3 [(0, .ref (gg_o g k0))] := hl
  replace hf := h_top hf
  unfold f_X0_darkRooms at hf
  refine lv_sipush (v := 255) hx hb dX0_darkRooms_0 (by decide) ?_
  refine lv_istore_n hx hb dX0_darkRooms_3 rfl hl (by decide) (lv' := [(1, .int (255 : Int32)), (0, .ref (gg_o g k0))]) rfl (fun ls hl => ?_)
  refine lv_iconst (v := 0) hx hb dX0_darkRooms_4 (by decide) ?_
  refine lv_istore_n hx hb dX0_darkRooms_5 rfl hl (by decide) (lv' := [(2, .int (0 : Int32)), (1, .int (255 : Int32)), (0, .ref (gg_o g k0))]) rfl (fun ls hl => ?_)
  have L6 : ∀  (aft6 : Int32 → Option (Int32)), (∀ v : Int32, aft6 v = some q → (some v : Option (Int32)).bind some = some q) → ∀ (n6 : Nat) (ls : Array Slot) (H : Heap) (locs : List Loc) (z6 : Int32 × Int32), lv_has ls 3 [(0, .ref (gg_o g k0)), (1, .int z6.1), (2, .int z6.2)] → HH wd_C g s S H locs → (iter (f_X0_darkRooms_L6 k0 S ) n6 z6).bind aft6 = some q → W p l e rm_X0_darkRooms s m args below meth c H locs 0 0 (MQ below (qc_i wd_C g S q) args s 0 0 (aw g)) (F0 m 6 ls []) := by
    intro aft6 hR6 n6
    induction n6 with
    | zero => intro ls H locs z6 hl hw hf; exact h_iter0 hf
    | succ n6 ih6 =>
      intro ls H locs z6 hl hw hf
      replace hf := h_iter hf
      unfold f_X0_darkRooms_L6 at hf
      refine lv_iload_n hx hb dX0_darkRooms_6 rfl (lv_at hl 2 rfl) ?_
      refine lv_aload_n hx hb dX0_darkRooms_7 rfl (lv_at hl 0 rfl) ?_
      obtain ⟨hc1, hf⟩ := h_chk hf
      refine gf_X0_33 cx hw hk0 dX0_darkRooms_8 ?_
      refine gf_X0_76 cx hw ((allT_at hA hc1).1) dX0_darkRooms_11 ?_
      refine lv_icmp_ge hx hb dX0_darkRooms_14 (tgt := 63) rfl (fun hc2 => ?_) (fun hc2 => ?_)
      · replace hf := h_pos hc2 hf
        refine lv_iload_n hx hb dX0_darkRooms_63 rfl (lv_at hl 1 rfl) ?_
        replace hf := hR6 z6.1 hf
        exact r_iret cx hw hr hlk hf dX0_darkRooms_64
      replace hf := h_neg hc2 hf
      refine lv_aload_n hx hb dX0_darkRooms_17 rfl (lv_at hl 0 rfl) ?_
      refine lv_iload_n hx hb dX0_darkRooms_18 rfl (lv_at hl 2 rfl) ?_
      refine lv_aload_n hx hb dX0_darkRooms_19 rfl (lv_at hl 0 rfl) ?_
      refine gf_X0_41 cx hw hk0 dX0_darkRooms_20 ?_
      refine r_V_i (As := [.int z6.2, .int (st_I S (ky k0 1))]) (rest := []) cx hw hf hk0.2.1 (by rw [hk0.1]; rfl) lk_X0_89 (fun q3 hq => k_X0_isTurned l g hg k0 hk0 hA S z6.2 (st_I S (ky k0 1)) q3 hq) ⟨⟨rfl, rfl⟩, Nat.le_of_ble_eq_true rfl, Nat.le_of_ble_eq_true rfl⟩ rfl hl.1 rfl (Nat.le_of_ble_eq_true rfl) dX0_darkRooms_23 ⟨Nat.zero_le _, Nat.zero_le _⟩ (fun q3 H locs hw hf => ?_)
      refine lv_if_ne hx hb dX0_darkRooms_26 (tgt := 57) rfl (fun hc4 => ?_) (fun hc4 => ?_)
      · replace hf := h_neg hc4 hf
        refine lv_iinc hx hb dX0_darkRooms_57 hl (k := 2) rfl (congrArg (HAdd.hAdd _) (show Int32.ofInt (1) = 1 by decide)) (by decide) (lv' := [(2, .int (z6.2 + 1)), (0, .ref (gg_o g k0)), (1, .int z6.1)]) rfl (fun ls hl => ?_)
        refine lv_goto hx hb dX0_darkRooms_60 (tgt := 6) rfl ?_
        exact ih6 _ _ _ (z6.1, (z6.2 + 1)) (lv_sub hl [1, 2, 0] rfl) hw hf
      replace hf := h_pos hc4 hf
      refine lv_aload_n hx hb dX0_darkRooms_29 rfl (lv_at hl 0 rfl) ?_
      refine lv_iload_n hx hb dX0_darkRooms_30 rfl (lv_at hl 2 rfl) ?_
      refine lv_aload_n hx hb dX0_darkRooms_31 rfl (lv_at hl 0 rfl) ?_
      refine gf_X0_41 cx hw hk0 dX0_darkRooms_32 ?_
      refine r_V_i (As := [.int z6.2, .int (st_I S (ky k0 1))]) (rest := []) cx hw hf hk0.2.1 (by rw [hk0.1]; rfl) lk_X0_79 (fun q5 hq => k_X0_isBroken l g hg k0 hk0 hA S z6.2 (st_I S (ky k0 1)) q5 hq) ⟨⟨rfl, rfl⟩, Nat.le_of_ble_eq_true rfl, Nat.le_of_ble_eq_true rfl⟩ rfl hl.1 rfl (Nat.le_of_ble_eq_true rfl) dX0_darkRooms_35 ⟨Nat.zero_le _, Nat.zero_le _⟩ (fun q5 H locs hw hf => ?_)
      refine lv_if_ne hx hb dX0_darkRooms_38 (tgt := 57) rfl (fun hc6 => ?_) (fun hc6 => ?_)
      · replace hf := h_neg hc6 hf
        refine lv_iinc hx hb dX0_darkRooms_57 hl (k := 2) rfl (congrArg (HAdd.hAdd _) (show Int32.ofInt (1) = 1 by decide)) (by decide) (lv' := [(2, .int (z6.2 + 1)), (0, .ref (gg_o g k0)), (1, .int z6.1)]) rfl (fun ls hl => ?_)
        refine lv_goto hx hb dX0_darkRooms_60 (tgt := 6) rfl ?_
        exact ih6 _ _ _ (z6.1, (z6.2 + 1)) (lv_sub hl [1, 2, 0] rfl) hw hf
      replace hf := h_pos hc6 hf
      refine lv_iload_n hx hb dX0_darkRooms_41 rfl (lv_at hl 1 rfl) ?_
      refine lv_iconst (v := 1) hx hb dX0_darkRooms_42 (by decide) ?_
      refine lv_aload_n hx hb dX0_darkRooms_43 rfl (lv_at hl 0 rfl) ?_
      refine lv_iload_n hx hb dX0_darkRooms_44 rfl (lv_at hl 2 rfl) ?_
      refine lv_aload_n hx hb dX0_darkRooms_45 rfl (lv_at hl 0 rfl) ?_
      refine gf_X0_41 cx hw hk0 dX0_darkRooms_46 ?_
      refine r_V_i (As := [.int z6.2, .int (st_I S (ky k0 1))]) (rest := [.int (1 : Int32), .int z6.1]) cx hw hf hk0.2.1 (by rw [hk0.1]; rfl) lk_X0_95 (fun q7 hq => k_X0_hangOf l g hg k0 hk0 hA S z6.2 (st_I S (ky k0 1)) q7 hq) ⟨⟨rfl, rfl⟩, Nat.le_of_ble_eq_true rfl, Nat.le_of_ble_eq_true rfl⟩ rfl hl.1 rfl (Nat.le_of_ble_eq_true rfl) dX0_darkRooms_49 ⟨Nat.zero_le _, Nat.zero_le _⟩ (fun q7 H locs hw hf => ?_)
      refine lv_ishl hx hb dX0_darkRooms_52 ?_
      refine lv_iconst (v := -1) hx hb dX0_darkRooms_53 (by decide) ?_
      refine lv_ixor hx hb dX0_darkRooms_54 ?_
      refine lv_iand hx hb dX0_darkRooms_55 ?_
      refine r_leti hf (fun u8 hf => ?_)
      refine lv_istore_n hx hb dX0_darkRooms_56 rfl hl (by decide) (lv' := [(1, .int u8), (0, .ref (gg_o g k0)), (2, .int z6.2)]) rfl (fun ls hl => ?_)
      refine lv_iinc hx hb dX0_darkRooms_57 hl (k := 2) rfl (congrArg (HAdd.hAdd _) (show Int32.ofInt (1) = 1 by decide)) (by decide) (lv' := [(2, .int (z6.2 + 1)), (1, .int u8), (0, .ref (gg_o g k0))]) rfl (fun ls hl => ?_)
      refine lv_goto hx hb dX0_darkRooms_60 (tgt := 6) rfl ?_
      exact ih6 _ _ _ (u8, (z6.2 + 1)) (lv_sub hl [2, 1, 0] rfl) hw hf
  exact L6 some (fun v h => h) FU _ _ _ ((255 : Int32), (0 : Int32)) (lv_sub hl [2, 1, 0] rfl) hw hf
theorem dX0_putMan_0 : decode cX0_putMan 0 = .ok (.aload_n 0, 1) := by decide +kernel
theorem dX0_putMan_1 : decode cX0_putMan 1 = .ok (.getfield 9, 3) := by decide +kernel
theorem dX0_putMan_4 : decode cX0_putMan 4 = .ok (.aload_n 0, 1) := by decide +kernel
theorem dX0_putMan_5 : decode cX0_putMan 5 = .ok (.getfield 41, 3) := by decide +kernel
theorem dX0_putMan_8 : decode cX0_putMan 8 = .ok (.bipush 6, 2) := by decide +kernel
theorem dX0_putMan_10 : decode cX0_putMan 10 = .ok (.imul, 1) := by decide +kernel
theorem dX0_putMan_11 : decode cX0_putMan 11 = .ok (.iload_n 1, 1) := by decide +kernel
theorem dX0_putMan_12 : decode cX0_putMan 12 = .ok (.iadd, 1) := by decide +kernel
theorem dX0_putMan_13 : decode cX0_putMan 13 = .ok (.iload_n 2, 1) := by decide +kernel
theorem dX0_putMan_14 : decode cX0_putMan 14 = .ok (.invokestatic 60, 3) := by decide +kernel
theorem dX0_putMan_17 : decode cX0_putMan 17 = .ok (.aload_n 0, 1) := by decide +kernel
theorem dX0_putMan_18 : decode cX0_putMan 18 = .ok (.invokevirtual 65, 3) := by decide +kernel
theorem dX0_putMan_21 : decode cX0_putMan 21 = .ok (.return_, 1) := by decide +kernel
abbrev rm_X0_putMan : Room := { frames := 4, cells := 0, slots := 0, locals := 104 }
def f_X0_putMan (k0 : Nat) (S : St) (x1 : Int32) (x2 : Int32) : Option (St) :=
  (f_X5_put (ky k0 2) S (((st_I S (ky k0 1)) * (6 : Int32)) + x1) x2).bind (fun (q1 : St) => (f_X0_setLates k0 q1 ).bind (fun (q2 : St) => some q2))
set_option maxRecDepth 100000 in
set_option maxHeartbeats 4000000 in
theorem k_X0_putMan (l : Launch) (g : GG) (hg : gd wd_C g) (k0 : Nat) (hk0 : hs wd_C g k0 0) (hA : allT g) (S : St) (x1 : Int32) (x2 : Int32) (q : St) (hf : f_X0_putMan k0 S x1 x2 = some q) : Met l yX0_putMan (Cond.code yX0_putMan cX0_putMan 3 none :: gw_tbl) rm_X0_putMan (va_Pc [.ref (gg_o g k0), .int x1, .int x2] (wI wd_C g S)) (qc_v wd_C g q) 0 0 (aw g) := by
  refine mt_start (own := RX0) hg (by decide) rfl (Nat.le_of_ble_eq_true rfl) (fun p e s m args below meth c ls H locs cx hw hr hlk hl => ?_)
  have hx := cx.1
  have hb := cx.2.1
  have hown := cx.2.2.2.1
  have hts := cx.2.2.2.2.1
  have hl : lv_has ls 3 [(0, .ref (gg_o g k0)), (1, .int x1), (2, .int x2)] := hl
  replace hf := h_top hf
  unfold f_X0_putMan at hf
  refine lv_aload_n hx hb dX0_putMan_0 rfl (lv_at hl 0 rfl) ?_
  refine gf_X0_9 cx hw hk0 dX0_putMan_1 ?_
  refine lv_aload_n hx hb dX0_putMan_4 rfl (lv_at hl 0 rfl) ?_
  refine gf_X0_41 cx hw hk0 dX0_putMan_5 ?_
  refine lv_bipush (v := 6) hx hb dX0_putMan_8 (by decide) ?_
  refine lv_imul hx hb dX0_putMan_10 ?_
  refine lv_iload_n hx hb dX0_putMan_11 rfl (lv_at hl 1 rfl) ?_
  refine lv_iadd hx hb dX0_putMan_12 ?_
  refine lv_iload_n hx hb dX0_putMan_13 rfl (lv_at hl 2 rfl) ?_
  refine r_SN_v (As := [.ref (gg_a g (ky k0 2)), .int (((st_I S (ky k0 1)) * (6 : Int32)) + x1), .int x2]) (rest := []) cx hw hf (nw_at cx) lk_X0_60 (fun q1 hq => k_X5_put l g hg (ky k0 2) (hk0.2.2.1 2 rfl) S (((st_I S (ky k0 1)) * (6 : Int32)) + x1) x2 q1 hq) ⟨⟨rfl, rfl⟩, Nat.le_of_ble_eq_true rfl, Nat.le_of_ble_eq_true rfl⟩ rfl hl.1 rfl (Nat.le_of_ble_eq_true rfl) dX0_putMan_14 ⟨Nat.zero_le _, Nat.zero_le _⟩ (fun q1 H locs hw hf => ?_)
  refine lv_aload_n hx hb dX0_putMan_17 rfl (lv_at hl 0 rfl) ?_
  refine r_V_v (As := []) (rest := []) cx hw hf hk0.2.1 (by rw [hk0.1]; rfl) lk_X0_65 (fun q2 hq => k_X0_setLates l g hg k0 hk0 hA q1  q2 hq) ⟨⟨rfl, rfl⟩, Nat.le_of_ble_eq_true rfl, Nat.le_of_ble_eq_true rfl⟩ rfl hl.1 rfl (Nat.le_of_ble_eq_true rfl) dX0_putMan_18 ⟨Nat.zero_le _, Nat.zero_le _⟩ (fun q2 H locs hw hf => ?_)
  exact r_vret cx hw hr hlk hf dX0_putMan_21
theorem dX0_putRank_0 : decode cX0_putRank 0 = .ok (.aload_n 0, 1) := by decide +kernel
theorem dX0_putRank_1 : decode cX0_putRank 1 = .ok (.getfield 15, 3) := by decide +kernel
theorem dX0_putRank_4 : decode cX0_putRank 4 = .ok (.aload_n 0, 1) := by decide +kernel
theorem dX0_putRank_5 : decode cX0_putRank 5 = .ok (.getfield 41, 3) := by decide +kernel
theorem dX0_putRank_8 : decode cX0_putRank 8 = .ok (.bipush 6, 2) := by decide +kernel
theorem dX0_putRank_10 : decode cX0_putRank 10 = .ok (.imul, 1) := by decide +kernel
theorem dX0_putRank_11 : decode cX0_putRank 11 = .ok (.iload_n 1, 1) := by decide +kernel
theorem dX0_putRank_12 : decode cX0_putRank 12 = .ok (.iadd, 1) := by decide +kernel
theorem dX0_putRank_13 : decode cX0_putRank 13 = .ok (.iload_n 2, 1) := by decide +kernel
theorem dX0_putRank_14 : decode cX0_putRank 14 = .ok (.invokestatic 60, 3) := by decide +kernel
theorem dX0_putRank_17 : decode cX0_putRank 17 = .ok (.aload_n 0, 1) := by decide +kernel
theorem dX0_putRank_18 : decode cX0_putRank 18 = .ok (.invokevirtual 65, 3) := by decide +kernel
theorem dX0_putRank_21 : decode cX0_putRank 21 = .ok (.return_, 1) := by decide +kernel
abbrev rm_X0_putRank : Room := { frames := 4, cells := 0, slots := 0, locals := 104 }
def f_X0_putRank (k0 : Nat) (S : St) (x1 : Int32) (x2 : Int32) : Option (St) :=
  (f_X5_put (ky k0 3) S (((st_I S (ky k0 1)) * (6 : Int32)) + x1) x2).bind (fun (q1 : St) => (f_X0_setLates k0 q1 ).bind (fun (q2 : St) => some q2))
set_option maxRecDepth 100000 in
set_option maxHeartbeats 4000000 in
theorem k_X0_putRank (l : Launch) (g : GG) (hg : gd wd_C g) (k0 : Nat) (hk0 : hs wd_C g k0 0) (hA : allT g) (S : St) (x1 : Int32) (x2 : Int32) (q : St) (hf : f_X0_putRank k0 S x1 x2 = some q) : Met l yX0_putRank (Cond.code yX0_putRank cX0_putRank 3 none :: gw_tbl) rm_X0_putRank (va_Pc [.ref (gg_o g k0), .int x1, .int x2] (wI wd_C g S)) (qc_v wd_C g q) 0 0 (aw g) := by
  refine mt_start (own := RX0) hg (by decide) rfl (Nat.le_of_ble_eq_true rfl) (fun p e s m args below meth c ls H locs cx hw hr hlk hl => ?_)
  have hx := cx.1
  have hb := cx.2.1
  have hown := cx.2.2.2.1
  have hts := cx.2.2.2.2.1
  have hl : lv_has ls 3 [(0, .ref (gg_o g k0)), (1, .int x1), (2, .int x2)] := hl
  replace hf := h_top hf
  unfold f_X0_putRank at hf
  refine lv_aload_n hx hb dX0_putRank_0 rfl (lv_at hl 0 rfl) ?_
  refine gf_X0_15 cx hw hk0 dX0_putRank_1 ?_
  refine lv_aload_n hx hb dX0_putRank_4 rfl (lv_at hl 0 rfl) ?_
  refine gf_X0_41 cx hw hk0 dX0_putRank_5 ?_
  refine lv_bipush (v := 6) hx hb dX0_putRank_8 (by decide) ?_
  refine lv_imul hx hb dX0_putRank_10 ?_
  refine lv_iload_n hx hb dX0_putRank_11 rfl (lv_at hl 1 rfl) ?_
  refine lv_iadd hx hb dX0_putRank_12 ?_
  refine lv_iload_n hx hb dX0_putRank_13 rfl (lv_at hl 2 rfl) ?_
  refine r_SN_v (As := [.ref (gg_a g (ky k0 3)), .int (((st_I S (ky k0 1)) * (6 : Int32)) + x1), .int x2]) (rest := []) cx hw hf (nw_at cx) lk_X0_60 (fun q1 hq => k_X5_put l g hg (ky k0 3) (hk0.2.2.1 3 rfl) S (((st_I S (ky k0 1)) * (6 : Int32)) + x1) x2 q1 hq) ⟨⟨rfl, rfl⟩, Nat.le_of_ble_eq_true rfl, Nat.le_of_ble_eq_true rfl⟩ rfl hl.1 rfl (Nat.le_of_ble_eq_true rfl) dX0_putRank_14 ⟨Nat.zero_le _, Nat.zero_le _⟩ (fun q1 H locs hw hf => ?_)
  refine lv_aload_n hx hb dX0_putRank_17 rfl (lv_at hl 0 rfl) ?_
  refine r_V_v (As := []) (rest := []) cx hw hf hk0.2.1 (by rw [hk0.1]; rfl) lk_X0_65 (fun q2 hq => k_X0_setLates l g hg k0 hk0 hA q1  q2 hq) ⟨⟨rfl, rfl⟩, Nat.le_of_ble_eq_true rfl, Nat.le_of_ble_eq_true rfl⟩ rfl hl.1 rfl (Nat.le_of_ble_eq_true rfl) dX0_putRank_18 ⟨Nat.zero_le _, Nat.zero_le _⟩ (fun q2 H locs hw hf => ?_)
  exact r_vret cx hw hr hlk hf dX0_putRank_21
theorem dX0_putMirror_0 : decode cX0_putMirror 0 = .ok (.aload_n 0, 1) := by decide +kernel
theorem dX0_putMirror_1 : decode cX0_putMirror 1 = .ok (.getfield 18, 3) := by decide +kernel
theorem dX0_putMirror_4 : decode cX0_putMirror 4 = .ok (.aload_n 0, 1) := by decide +kernel
theorem dX0_putMirror_5 : decode cX0_putMirror 5 = .ok (.getfield 41, 3) := by decide +kernel
theorem dX0_putMirror_8 : decode cX0_putMirror 8 = .ok (.bipush 8, 2) := by decide +kernel
theorem dX0_putMirror_10 : decode cX0_putMirror 10 = .ok (.imul, 1) := by decide +kernel
theorem dX0_putMirror_11 : decode cX0_putMirror 11 = .ok (.iload_n 1, 1) := by decide +kernel
theorem dX0_putMirror_12 : decode cX0_putMirror 12 = .ok (.iadd, 1) := by decide +kernel
theorem dX0_putMirror_13 : decode cX0_putMirror 13 = .ok (.iload_n 2, 1) := by decide +kernel
theorem dX0_putMirror_14 : decode cX0_putMirror 14 = .ok (.invokestatic 60, 3) := by decide +kernel
theorem dX0_putMirror_17 : decode cX0_putMirror 17 = .ok (.aload_n 0, 1) := by decide +kernel
theorem dX0_putMirror_18 : decode cX0_putMirror 18 = .ok (.invokevirtual 65, 3) := by decide +kernel
theorem dX0_putMirror_21 : decode cX0_putMirror 21 = .ok (.return_, 1) := by decide +kernel
abbrev rm_X0_putMirror : Room := { frames := 4, cells := 0, slots := 0, locals := 104 }
def f_X0_putMirror (k0 : Nat) (S : St) (x1 : Int32) (x2 : Int32) : Option (St) :=
  (f_X5_put (ky k0 4) S (((st_I S (ky k0 1)) * (8 : Int32)) + x1) x2).bind (fun (q1 : St) => (f_X0_setLates k0 q1 ).bind (fun (q2 : St) => some q2))
set_option maxRecDepth 100000 in
set_option maxHeartbeats 4000000 in
theorem k_X0_putMirror (l : Launch) (g : GG) (hg : gd wd_C g) (k0 : Nat) (hk0 : hs wd_C g k0 0) (hA : allT g) (S : St) (x1 : Int32) (x2 : Int32) (q : St) (hf : f_X0_putMirror k0 S x1 x2 = some q) : Met l yX0_putMirror (Cond.code yX0_putMirror cX0_putMirror 3 none :: gw_tbl) rm_X0_putMirror (va_Pc [.ref (gg_o g k0), .int x1, .int x2] (wI wd_C g S)) (qc_v wd_C g q) 0 0 (aw g) := by
  refine mt_start (own := RX0) hg (by decide) rfl (Nat.le_of_ble_eq_true rfl) (fun p e s m args below meth c ls H locs cx hw hr hlk hl => ?_)
  have hx := cx.1
  have hb := cx.2.1
  have hown := cx.2.2.2.1
  have hts := cx.2.2.2.2.1
  have hl : lv_has ls 3 [(0, .ref (gg_o g k0)), (1, .int x1), (2, .int x2)] := hl
  replace hf := h_top hf
  unfold f_X0_putMirror at hf
  refine lv_aload_n hx hb dX0_putMirror_0 rfl (lv_at hl 0 rfl) ?_
  refine gf_X0_18 cx hw hk0 dX0_putMirror_1 ?_
  refine lv_aload_n hx hb dX0_putMirror_4 rfl (lv_at hl 0 rfl) ?_
  refine gf_X0_41 cx hw hk0 dX0_putMirror_5 ?_
  refine lv_bipush (v := 8) hx hb dX0_putMirror_8 (by decide) ?_
  refine lv_imul hx hb dX0_putMirror_10 ?_
  refine lv_iload_n hx hb dX0_putMirror_11 rfl (lv_at hl 1 rfl) ?_
  refine lv_iadd hx hb dX0_putMirror_12 ?_
  refine lv_iload_n hx hb dX0_putMirror_13 rfl (lv_at hl 2 rfl) ?_
  refine r_SN_v (As := [.ref (gg_a g (ky k0 4)), .int (((st_I S (ky k0 1)) * (8 : Int32)) + x1), .int x2]) (rest := []) cx hw hf (nw_at cx) lk_X0_60 (fun q1 hq => k_X5_put l g hg (ky k0 4) (hk0.2.2.1 4 rfl) S (((st_I S (ky k0 1)) * (8 : Int32)) + x1) x2 q1 hq) ⟨⟨rfl, rfl⟩, Nat.le_of_ble_eq_true rfl, Nat.le_of_ble_eq_true rfl⟩ rfl hl.1 rfl (Nat.le_of_ble_eq_true rfl) dX0_putMirror_14 ⟨Nat.zero_le _, Nat.zero_le _⟩ (fun q1 H locs hw hf => ?_)
  refine lv_aload_n hx hb dX0_putMirror_17 rfl (lv_at hl 0 rfl) ?_
  refine r_V_v (As := []) (rest := []) cx hw hf hk0.2.1 (by rw [hk0.1]; rfl) lk_X0_65 (fun q2 hq => k_X0_setLates l g hg k0 hk0 hA q1  q2 hq) ⟨⟨rfl, rfl⟩, Nat.le_of_ble_eq_true rfl, Nat.le_of_ble_eq_true rfl⟩ rfl hl.1 rfl (Nat.le_of_ble_eq_true rfl) dX0_putMirror_18 ⟨Nat.zero_le _, Nat.zero_le _⟩ (fun q2 H locs hw hf => ?_)
  exact r_vret cx hw hr hlk hf dX0_putMirror_21
theorem dX0_putWall_0 : decode cX0_putWall 0 = .ok (.aload_n 0, 1) := by decide +kernel
theorem dX0_putWall_1 : decode cX0_putWall 1 = .ok (.getfield 24, 3) := by decide +kernel
theorem dX0_putWall_4 : decode cX0_putWall 4 = .ok (.aload_n 0, 1) := by decide +kernel
theorem dX0_putWall_5 : decode cX0_putWall 5 = .ok (.getfield 41, 3) := by decide +kernel
theorem dX0_putWall_8 : decode cX0_putWall 8 = .ok (.invokestatic 68, 3) := by decide +kernel
theorem dX0_putWall_11 : decode cX0_putWall 11 = .ok (.iconst 1, 1) := by decide +kernel
theorem dX0_putWall_12 : decode cX0_putWall 12 = .ok (.iload_n 1, 1) := by decide +kernel
theorem dX0_putWall_13 : decode cX0_putWall 13 = .ok (.ishl, 1) := by decide +kernel
theorem dX0_putWall_14 : decode cX0_putWall 14 = .ok (.iconst (-1), 1) := by decide +kernel
theorem dX0_putWall_15 : decode cX0_putWall 15 = .ok (.ixor, 1) := by decide +kernel
theorem dX0_putWall_16 : decode cX0_putWall 16 = .ok (.iand, 1) := by decide +kernel
theorem dX0_putWall_17 : decode cX0_putWall 17 = .ok (.istore_n 3, 1) := by decide +kernel
theorem dX0_putWall_18 : decode cX0_putWall 18 = .ok (.aload_n 0, 1) := by decide +kernel
theorem dX0_putWall_19 : decode cX0_putWall 19 = .ok (.getfield 24, 3) := by decide +kernel
theorem dX0_putWall_22 : decode cX0_putWall 22 = .ok (.aload_n 0, 1) := by decide +kernel
theorem dX0_putWall_23 : decode cX0_putWall 23 = .ok (.getfield 41, 3) := by decide +kernel
theorem dX0_putWall_26 : decode cX0_putWall 26 = .ok (.iload_n 3, 1) := by decide +kernel
theorem dX0_putWall_27 : decode cX0_putWall 27 = .ok (.iload_n 2, 1) := by decide +kernel
theorem dX0_putWall_28 : decode cX0_putWall 28 = .ok (.ifCond .eq 9, 3) := by decide +kernel
theorem dX0_putWall_31 : decode cX0_putWall 31 = .ok (.iconst 1, 1) := by decide +kernel
theorem dX0_putWall_32 : decode cX0_putWall 32 = .ok (.iload_n 1, 1) := by decide +kernel
theorem dX0_putWall_33 : decode cX0_putWall 33 = .ok (.ishl, 1) := by decide +kernel
theorem dX0_putWall_34 : decode cX0_putWall 34 = .ok (.goto 4, 3) := by decide +kernel
theorem dX0_putWall_37 : decode cX0_putWall 37 = .ok (.iconst 0, 1) := by decide +kernel
theorem dX0_putWall_38 : decode cX0_putWall 38 = .ok (.ior, 1) := by decide +kernel
theorem dX0_putWall_39 : decode cX0_putWall 39 = .ok (.invokestatic 60, 3) := by decide +kernel
theorem dX0_putWall_42 : decode cX0_putWall 42 = .ok (.return_, 1) := by decide +kernel
abbrev rm_X0_putWall : Room := { frames := 1, cells := 0, slots := 0, locals := 22 }
def f_X0_putWall_J38 (k0 : Nat) (S : St) (y0 : Int32) (y1 : Int32) (y2 : Int32) : Option (St) :=
  (f_X5_put (ky k0 6) S y2 (y1 ||| y0)).bind (fun (q4 : St) => some q4)
def f_X0_putWall (k0 : Nat) (S : St) (x1 : Int32) (x2 : Int32) : Option (St) :=
  (f_X5_at (ky k0 6) S (st_I S (ky k0 1))).bind (fun (q1 : Int32) => lt_v (q1 &&& (((1 : Int32) <<< (x1 &&& 31)) ^^^ (-1 : Int32))) (fun (u2 : Int32) => if x2 = 0 then (f_X0_putWall_J38 k0 S (0 : Int32) u2 (st_I S (ky k0 1))) else (f_X0_putWall_J38 k0 S ((1 : Int32) <<< (x1 &&& 31)) u2 (st_I S (ky k0 1)))))
set_option maxRecDepth 100000 in
set_option maxHeartbeats 4000000 in
theorem k_X0_putWall (l : Launch) (g : GG) (hg : gd wd_C g) (k0 : Nat) (hk0 : hs wd_C g k0 0) (hA : allT g) (S : St) (x1 : Int32) (x2 : Int32) (q : St) (hf : f_X0_putWall k0 S x1 x2 = some q) : Met l yX0_putWall (Cond.code yX0_putWall cX0_putWall 4 none :: gw_tbl) rm_X0_putWall (va_Pc [.ref (gg_o g k0), .int x1, .int x2] (wI wd_C g S)) (qc_v wd_C g q) 0 0 (aw g) := by
  refine mt_start (own := RX0) hg (by decide) rfl (Nat.le_of_ble_eq_true rfl) (fun p e s m args below meth c ls H locs cx hw hr hlk hl => ?_)
  have hx := cx.1
  have hb := cx.2.1
  have hown := cx.2.2.2.1
  have hts := cx.2.2.2.2.1
  have hl : lv_has ls 4 [(0, .ref (gg_o g k0)), (1, .int x1), (2, .int x2)] := hl
  replace hf := h_top hf
  unfold f_X0_putWall at hf
  have J38 : ∀ (ls : Array Slot) (H : Heap) (locs : List Loc) (S : St) (y0 : Int32) (y1 : Int32) (y2 : Int32), lv_has ls 4 [] → HH wd_C g s S H locs → (f_X0_putWall_J38 k0 S y0 y1 y2).bind some = some q → W p l e rm_X0_putWall s m args below meth c H locs 0 0 (MQ below (qc_v wd_C g q) args s 0 0 (aw g)) (F0 m 38 ls [.int y0, .int y1, .int y2, .ref (gg_a g (ky k0 6))]) := by
    intro ls H locs S y0 y1 y2 hl hw hf
    unfold f_X0_putWall_J38 at hf
    refine lv_ior hx hb dX0_putWall_38 ?_
    refine r_SN_v (As := [.ref (gg_a g (ky k0 6)), .int y2, .int (y1 ||| y0)]) (rest := []) cx hw hf (nw_at cx) lk_X0_60 (fun q4 hq => k_X5_put l g hg (ky k0 6) (hk0.2.2.1 6 rfl) S y2 (y1 ||| y0) q4 hq) ⟨⟨rfl, rfl⟩, Nat.le_of_ble_eq_true rfl, Nat.le_of_ble_eq_true rfl⟩ rfl hl.1 rfl (Nat.le_of_ble_eq_true rfl) dX0_putWall_39 ⟨Nat.zero_le _, Nat.zero_le _⟩ (fun q4 H locs hw hf => ?_)
    exact r_vret cx hw hr hlk hf dX0_putWall_42
  refine lv_aload_n hx hb dX0_putWall_0 rfl (lv_at hl 0 rfl) ?_
  refine gf_X0_24 cx hw hk0 dX0_putWall_1 ?_
  refine lv_aload_n hx hb dX0_putWall_4 rfl (lv_at hl 0 rfl) ?_
  refine gf_X0_41 cx hw hk0 dX0_putWall_5 ?_
  refine r_SN_i (As := [.ref (gg_a g (ky k0 6)), .int (st_I S (ky k0 1))]) (rest := []) cx hw hf (nw_at cx) lk_X0_68 (fun q1 hq => k_X5_at l g hg (ky k0 6) (hk0.2.2.1 6 rfl) S (st_I S (ky k0 1)) q1 hq) ⟨⟨rfl, rfl⟩, Nat.le_of_ble_eq_true rfl, Nat.le_of_ble_eq_true rfl⟩ rfl hl.1 rfl (Nat.le_of_ble_eq_true rfl) dX0_putWall_8 ⟨Nat.zero_le _, Nat.zero_le _⟩ (fun q1 H locs hw hf => ?_)
  refine lv_iconst (v := 1) hx hb dX0_putWall_11 (by decide) ?_
  refine lv_iload_n hx hb dX0_putWall_12 rfl (lv_at hl 1 rfl) ?_
  refine lv_ishl hx hb dX0_putWall_13 ?_
  refine lv_iconst (v := -1) hx hb dX0_putWall_14 (by decide) ?_
  refine lv_ixor hx hb dX0_putWall_15 ?_
  refine lv_iand hx hb dX0_putWall_16 ?_
  refine r_leti hf (fun u2 hf => ?_)
  refine lv_istore_n hx hb dX0_putWall_17 rfl hl (by decide) (lv' := [(3, .int u2), (0, .ref (gg_o g k0)), (1, .int x1), (2, .int x2)]) rfl (fun ls hl => ?_)
  refine lv_aload_n hx hb dX0_putWall_18 rfl (lv_at hl 1 rfl) ?_
  refine gf_X0_24 cx hw hk0 dX0_putWall_19 ?_
  refine lv_aload_n hx hb dX0_putWall_22 rfl (lv_at hl 1 rfl) ?_
  refine gf_X0_41 cx hw hk0 dX0_putWall_23 ?_
  refine lv_iload_n hx hb dX0_putWall_26 rfl (lv_at hl 0 rfl) ?_
  refine lv_iload_n hx hb dX0_putWall_27 rfl (lv_at hl 3 rfl) ?_
  refine lv_if_eq hx hb dX0_putWall_28 (tgt := 37) rfl (fun hc3 => ?_) (fun hc3 => ?_)
  · replace hf := h_pos hc3 hf
    refine lv_iconst (v := 0) hx hb dX0_putWall_37 (by decide) ?_
    exact J38 _ _ _ S (0 : Int32) u2 (st_I S (ky k0 1)) (lv_sub hl [] rfl) hw hf
  replace hf := h_neg hc3 hf
  refine lv_iconst (v := 1) hx hb dX0_putWall_31 (by decide) ?_
  refine lv_iload_n hx hb dX0_putWall_32 rfl (lv_at hl 2 rfl) ?_
  refine lv_ishl hx hb dX0_putWall_33 ?_
  refine lv_goto hx hb dX0_putWall_34 (tgt := 38) rfl ?_
  exact J38 _ _ _ S ((1 : Int32) <<< (x1 &&& 31)) u2 (st_I S (ky k0 1)) (lv_sub hl [] rfl) hw hf
theorem dX0_breakNow_0 : decode cX0_breakNow 0 = .ok (.aload_n 0, 1) := by decide +kernel
theorem dX0_breakNow_1 : decode cX0_breakNow 1 = .ok (.getfield 30, 3) := by decide +kernel
theorem dX0_breakNow_4 : decode cX0_breakNow 4 = .ok (.iload_n 1, 1) := by decide +kernel
theorem dX0_breakNow_5 : decode cX0_breakNow 5 = .ok (.aload_n 0, 1) := by decide +kernel
theorem dX0_breakNow_6 : decode cX0_breakNow 6 = .ok (.iload_n 1, 1) := by decide +kernel
theorem dX0_breakNow_7 : decode cX0_breakNow 7 = .ok (.aload_n 0, 1) := by decide +kernel
theorem dX0_breakNow_8 : decode cX0_breakNow 8 = .ok (.getfield 41, 3) := by decide +kernel
theorem dX0_breakNow_11 : decode cX0_breakNow 11 = .ok (.invokevirtual 92, 3) := by decide +kernel
theorem dX0_breakNow_14 : decode cX0_breakNow 14 = .ok (.invokestatic 60, 3) := by decide +kernel
theorem dX0_breakNow_17 : decode cX0_breakNow 17 = .ok (.aload_n 0, 1) := by decide +kernel
theorem dX0_breakNow_18 : decode cX0_breakNow 18 = .ok (.getfield 27, 3) := by decide +kernel
theorem dX0_breakNow_21 : decode cX0_breakNow 21 = .ok (.iload_n 1, 1) := by decide +kernel
theorem dX0_breakNow_22 : decode cX0_breakNow 22 = .ok (.aload_n 0, 1) := by decide +kernel
theorem dX0_breakNow_23 : decode cX0_breakNow 23 = .ok (.getfield 41, 3) := by decide +kernel
theorem dX0_breakNow_26 : decode cX0_breakNow 26 = .ok (.invokestatic 60, 3) := by decide +kernel
theorem dX0_breakNow_29 : decode cX0_breakNow 29 = .ok (.return_, 1) := by decide +kernel
abbrev rm_X0_breakNow : Room := { frames := 3, cells := 0, slots := 0, locals := 66 }
def f_X0_breakNow (k0 : Nat) (S : St) (x1 : Int32) : Option (St) :=
  (f_X0_showing k0 S x1 (st_I S (ky k0 1))).bind (fun (q1 : Int32) => (f_X5_put (ky k0 8) S x1 q1).bind (fun (q2 : St) => (f_X5_put (ky k0 7) q2 x1 (st_I q2 (ky k0 1))).bind (fun (q3 : St) => some q3)))
set_option maxRecDepth 100000 in
set_option maxHeartbeats 4000000 in
theorem k_X0_breakNow (l : Launch) (g : GG) (hg : gd wd_C g) (k0 : Nat) (hk0 : hs wd_C g k0 0) (hA : allT g) (S : St) (x1 : Int32) (q : St) (hf : f_X0_breakNow k0 S x1 = some q) : Met l yX0_breakNow (Cond.code yX0_breakNow cX0_breakNow 2 none :: gw_tbl) rm_X0_breakNow (va_Pc [.ref (gg_o g k0), .int x1] (wI wd_C g S)) (qc_v wd_C g q) 0 0 (aw g) := by
  refine mt_start (own := RX0) hg (by decide) rfl (Nat.le_of_ble_eq_true rfl) (fun p e s m args below meth c ls H locs cx hw hr hlk hl => ?_)
  have hx := cx.1
  have hb := cx.2.1
  have hown := cx.2.2.2.1
  have hts := cx.2.2.2.2.1
  have hl : lv_has ls 2 [(0, .ref (gg_o g k0)), (1, .int x1)] := hl
  replace hf := h_top hf
  unfold f_X0_breakNow at hf
  refine lv_aload_n hx hb dX0_breakNow_0 rfl (lv_at hl 0 rfl) ?_
  refine gf_X0_30 cx hw hk0 dX0_breakNow_1 ?_
  refine lv_iload_n hx hb dX0_breakNow_4 rfl (lv_at hl 1 rfl) ?_
  refine lv_aload_n hx hb dX0_breakNow_5 rfl (lv_at hl 0 rfl) ?_
  refine lv_iload_n hx hb dX0_breakNow_6 rfl (lv_at hl 1 rfl) ?_
  refine lv_aload_n hx hb dX0_breakNow_7 rfl (lv_at hl 0 rfl) ?_
  refine gf_X0_41 cx hw hk0 dX0_breakNow_8 ?_
  refine r_V_i (As := [.int x1, .int (st_I S (ky k0 1))]) (rest := [.int x1, .ref (gg_a g (ky k0 8))]) cx hw hf hk0.2.1 (by rw [hk0.1]; rfl) lk_X0_92 (fun q1 hq => k_X0_showing l g hg k0 hk0 hA S x1 (st_I S (ky k0 1)) q1 hq) ⟨⟨rfl, rfl⟩, Nat.le_of_ble_eq_true rfl, Nat.le_of_ble_eq_true rfl⟩ rfl hl.1 rfl (Nat.le_of_ble_eq_true rfl) dX0_breakNow_11 ⟨Nat.zero_le _, Nat.zero_le _⟩ (fun q1 H locs hw hf => ?_)
  refine r_SN_v (As := [.ref (gg_a g (ky k0 8)), .int x1, .int q1]) (rest := []) cx hw hf (nw_at cx) lk_X0_60 (fun q2 hq => k_X5_put l g hg (ky k0 8) (hk0.2.2.1 8 rfl) S x1 q1 q2 hq) ⟨⟨rfl, rfl⟩, Nat.le_of_ble_eq_true rfl, Nat.le_of_ble_eq_true rfl⟩ rfl hl.1 rfl (Nat.le_of_ble_eq_true rfl) dX0_breakNow_14 ⟨Nat.zero_le _, Nat.zero_le _⟩ (fun q2 H locs hw hf => ?_)
  refine lv_aload_n hx hb dX0_breakNow_17 rfl (lv_at hl 0 rfl) ?_
  refine gf_X0_27 cx hw hk0 dX0_breakNow_18 ?_
  refine lv_iload_n hx hb dX0_breakNow_21 rfl (lv_at hl 1 rfl) ?_
  refine lv_aload_n hx hb dX0_breakNow_22 rfl (lv_at hl 0 rfl) ?_
  refine gf_X0_41 cx hw hk0 dX0_breakNow_23 ?_
  refine r_SN_v (As := [.ref (gg_a g (ky k0 7)), .int x1, .int (st_I q2 (ky k0 1))]) (rest := []) cx hw hf (nw_at cx) lk_X0_60 (fun q3 hq => k_X5_put l g hg (ky k0 7) (hk0.2.2.1 7 rfl) q2 x1 (st_I q2 (ky k0 1)) q3 hq) ⟨⟨rfl, rfl⟩, Nat.le_of_ble_eq_true rfl, Nat.le_of_ble_eq_true rfl⟩ rfl hl.1 rfl (Nat.le_of_ble_eq_true rfl) dX0_breakNow_26 ⟨Nat.zero_le _, Nat.zero_le _⟩ (fun q3 H locs hw hf => ?_)
  exact r_vret cx hw hr hlk hf dX0_breakNow_29
theorem dX4_wayTo_0 : decode cX4_wayTo 0 = .ok (.iconst 0, 1) := by decide +kernel
theorem dX4_wayTo_1 : decode cX4_wayTo 1 = .ok (.istore_n 3, 1) := by decide +kernel
theorem dX4_wayTo_2 : decode cX4_wayTo 2 = .ok (.iconst 0, 1) := by decide +kernel
theorem dX4_wayTo_3 : decode cX4_wayTo 3 = .ok (.istore 4, 2) := by decide +kernel
theorem dX4_wayTo_5 : decode cX4_wayTo 5 = .ok (.iload 4, 2) := by decide +kernel
theorem dX4_wayTo_7 : decode cX4_wayTo 7 = .ok (.aload_n 0, 1) := by decide +kernel
theorem dX4_wayTo_8 : decode cX4_wayTo 8 = .ok (.getfield 54, 3) := by decide +kernel
theorem dX4_wayTo_11 : decode cX4_wayTo 11 = .ok (.if_icmp .ge 71, 3) := by decide +kernel
theorem dX4_wayTo_14 : decode cX4_wayTo 14 = .ok (.aload_n 0, 1) := by decide +kernel
theorem dX4_wayTo_15 : decode cX4_wayTo 15 = .ok (.getfield 9, 3) := by decide +kernel
theorem dX4_wayTo_18 : decode cX4_wayTo 18 = .ok (.iload 4, 2) := by decide +kernel
theorem dX4_wayTo_20 : decode cX4_wayTo 20 = .ok (.iconst 2, 1) := by decide +kernel
theorem dX4_wayTo_21 : decode cX4_wayTo 21 = .ok (.imul, 1) := by decide +kernel
theorem dX4_wayTo_22 : decode cX4_wayTo 22 = .ok (.invokestatic 91, 3) := by decide +kernel
theorem dX4_wayTo_25 : decode cX4_wayTo 25 = .ok (.istore 5, 2) := by decide +kernel
theorem dX4_wayTo_27 : decode cX4_wayTo 27 = .ok (.aload_n 0, 1) := by decide +kernel
theorem dX4_wayTo_28 : decode cX4_wayTo 28 = .ok (.getfield 9, 3) := by decide +kernel
theorem dX4_wayTo_31 : decode cX4_wayTo 31 = .ok (.iload 4, 2) := by decide +kernel
theorem dX4_wayTo_33 : decode cX4_wayTo 33 = .ok (.iconst 2, 1) := by decide +kernel
theorem dX4_wayTo_34 : decode cX4_wayTo 34 = .ok (.imul, 1) := by decide +kernel
theorem dX4_wayTo_35 : decode cX4_wayTo 35 = .ok (.iconst 1, 1) := by decide +kernel
theorem dX4_wayTo_36 : decode cX4_wayTo 36 = .ok (.iadd, 1) := by decide +kernel
theorem dX4_wayTo_37 : decode cX4_wayTo 37 = .ok (.invokestatic 91, 3) := by decide +kernel
theorem dX4_wayTo_40 : decode cX4_wayTo 40 = .ok (.istore 6, 2) := by decide +kernel
theorem dX4_wayTo_42 : decode cX4_wayTo 42 = .ok (.iload 5, 2) := by decide +kernel
theorem dX4_wayTo_44 : decode cX4_wayTo 44 = .ok (.iload_n 1, 1) := by decide +kernel
theorem dX4_wayTo_45 : decode cX4_wayTo 45 = .ok (.if_icmp .eq 9, 3) := by decide +kernel
theorem dX4_wayTo_48 : decode cX4_wayTo 48 = .ok (.iload 6, 2) := by decide +kernel
theorem dX4_wayTo_50 : decode cX4_wayTo 50 = .ok (.iload_n 1, 1) := by decide +kernel
theorem dX4_wayTo_51 : decode cX4_wayTo 51 = .ok (.if_icmp .ne 25, 3) := by decide +kernel
theorem dX4_wayTo_54 : decode cX4_wayTo 54 = .ok (.iinc 3 1, 3) := by decide +kernel
theorem dX4_wayTo_57 : decode cX4_wayTo 57 = .ok (.iload_n 3, 1) := by decide +kernel
theorem dX4_wayTo_58 : decode cX4_wayTo 58 = .ok (.iload_n 2, 1) := by decide +kernel
theorem dX4_wayTo_59 : decode cX4_wayTo 59 = .ok (.if_icmp .ne 17, 3) := by decide +kernel
theorem dX4_wayTo_62 : decode cX4_wayTo 62 = .ok (.iload 5, 2) := by decide +kernel
theorem dX4_wayTo_64 : decode cX4_wayTo 64 = .ok (.iload_n 1, 1) := by decide +kernel
theorem dX4_wayTo_65 : decode cX4_wayTo 65 = .ok (.if_icmp .ne 8, 3) := by decide +kernel
theorem dX4_wayTo_68 : decode cX4_wayTo 68 = .ok (.iload 6, 2) := by decide +kernel
theorem dX4_wayTo_70 : decode cX4_wayTo 70 = .ok (.goto 5, 3) := by decide +kernel
theorem dX4_wayTo_73 : decode cX4_wayTo 73 = .ok (.iload 5, 2) := by decide +kernel
theorem dX4_wayTo_75 : decode cX4_wayTo 75 = .ok (.ireturn, 1) := by decide +kernel
theorem dX4_wayTo_76 : decode cX4_wayTo 76 = .ok (.iinc 4 1, 3) := by decide +kernel
theorem dX4_wayTo_79 : decode cX4_wayTo 79 = .ok (.goto (-74), 3) := by decide +kernel
theorem dX4_wayTo_82 : decode cX4_wayTo 82 = .ok (.iconst (-1), 1) := by decide +kernel
theorem dX4_wayTo_83 : decode cX4_wayTo 83 = .ok (.ireturn, 1) := by decide +kernel
abbrev rm_X4_wayTo : Room := { frames := 1, cells := 0, slots := 0, locals := 21 }
def f_X4_wayTo_J54 (k0 : Nat) (S : St) (x1 : Int32) (x2 : Int32) (x3 : Int32) (x4 : Int32) (x5 : Int32) (x6 : Int32) : Option ((Int32 × Int32) ⊕ ((Int32 × Int32) ⊕ (Int32))) :=
  if (x3 + 1) = x2 then (some (.inr (.inl (x5, x6)))) else (some (.inl ((x3 + 1), (x4 + 1))))
def f_X4_wayTo_L5 (k0 : Nat) (S : St) (x1 : Int32) (x2 : Int32) (z5 : Int32 × Int32) : Option ((Int32 × Int32) ⊕ ((Int32 × Int32) ⊕ (Int32))) :=
  if (st_I S (ky k0 1)) ≤ z5.2 then (some (.inr (.inr (-1 : Int32)))) else ((f_X5_at (ky k0 7) S (z5.2 * (2 : Int32))).bind (fun (q2 : Int32) => (f_X5_at (ky k0 7) S ((z5.2 * (2 : Int32)) + (1 : Int32))).bind (fun (q3 : Int32) => if q2 = x1 then (f_X4_wayTo_J54 k0 S x1 x2 z5.1 z5.2 q2 q3) else (if q3 = x1 then (f_X4_wayTo_J54 k0 S x1 x2 z5.1 z5.2 q2 q3) else (some (.inl (z5.1, (z5.2 + 1))))))))
def f_X4_wayTo (k0 : Nat) (S : St) (x1 : Int32) (x2 : Int32) : Option (Int32) :=
  (iter (f_X4_wayTo_L5 k0 S x1 x2) FU ((0 : Int32), (0 : Int32))).bind fun z => match z with | .inl z => (fun (u10 : Int32 × Int32) => (fun (e7 : Int32) (e8 : Int32) => if e7 = x1 then (some e8) else (some e7)) u10.1 u10.2) z | .inr v11 => some v11
set_option maxRecDepth 100000 in
set_option maxHeartbeats 4000000 in
theorem k_X4_wayTo (l : Launch) (g : GG) (hg : gd wd_C g) (k0 : Nat) (hk0 : hT g k0) (S : St) (x1 : Int32) (x2 : Int32) (q : Int32) (hf : f_X4_wayTo k0 S x1 x2 = some q) : Met l yX4_wayTo (Cond.code yX4_wayTo cX4_wayTo 7 (some .int) :: gw_tbl) rm_X4_wayTo (va_Pc [.ref (gg_o g k0), .int x1, .int x2] (wI wd_C g S)) (qc_i wd_C g S q) 0 0 (aw g) := by
  refine mt_start (own := RX4) hg (by decide) rfl (Nat.le_of_ble_eq_true rfl) (fun p e s m args below meth c ls H locs cx hw hr hlk hl => ?_)
  have hx := cx.1
  have hb := cx.2.1
  have hown := cx.2.2.2.1
  have hts := cx.2.2.2.2.1
  have hl : lv_has ls 7 [(0, .ref (gg_o g k0)), (1, .int x1), (2, .int x2)] := hl
  replace hf := h_top hf
  unfold f_X4_wayTo at hf
  refine lv_iconst (v := 0) hx hb dX4_wayTo_0 (by decide) ?_
  refine lv_istore_n hx hb dX4_wayTo_1 rfl hl (by decide) (lv' := [(3, .int (0 : Int32)), (0, .ref (gg_o g k0)), (1, .int x1), (2, .int x2)]) rfl (fun ls hl => ?_)
  refine lv_iconst (v := 0) hx hb dX4_wayTo_2 (by decide) ?_
  refine lv_istore hx hb dX4_wayTo_3 hl (by decide) (lv' := [(4, .int (0 : Int32)), (3, .int (0 : Int32)), (0, .ref (gg_o g k0)), (1, .int x1), (2, .int x2)]) rfl (fun ls hl => ?_)
  have L5 : ∀ (x1 : Int32) (x2 : Int32) (aft5 : ((Int32 × Int32) ⊕ (Int32)) → Option (Int32)), (∀ (ls : Array Slot) (H : Heap) (locs : List Loc) (e5 : Int32) (e6 : Int32), lv_has ls 7 [(1, .int x1), (5, .int e5), (6, .int e6)] → HH wd_C g s S H locs → aft5 (.inl (e5, e6)) = some q → W p l e rm_X4_wayTo s m args below meth c H locs 0 0 (MQ below (qc_i wd_C g S q) args s 0 0 (aw g)) (F0 m 62 ls [])) → (∀ v : Int32, aft5 (.inr v) = some q → (some v : Option (Int32)).bind some = some q) → ∀ (n5 : Nat) (ls : Array Slot) (H : Heap) (locs : List Loc) (z5 : Int32 × Int32), lv_has ls 7 [(0, .ref (gg_o g k0)), (1, .int x1), (2, .int x2), (3, .int z5.1), (4, .int z5.2)] → HH wd_C g s S H locs → (iter (f_X4_wayTo_L5 k0 S x1 x2) n5 z5).bind aft5 = some q → W p l e rm_X4_wayTo s m args below meth c H locs 0 0 (MQ below (qc_i wd_C g S q) args s 0 0 (aw g)) (F0 m 5 ls []) := by
    intro x1 x2 aft5 hX5 hR5 n5
    induction n5 with
    | zero => intro ls H locs z5 hl hw hf; exact h_iter0 hf
    | succ n5 ih5 =>
      intro ls H locs z5 hl hw hf
      replace hf := h_iter hf
      unfold f_X4_wayTo_L5 at hf
      have J54 : ∀ (ls : Array Slot) (H : Heap) (locs : List Loc) (x3 : Int32) (x4 : Int32) (x5 : Int32) (x6 : Int32), lv_has ls 7 [(0, .ref (gg_o g k0)), (1, .int x1), (2, .int x2), (3, .int x3), (4, .int x4), (5, .int x5), (6, .int x6)] → HH wd_C g s S H locs → (f_X4_wayTo_J54 k0 S x1 x2 x3 x4 x5 x6).bind (it_K (f_X4_wayTo_L5 k0 S x1 x2) n5 aft5) = some q → W p l e rm_X4_wayTo s m args below meth c H locs 0 0 (MQ below (qc_i wd_C g S q) args s 0 0 (aw g)) (F0 m 54 ls []) := by
        intro ls H locs x3 x4 x5 x6 hl hw hf
        unfold f_X4_wayTo_J54 at hf
        refine lv_iinc hx hb dX4_wayTo_54 hl (k := 3) rfl (congrArg (HAdd.hAdd _) (show Int32.ofInt (1) = 1 by decide)) (by decide) (lv' := [(3, .int (x3 + 1)), (0, .ref (gg_o g k0)), (1, .int x1), (2, .int x2), (4, .int x4), (5, .int x5), (6, .int x6)]) rfl (fun ls hl => ?_)
        refine lv_iload_n hx hb dX4_wayTo_57 rfl (lv_at hl 0 rfl) ?_
        refine lv_iload_n hx hb dX4_wayTo_58 rfl (lv_at hl 3 rfl) ?_
        refine lv_icmp_ne hx hb dX4_wayTo_59 (tgt := 76) rfl (fun hc5 => ?_) (fun hc5 => ?_)
        · replace hf := h_neg hc5 hf
          refine lv_iinc hx hb dX4_wayTo_76 hl (k := 4) rfl (congrArg (HAdd.hAdd _) (show Int32.ofInt (1) = 1 by decide)) (by decide) (lv' := [(4, .int (x4 + 1)), (3, .int (x3 + 1)), (0, .ref (gg_o g k0)), (1, .int x1), (2, .int x2), (5, .int x5), (6, .int x6)]) rfl (fun ls hl => ?_)
          refine lv_goto hx hb dX4_wayTo_79 (tgt := 5) rfl ?_
          exact ih5 _ _ _ ((x3 + 1), (x4 + 1)) (lv_sub hl [2, 3, 4, 1, 0] rfl) hw hf
        replace hf := h_pos hc5 hf
        exact hX5 _ _ _ x5 x6 (lv_sub hl [2, 5, 6] rfl) hw hf
      refine lv_iload hx hb dX4_wayTo_5 (lv_at hl 4 rfl) ?_
      refine lv_aload_n hx hb dX4_wayTo_7 rfl (lv_at hl 0 rfl) ?_
      refine gf_X4_54 cx hw hk0.1 dX4_wayTo_8 ?_
      refine lv_icmp_ge hx hb dX4_wayTo_11 (tgt := 82) rfl (fun hc1 => ?_) (fun hc1 => ?_)
      · replace hf := h_pos hc1 hf
        refine lv_iconst (v := -1) hx hb dX4_wayTo_82 (by decide) ?_
        replace hf := hR5 (-1 : Int32) hf
        exact r_iret cx hw hr hlk hf dX4_wayTo_83
      replace hf := h_neg hc1 hf
      refine lv_aload_n hx hb dX4_wayTo_14 rfl (lv_at hl 0 rfl) ?_
      refine gf_X4_9 cx hw hk0.1 dX4_wayTo_15 ?_
      refine lv_iload hx hb dX4_wayTo_18 (lv_at hl 4 rfl) ?_
      refine lv_iconst (v := 2) hx hb dX4_wayTo_20 (by decide) ?_
      refine lv_imul hx hb dX4_wayTo_21 ?_
      refine r_SN_i (As := [.ref (gg_a g (ky k0 7)), .int (z5.2 * (2 : Int32))]) (rest := []) cx hw hf (nw_at cx) lk_X4_91 (fun q2 hq => k_X5_at l g hg (ky k0 7) (hk0.1.2.2.1 7 rfl) S (z5.2 * (2 : Int32)) q2 hq) ⟨⟨rfl, rfl⟩, Nat.le_of_ble_eq_true rfl, Nat.le_of_ble_eq_true rfl⟩ rfl hl.1 rfl (Nat.le_of_ble_eq_true rfl) dX4_wayTo_22 ⟨Nat.zero_le _, Nat.zero_le _⟩ (fun q2 H locs hw hf => ?_)
      refine lv_istore hx hb dX4_wayTo_25 hl (by decide) (lv' := [(5, .int q2), (0, .ref (gg_o g k0)), (1, .int x1), (2, .int x2), (3, .int z5.1), (4, .int z5.2)]) rfl (fun ls hl => ?_)
      refine lv_aload_n hx hb dX4_wayTo_27 rfl (lv_at hl 1 rfl) ?_
      refine gf_X4_9 cx hw hk0.1 dX4_wayTo_28 ?_
      refine lv_iload hx hb dX4_wayTo_31 (lv_at hl 5 rfl) ?_
      refine lv_iconst (v := 2) hx hb dX4_wayTo_33 (by decide) ?_
      refine lv_imul hx hb dX4_wayTo_34 ?_
      refine lv_iconst (v := 1) hx hb dX4_wayTo_35 (by decide) ?_
      refine lv_iadd hx hb dX4_wayTo_36 ?_
      refine r_SN_i (As := [.ref (gg_a g (ky k0 7)), .int ((z5.2 * (2 : Int32)) + (1 : Int32))]) (rest := []) cx hw hf (nw_at cx) lk_X4_91 (fun q3 hq => k_X5_at l g hg (ky k0 7) (hk0.1.2.2.1 7 rfl) S ((z5.2 * (2 : Int32)) + (1 : Int32)) q3 hq) ⟨⟨rfl, rfl⟩, Nat.le_of_ble_eq_true rfl, Nat.le_of_ble_eq_true rfl⟩ rfl hl.1 rfl (Nat.le_of_ble_eq_true rfl) dX4_wayTo_37 ⟨Nat.zero_le _, Nat.zero_le _⟩ (fun q3 H locs hw hf => ?_)
      refine lv_istore hx hb dX4_wayTo_40 hl (by decide) (lv' := [(6, .int q3), (5, .int q2), (0, .ref (gg_o g k0)), (1, .int x1), (2, .int x2), (3, .int z5.1), (4, .int z5.2)]) rfl (fun ls hl => ?_)
      refine lv_iload hx hb dX4_wayTo_42 (lv_at hl 1 rfl) ?_
      refine lv_iload_n hx hb dX4_wayTo_44 rfl (lv_at hl 3 rfl) ?_
      refine lv_icmp_eq hx hb dX4_wayTo_45 (tgt := 54) rfl (fun hc4 => ?_) (fun hc4 => ?_)
      · replace hf := h_pos hc4 hf
        exact J54 _ _ _ z5.1 z5.2 q2 q3 (lv_sub hl [2, 3, 4, 5, 6, 1, 0] rfl) hw hf
      replace hf := h_neg hc4 hf
      refine lv_iload hx hb dX4_wayTo_48 (lv_at hl 0 rfl) ?_
      refine lv_iload_n hx hb dX4_wayTo_50 rfl (lv_at hl 3 rfl) ?_
      refine lv_icmp_ne hx hb dX4_wayTo_51 (tgt := 76) rfl (fun hc6 => ?_) (fun hc6 => ?_)
      · replace hf := h_neg hc6 hf
        refine lv_iinc hx hb dX4_wayTo_76 hl (k := 6) rfl (congrArg (HAdd.hAdd _) (show Int32.ofInt (1) = 1 by decide)) (by decide) (lv' := [(4, .int (z5.2 + 1)), (6, .int q3), (5, .int q2), (0, .ref (gg_o g k0)), (1, .int x1), (2, .int x2), (3, .int z5.1)]) rfl (fun ls hl => ?_)
        refine lv_goto hx hb dX4_wayTo_79 (tgt := 5) rfl ?_
        exact ih5 _ _ _ (z5.1, (z5.2 + 1)) (lv_sub hl [3, 4, 5, 6, 0] rfl) hw hf
      replace hf := h_pos hc6 hf
      exact J54 _ _ _ z5.1 z5.2 q2 q3 (lv_sub hl [2, 3, 4, 5, 6, 1, 0] rfl) hw hf
  refine L5 x1 x2 _ (fun ls H locs e7 e8 hl hw hf => ?_) (fun v h => h) FU _ _ _ ((0 : Int32), (0 : Int32)) (lv_sub hl [2, 3, 4, 1, 0] rfl) hw (h_assoc hf)
  try dsimp only at hf
  refine lv_iload hx hb dX4_wayTo_62 (lv_at hl 1 rfl) ?_
  refine lv_iload_n hx hb dX4_wayTo_64 rfl (lv_at hl 0 rfl) ?_
  refine lv_icmp_ne hx hb dX4_wayTo_65 (tgt := 73) rfl (fun hc9 => ?_) (fun hc9 => ?_)
  · replace hf := h_neg hc9 hf
    refine lv_iload hx hb dX4_wayTo_73 (lv_at hl 1 rfl) ?_
    exact r_iret cx hw hr hlk hf dX4_wayTo_75
  replace hf := h_pos hc9 hf
  refine lv_iload hx hb dX4_wayTo_68 (lv_at hl 2 rfl) ?_
  refine lv_goto hx hb dX4_wayTo_70 (tgt := 75) rfl ?_
  exact r_iret cx hw hr hlk hf dX4_wayTo_75
theorem dX0_roomAfter_0 : decode cX0_roomAfter 0 = .ok (.aload_n 0, 1) := by decide +kernel
theorem dX0_roomAfter_1 : decode cX0_roomAfter 1 = .ok (.iload_n 1, 1) := by decide +kernel
theorem dX0_roomAfter_2 : decode cX0_roomAfter 2 = .ok (.aload_n 0, 1) := by decide +kernel
theorem dX0_roomAfter_3 : decode cX0_roomAfter 3 = .ok (.getfield 41, 3) := by decide +kernel
theorem dX0_roomAfter_6 : decode cX0_roomAfter 6 = .ok (.invokevirtual 163, 3) := by decide +kernel
theorem dX0_roomAfter_9 : decode cX0_roomAfter 9 = .ok (.istore_n 2, 1) := by decide +kernel
theorem dX0_roomAfter_10 : decode cX0_roomAfter 10 = .ok (.aload_n 0, 1) := by decide +kernel
theorem dX0_roomAfter_11 : decode cX0_roomAfter 11 = .ok (.getfield 33, 3) := by decide +kernel
theorem dX0_roomAfter_14 : decode cX0_roomAfter 14 = .ok (.iload_n 2, 1) := by decide +kernel
theorem dX0_roomAfter_15 : decode cX0_roomAfter 15 = .ok (.invokevirtual 123, 3) := by decide +kernel
theorem dX0_roomAfter_18 : decode cX0_roomAfter 18 = .ok (.istore_n 3, 1) := by decide +kernel
theorem dX0_roomAfter_19 : decode cX0_roomAfter 19 = .ok (.aload_n 0, 1) := by decide +kernel
theorem dX0_roomAfter_20 : decode cX0_roomAfter 20 = .ok (.iload_n 2, 1) := by decide +kernel
theorem dX0_roomAfter_21 : decode cX0_roomAfter 21 = .ok (.aload_n 0, 1) := by decide +kernel
theorem dX0_roomAfter_22 : decode cX0_roomAfter 22 = .ok (.getfield 41, 3) := by decide +kernel
theorem dX0_roomAfter_25 : decode cX0_roomAfter 25 = .ok (.invokevirtual 98, 3) := by decide +kernel
theorem dX0_roomAfter_28 : decode cX0_roomAfter 28 = .ok (.invokestatic 114, 3) := by decide +kernel
theorem dX0_roomAfter_31 : decode cX0_roomAfter 31 = .ok (.iconst 1, 1) := by decide +kernel
theorem dX0_roomAfter_32 : decode cX0_roomAfter 32 = .ok (.isub, 1) := by decide +kernel
theorem dX0_roomAfter_33 : decode cX0_roomAfter 33 = .ok (.istore 4, 2) := by decide +kernel
theorem dX0_roomAfter_35 : decode cX0_roomAfter 35 = .ok (.aload_n 0, 1) := by decide +kernel
theorem dX0_roomAfter_36 : decode cX0_roomAfter 36 = .ok (.getfield 33, 3) := by decide +kernel
theorem dX0_roomAfter_39 : decode cX0_roomAfter 39 = .ok (.getfield 119, 3) := by decide +kernel
theorem dX0_roomAfter_42 : decode cX0_roomAfter 42 = .ok (.aload_n 0, 1) := by decide +kernel
theorem dX0_roomAfter_43 : decode cX0_roomAfter 43 = .ok (.getfield 41, 3) := by decide +kernel
theorem dX0_roomAfter_46 : decode cX0_roomAfter 46 = .ok (.iload_n 2, 1) := by decide +kernel
theorem dX0_roomAfter_47 : decode cX0_roomAfter 47 = .ok (.aload_n 0, 1) := by decide +kernel
theorem dX0_roomAfter_48 : decode cX0_roomAfter 48 = .ok (.iload_n 1, 1) := by decide +kernel
theorem dX0_roomAfter_49 : decode cX0_roomAfter 49 = .ok (.aload_n 0, 1) := by decide +kernel
theorem dX0_roomAfter_50 : decode cX0_roomAfter 50 = .ok (.getfield 41, 3) := by decide +kernel
theorem dX0_roomAfter_53 : decode cX0_roomAfter 53 = .ok (.invokevirtual 108, 3) := by decide +kernel
theorem dX0_roomAfter_56 : decode cX0_roomAfter 56 = .ok (.iload_n 1, 1) := by decide +kernel
theorem dX0_roomAfter_57 : decode cX0_roomAfter 57 = .ok (.iload_n 3, 1) := by decide +kernel
theorem dX0_roomAfter_58 : decode cX0_roomAfter 58 = .ok (.iload 4, 2) := by decide +kernel
theorem dX0_roomAfter_60 : decode cX0_roomAfter 60 = .ok (.invokevirtual 126, 3) := by decide +kernel
theorem dX0_roomAfter_63 : decode cX0_roomAfter 63 = .ok (.aload_n 0, 1) := by decide +kernel
theorem dX0_roomAfter_64 : decode cX0_roomAfter 64 = .ok (.getfield 33, 3) := by decide +kernel
theorem dX0_roomAfter_67 : decode cX0_roomAfter 67 = .ok (.getfield 119, 3) := by decide +kernel
theorem dX0_roomAfter_70 : decode cX0_roomAfter 70 = .ok (.aload_n 0, 1) := by decide +kernel
theorem dX0_roomAfter_71 : decode cX0_roomAfter 71 = .ok (.getfield 33, 3) := by decide +kernel
theorem dX0_roomAfter_74 : decode cX0_roomAfter 74 = .ok (.getfield 166, 3) := by decide +kernel
theorem dX0_roomAfter_77 : decode cX0_roomAfter 77 = .ok (.iload_n 1, 1) := by decide +kernel
theorem dX0_roomAfter_78 : decode cX0_roomAfter 78 = .ok (.invokestatic 68, 3) := by decide +kernel
theorem dX0_roomAfter_81 : decode cX0_roomAfter 81 = .ok (.invokevirtual 135, 3) := by decide +kernel
theorem dX0_roomAfter_84 : decode cX0_roomAfter 84 = .ok (.istore 5, 2) := by decide +kernel
theorem dX0_roomAfter_86 : decode cX0_roomAfter 86 = .ok (.iload_n 3, 1) := by decide +kernel
theorem dX0_roomAfter_87 : decode cX0_roomAfter 87 = .ok (.ifCond .le 12, 3) := by decide +kernel
theorem dX0_roomAfter_90 : decode cX0_roomAfter 90 = .ok (.iload 5, 2) := by decide +kernel
theorem dX0_roomAfter_92 : decode cX0_roomAfter 92 = .ok (.iload_n 3, 1) := by decide +kernel
theorem dX0_roomAfter_93 : decode cX0_roomAfter 93 = .ok (.iconst 1, 1) := by decide +kernel
theorem dX0_roomAfter_94 : decode cX0_roomAfter 94 = .ok (.iadd, 1) := by decide +kernel
theorem dX0_roomAfter_95 : decode cX0_roomAfter 95 = .ok (.irem, 1) := by decide +kernel
theorem dX0_roomAfter_96 : decode cX0_roomAfter 96 = .ok (.goto 4, 3) := by decide +kernel
theorem dX0_roomAfter_99 : decode cX0_roomAfter 99 = .ok (.iconst 0, 1) := by decide +kernel
theorem dX0_roomAfter_100 : decode cX0_roomAfter 100 = .ok (.istore 6, 2) := by decide +kernel
theorem dX0_roomAfter_102 : decode cX0_roomAfter 102 = .ok (.iload 6, 2) := by decide +kernel
theorem dX0_roomAfter_104 : decode cX0_roomAfter 104 = .ok (.ifCond .le 16, 3) := by decide +kernel
theorem dX0_roomAfter_107 : decode cX0_roomAfter 107 = .ok (.aload_n 0, 1) := by decide +kernel
theorem dX0_roomAfter_108 : decode cX0_roomAfter 108 = .ok (.getfield 33, 3) := by decide +kernel
theorem dX0_roomAfter_111 : decode cX0_roomAfter 111 = .ok (.iload_n 2, 1) := by decide +kernel
theorem dX0_roomAfter_112 : decode cX0_roomAfter 112 = .ok (.iload 6, 2) := by decide +kernel
theorem dX0_roomAfter_114 : decode cX0_roomAfter 114 = .ok (.invokevirtual 169, 3) := by decide +kernel
theorem dX0_roomAfter_117 : decode cX0_roomAfter 117 = .ok (.goto 4, 3) := by decide +kernel
theorem dX0_roomAfter_120 : decode cX0_roomAfter 120 = .ok (.iload_n 2, 1) := by decide +kernel
theorem dX0_roomAfter_121 : decode cX0_roomAfter 121 = .ok (.ireturn, 1) := by decide +kernel
abbrev rm_X0_roomAfter : Room := { frames := 2, cells := 0, slots := 0, locals := 57 }
def f_X0_roomAfter_J100 (k0 : Nat) (S : St) (x2 : Int32) (y0 : Int32) : Option (Int32 × St) :=
  if y0 ≤ 0 then (some (x2, S)) else (chk (isT (st_P S (ky k0 0))) ((f_X4_wayTo (st_P S (ky k0 0)) S x2 y0).bind (fun (q16 : Int32) => some (q16, S))))
def f_X0_roomAfter (k0 : Nat) (S : St) (x1 : Int32) : Option (Int32 × St) :=
  (f_X0_roomOf k0 S x1 (st_I S (ky k0 1))).bind (fun (q1 : Int32) => chk (isT (st_P S (ky k0 0))) ((f_X4_waysOf (st_P S (ky k0 0)) S q1).bind (fun (q3 : Int32) => (f_X0_menIn k0 S q1 (st_I S (ky k0 1))).bind (fun (q4 : Int32) => (f_J6_bitCount_0f7a4   q4).bind (fun (q5 : Int32) => chk (isT (st_P S (ky k0 0))) ((f_X0_rankOf k0 S x1 (st_I S (ky k0 1))).bind (fun (q7 : Int32) => (f_X1_setVars ((st_P S (ky k0 0)) + 2) S (st_I S (ky k0 1)) q1 q7 x1 q3 (q5 - (1 : Int32))).bind (fun (q8 : St) => chk (isT (st_P q8 (ky k0 0))) (chk (isT (st_P q8 (ky k0 0))) ((f_X5_at (ky (st_P q8 (ky k0 0)) 10) q8 x1).bind (fun (q11 : Int32) => (f_X1_valueOf ((st_P q8 (ky k0 0)) + 2) q8 q11).bind (fun (q12 : Int32 × St) => if q3 ≤ 0 then (f_X0_roomAfter_J100 k0 q12.2 q1 (0 : Int32)) else (chk (¬ (q3 + (1 : Int32)) = 0) (f_X0_roomAfter_J100 k0 q12.2 q1 (i_rem q12.1 (q3 + (1 : Int32)))))))))))))))))
set_option maxRecDepth 100000 in
set_option maxHeartbeats 4000000 in
theorem k_X0_roomAfter (l : Launch) (g : GG) (hg : gd wd_C g) (k0 : Nat) (hk0 : hs wd_C g k0 0) (hA : allT g) (S : St) (x1 : Int32) (q : Int32 × St) (hf : f_X0_roomAfter k0 S x1 = some q) : Met l yX0_roomAfter (Cond.code yX0_roomAfter cX0_roomAfter 7 (some .int) :: gw_tbl) rm_X0_roomAfter (va_Pc [.ref (gg_o g k0), .int x1] (wI wd_C g S)) (qc_w wd_C g q) 0 0 (aw g) := by
  refine mt_start (own := RX0) hg (by decide) rfl (Nat.le_of_ble_eq_true rfl) (fun p e s m args below meth c ls H locs cx hw hr hlk hl => ?_)
  have hx := cx.1
  have hb := cx.2.1
  have hown := cx.2.2.2.1
  have hts := cx.2.2.2.2.1
  have hl : lv_has ls 7 [(0, .ref (gg_o g k0)), (1, .int x1)] := hl
  replace hf := h_top hf
  unfold f_X0_roomAfter at hf
  have J100 : ∀ (ls : Array Slot) (H : Heap) (locs : List Loc) (S : St) (x2 : Int32) (y0 : Int32), lv_has ls 7 [(0, .ref (gg_o g k0)), (2, .int x2)] → HH wd_C g s S H locs → (f_X0_roomAfter_J100 k0 S x2 y0).bind some = some q → W p l e rm_X0_roomAfter s m args below meth c H locs 0 0 (MQ below (qc_w wd_C g q) args s 0 0 (aw g)) (F0 m 100 ls [.int y0]) := by
    intro ls H locs S x2 y0 hl hw hf
    unfold f_X0_roomAfter_J100 at hf
    refine lv_istore hx hb dX0_roomAfter_100 hl (by decide) (lv' := [(6, .int y0), (0, .ref (gg_o g k0)), (2, .int x2)]) rfl (fun ls hl => ?_)
    refine lv_iload hx hb dX0_roomAfter_102 (lv_at hl 0 rfl) ?_
    refine lv_if_le hx hb dX0_roomAfter_104 (tgt := 120) rfl (fun hc14 => ?_) (fun hc14 => ?_)
    · replace hf := h_pos hc14 hf
      refine lv_iload_n hx hb dX0_roomAfter_120 rfl (lv_at hl 2 rfl) ?_
      exact r_iretw cx hw hr hlk hf dX0_roomAfter_121
    replace hf := h_neg hc14 hf
    refine lv_aload_n hx hb dX0_roomAfter_107 rfl (lv_at hl 1 rfl) ?_
    obtain ⟨hc15, hf⟩ := h_chk hf
    refine gf_X0_33 cx hw hk0 dX0_roomAfter_108 ?_
    refine lv_iload_n hx hb dX0_roomAfter_111 rfl (lv_at hl 2 rfl) ?_
    refine lv_iload hx hb dX0_roomAfter_112 (lv_at hl 0 rfl) ?_
    refine r_VN_i (As := [.int x2, .int y0]) (rest := []) cx hw hf (nw_at cx) ((allT_at hA hc15).1).2.1 (by rw [((allT_at hA hc15).1).1]; rfl) lk_X0_169 (fun q16 hq => k_X4_wayTo l g hg (st_P S (ky k0 0)) (allT_at hA hc15) S x2 y0 q16 hq) ⟨⟨rfl, rfl⟩, Nat.le_of_ble_eq_true rfl, Nat.le_of_ble_eq_true rfl⟩ rfl hl.1 rfl (Nat.le_of_ble_eq_true rfl) dX0_roomAfter_114 ⟨Nat.zero_le _, Nat.zero_le _⟩ (fun q16 H locs hw hf => ?_)
    refine lv_goto hx hb dX0_roomAfter_117 (tgt := 121) rfl ?_
    exact r_iretw cx hw hr hlk hf dX0_roomAfter_121
  refine lv_aload_n hx hb dX0_roomAfter_0 rfl (lv_at hl 0 rfl) ?_
  refine lv_iload_n hx hb dX0_roomAfter_1 rfl (lv_at hl 1 rfl) ?_
  refine lv_aload_n hx hb dX0_roomAfter_2 rfl (lv_at hl 0 rfl) ?_
  refine gf_X0_41 cx hw hk0 dX0_roomAfter_3 ?_
  refine r_V_i (As := [.int x1, .int (st_I S (ky k0 1))]) (rest := []) cx hw hf hk0.2.1 (by rw [hk0.1]; rfl) lk_X0_163 (fun q1 hq => k_X0_roomOf l g hg k0 hk0 hA S x1 (st_I S (ky k0 1)) q1 hq) ⟨⟨rfl, rfl⟩, Nat.le_of_ble_eq_true rfl, Nat.le_of_ble_eq_true rfl⟩ rfl hl.1 rfl (Nat.le_of_ble_eq_true rfl) dX0_roomAfter_6 ⟨Nat.zero_le _, Nat.zero_le _⟩ (fun q1 H locs hw hf => ?_)
  refine lv_istore_n hx hb dX0_roomAfter_9 rfl hl (by decide) (lv' := [(2, .int q1), (0, .ref (gg_o g k0)), (1, .int x1)]) rfl (fun ls hl => ?_)
  refine lv_aload_n hx hb dX0_roomAfter_10 rfl (lv_at hl 1 rfl) ?_
  obtain ⟨hc2, hf⟩ := h_chk hf
  refine gf_X0_33 cx hw hk0 dX0_roomAfter_11 ?_
  refine lv_iload_n hx hb dX0_roomAfter_14 rfl (lv_at hl 0 rfl) ?_
  refine r_VN_i (As := [.int q1]) (rest := []) cx hw hf (nw_at cx) ((allT_at hA hc2).1).2.1 (by rw [((allT_at hA hc2).1).1]; rfl) lk_X0_123 (fun q3 hq => k_X4_waysOf l g hg (st_P S (ky k0 0)) (allT_at hA hc2) S q1 q3 hq) ⟨⟨rfl, rfl⟩, Nat.le_of_ble_eq_true rfl, Nat.le_of_ble_eq_true rfl⟩ rfl hl.1 rfl (Nat.le_of_ble_eq_true rfl) dX0_roomAfter_15 ⟨Nat.zero_le _, Nat.zero_le _⟩ (fun q3 H locs hw hf => ?_)
  refine lv_istore_n hx hb dX0_roomAfter_18 rfl hl (by decide) (lv' := [(3, .int q3), (2, .int q1), (0, .ref (gg_o g k0)), (1, .int x1)]) rfl (fun ls hl => ?_)
  refine lv_aload_n hx hb dX0_roomAfter_19 rfl (lv_at hl 2 rfl) ?_
  refine lv_iload_n hx hb dX0_roomAfter_20 rfl (lv_at hl 1 rfl) ?_
  refine lv_aload_n hx hb dX0_roomAfter_21 rfl (lv_at hl 2 rfl) ?_
  refine gf_X0_41 cx hw hk0 dX0_roomAfter_22 ?_
  refine r_V_i (As := [.int q1, .int (st_I S (ky k0 1))]) (rest := []) cx hw hf hk0.2.1 (by rw [hk0.1]; rfl) lk_X0_98 (fun q4 hq => k_X0_menIn l g hg k0 hk0 hA S q1 (st_I S (ky k0 1)) q4 hq) ⟨⟨rfl, rfl⟩, Nat.le_of_ble_eq_true rfl, Nat.le_of_ble_eq_true rfl⟩ rfl hl.1 rfl (Nat.le_of_ble_eq_true rfl) dX0_roomAfter_25 ⟨Nat.zero_le _, Nat.zero_le _⟩ (fun q4 H locs hw hf => ?_)
  refine r_S_i (As := [.int q4]) (rest := []) cx hw hf lk_X0_114 (fun q5 hq => k_J6_bitCount_0f7a4 l wd_C g hg   S q4 q5 hq) ⟨⟨rfl, rfl⟩, Nat.le_of_ble_eq_true rfl, Nat.le_of_ble_eq_true rfl⟩ rfl hl.1 rfl (Nat.le_of_ble_eq_true rfl) dX0_roomAfter_28 ⟨Nat.zero_le _, Nat.zero_le _⟩ (fun q5 H locs hw hf => ?_)
  refine lv_iconst (v := 1) hx hb dX0_roomAfter_31 (by decide) ?_
  refine lv_isub hx hb dX0_roomAfter_32 ?_
  refine lv_istore hx hb dX0_roomAfter_33 hl (by decide) (lv' := [(4, .int (q5 - (1 : Int32))), (3, .int q3), (2, .int q1), (0, .ref (gg_o g k0)), (1, .int x1)]) rfl (fun ls hl => ?_)
  refine lv_aload_n hx hb dX0_roomAfter_35 rfl (lv_at hl 3 rfl) ?_
  obtain ⟨hc6, hf⟩ := h_chk hf
  refine gf_X0_33 cx hw hk0 dX0_roomAfter_36 ?_
  refine gf_X0_119 cx hw ((allT_at hA hc6).1) dX0_roomAfter_39 ?_
  refine lv_aload_n hx hb dX0_roomAfter_42 rfl (lv_at hl 3 rfl) ?_
  refine gf_X0_41 cx hw hk0 dX0_roomAfter_43 ?_
  refine lv_iload_n hx hb dX0_roomAfter_46 rfl (lv_at hl 2 rfl) ?_
  refine lv_aload_n hx hb dX0_roomAfter_47 rfl (lv_at hl 3 rfl) ?_
  refine lv_iload_n hx hb dX0_roomAfter_48 rfl (lv_at hl 4 rfl) ?_
  refine lv_aload_n hx hb dX0_roomAfter_49 rfl (lv_at hl 3 rfl) ?_
  refine gf_X0_41 cx hw hk0 dX0_roomAfter_50 ?_
  refine r_V_i (As := [.int x1, .int (st_I S (ky k0 1))]) (rest := [.int q1, .int (st_I S (ky k0 1)), .ref (gg_o g ((st_P S (ky k0 0)) + 2))]) cx hw hf hk0.2.1 (by rw [hk0.1]; rfl) lk_X0_108 (fun q7 hq => k_X0_rankOf l g hg k0 hk0 hA S x1 (st_I S (ky k0 1)) q7 hq) ⟨⟨rfl, rfl⟩, Nat.le_of_ble_eq_true rfl, Nat.le_of_ble_eq_true rfl⟩ rfl hl.1 rfl (Nat.le_of_ble_eq_true rfl) dX0_roomAfter_53 ⟨Nat.zero_le _, Nat.zero_le _⟩ (fun q7 H locs hw hf => ?_)
  refine lv_iload_n hx hb dX0_roomAfter_56 rfl (lv_at hl 4 rfl) ?_
  refine lv_iload_n hx hb dX0_roomAfter_57 rfl (lv_at hl 1 rfl) ?_
  refine lv_iload hx hb dX0_roomAfter_58 (lv_at hl 0 rfl) ?_
  refine r_VN_v (As := [.int (st_I S (ky k0 1)), .int q1, .int q7, .int x1, .int q3, .int (q5 - (1 : Int32))]) (rest := []) cx hw hf (nw_at cx) ((allT_at hA hc6).2).2.1 (by rw [((allT_at hA hc6).2).1]; rfl) lk_X0_126 (fun q8 hq => k_X1_setVars l g hg ((st_P S (ky k0 0)) + 2) ((allT_at hA hc6).2) S (st_I S (ky k0 1)) q1 q7 x1 q3 (q5 - (1 : Int32)) q8 hq) ⟨⟨rfl, rfl⟩, Nat.le_of_ble_eq_true rfl, Nat.le_of_ble_eq_true rfl⟩ rfl hl.1 rfl (Nat.le_of_ble_eq_true rfl) dX0_roomAfter_60 ⟨Nat.zero_le _, Nat.zero_le _⟩ (fun q8 H locs hw hf => ?_)
  refine lv_aload_n hx hb dX0_roomAfter_63 rfl (lv_at hl 3 rfl) ?_
  obtain ⟨hc9, hf⟩ := h_chk hf
  refine gf_X0_33 cx hw hk0 dX0_roomAfter_64 ?_
  refine gf_X0_119 cx hw ((allT_at hA hc9).1) dX0_roomAfter_67 ?_
  refine lv_aload_n hx hb dX0_roomAfter_70 rfl (lv_at hl 3 rfl) ?_
  obtain ⟨hc10, hf⟩ := h_chk hf
  refine gf_X0_33 cx hw hk0 dX0_roomAfter_71 ?_
  refine gf_X0_166 cx hw ((allT_at hA hc10).1) dX0_roomAfter_74 ?_
  refine lv_iload_n hx hb dX0_roomAfter_77 rfl (lv_at hl 4 rfl) ?_
  refine r_SN_i (As := [.ref (gg_a g (ky (st_P q8 (ky k0 0)) 10)), .int x1]) (rest := [.ref (gg_o g ((st_P q8 (ky k0 0)) + 2))]) cx hw hf (nw_at cx) lk_X0_68 (fun q11 hq => k_X5_at l g hg (ky (st_P q8 (ky k0 0)) 10) ((allT_at hA hc10).1.2.2.1 10 rfl) q8 x1 q11 hq) ⟨⟨rfl, rfl⟩, Nat.le_of_ble_eq_true rfl, Nat.le_of_ble_eq_true rfl⟩ rfl hl.1 rfl (Nat.le_of_ble_eq_true rfl) dX0_roomAfter_78 ⟨Nat.zero_le _, Nat.zero_le _⟩ (fun q11 H locs hw hf => ?_)
  refine r_VN_w (As := [.int q11]) (rest := []) cx hw hf (nw_at cx) ((allT_at hA hc9).2).2.1 (by rw [((allT_at hA hc9).2).1]; rfl) lk_X0_135 (fun q12 hq => k_X1_valueOf l g hg ((st_P q8 (ky k0 0)) + 2) ((allT_at hA hc9).2) q8 q11 q12 hq) ⟨⟨rfl, rfl⟩, Nat.le_of_ble_eq_true rfl, Nat.le_of_ble_eq_true rfl⟩ rfl hl.1 rfl (Nat.le_of_ble_eq_true rfl) dX0_roomAfter_81 ⟨Nat.zero_le _, Nat.zero_le _⟩ (fun q12 H locs hw hf => ?_)
  refine lv_istore hx hb dX0_roomAfter_84 hl (by decide) (lv' := [(5, .int q12.1), (4, .int (q5 - (1 : Int32))), (3, .int q3), (2, .int q1), (0, .ref (gg_o g k0)), (1, .int x1)]) rfl (fun ls hl => ?_)
  refine lv_iload_n hx hb dX0_roomAfter_86 rfl (lv_at hl 2 rfl) ?_
  refine lv_if_le hx hb dX0_roomAfter_87 (tgt := 99) rfl (fun hc13 => ?_) (fun hc13 => ?_)
  · replace hf := h_pos hc13 hf
    refine lv_iconst (v := 0) hx hb dX0_roomAfter_99 (by decide) ?_
    exact J100 _ _ _ q12.2 q1 (0 : Int32) (lv_sub hl [4, 3] rfl) hw hf
  replace hf := h_neg hc13 hf
  refine lv_iload hx hb dX0_roomAfter_90 (lv_at hl 0 rfl) ?_
  refine lv_iload_n hx hb dX0_roomAfter_92 rfl (lv_at hl 2 rfl) ?_
  refine lv_iconst (v := 1) hx hb dX0_roomAfter_93 (by decide) ?_
  refine lv_iadd hx hb dX0_roomAfter_94 ?_
  obtain ⟨hc17, hf⟩ := h_chk hf
  refine lv_irem hx hb dX0_roomAfter_95 hc17 ?_
  refine lv_goto hx hb dX0_roomAfter_96 (tgt := 100) rfl ?_
  exact J100 _ _ _ q12.2 q1 (i_rem q12.1 (q3 + (1 : Int32))) (lv_sub hl [4, 3] rfl) hw hf
theorem dX0_moveMen_0 : decode cX0_moveMen 0 = .ok (.aload_n 0, 1) := by decide +kernel
theorem dX0_moveMen_1 : decode cX0_moveMen 1 = .ok (.getfield 41, 3) := by decide +kernel
theorem dX0_moveMen_4 : decode cX0_moveMen 4 = .ok (.iconst 1, 1) := by decide +kernel
theorem dX0_moveMen_5 : decode cX0_moveMen 5 = .ok (.iadd, 1) := by decide +kernel
theorem dX0_moveMen_6 : decode cX0_moveMen 6 = .ok (.istore_n 1, 1) := by decide +kernel
theorem dX0_moveMen_7 : decode cX0_moveMen 7 = .ok (.aload_n 0, 1) := by decide +kernel
theorem dX0_moveMen_8 : decode cX0_moveMen 8 = .ok (.getfield 15, 3) := by decide +kernel
theorem dX0_moveMen_11 : decode cX0_moveMen 11 = .ok (.aload_n 0, 1) := by decide +kernel
theorem dX0_moveMen_12 : decode cX0_moveMen 12 = .ok (.getfield 41, 3) := by decide +kernel
theorem dX0_moveMen_15 : decode cX0_moveMen 15 = .ok (.bipush 6, 2) := by decide +kernel
theorem dX0_moveMen_17 : decode cX0_moveMen 17 = .ok (.imul, 1) := by decide +kernel
theorem dX0_moveMen_18 : decode cX0_moveMen 18 = .ok (.aload_n 0, 1) := by decide +kernel
theorem dX0_moveMen_19 : decode cX0_moveMen 19 = .ok (.getfield 15, 3) := by decide +kernel
theorem dX0_moveMen_22 : decode cX0_moveMen 22 = .ok (.iload_n 1, 1) := by decide +kernel
theorem dX0_moveMen_23 : decode cX0_moveMen 23 = .ok (.bipush 6, 2) := by decide +kernel
theorem dX0_moveMen_25 : decode cX0_moveMen 25 = .ok (.imul, 1) := by decide +kernel
theorem dX0_moveMen_26 : decode cX0_moveMen 26 = .ok (.bipush 6, 2) := by decide +kernel
theorem dX0_moveMen_28 : decode cX0_moveMen 28 = .ok (.invokestatic 50, 3) := by decide +kernel
theorem dX0_moveMen_31 : decode cX0_moveMen 31 = .ok (.aload_n 0, 1) := by decide +kernel
theorem dX0_moveMen_32 : decode cX0_moveMen 32 = .ok (.getfield 18, 3) := by decide +kernel
theorem dX0_moveMen_35 : decode cX0_moveMen 35 = .ok (.aload_n 0, 1) := by decide +kernel
theorem dX0_moveMen_36 : decode cX0_moveMen 36 = .ok (.getfield 41, 3) := by decide +kernel
theorem dX0_moveMen_39 : decode cX0_moveMen 39 = .ok (.bipush 8, 2) := by decide +kernel
theorem dX0_moveMen_41 : decode cX0_moveMen 41 = .ok (.imul, 1) := by decide +kernel
theorem dX0_moveMen_42 : decode cX0_moveMen 42 = .ok (.aload_n 0, 1) := by decide +kernel
theorem dX0_moveMen_43 : decode cX0_moveMen 43 = .ok (.getfield 18, 3) := by decide +kernel
theorem dX0_moveMen_46 : decode cX0_moveMen 46 = .ok (.iload_n 1, 1) := by decide +kernel
theorem dX0_moveMen_47 : decode cX0_moveMen 47 = .ok (.bipush 8, 2) := by decide +kernel
theorem dX0_moveMen_49 : decode cX0_moveMen 49 = .ok (.imul, 1) := by decide +kernel
theorem dX0_moveMen_50 : decode cX0_moveMen 50 = .ok (.bipush 8, 2) := by decide +kernel
theorem dX0_moveMen_52 : decode cX0_moveMen 52 = .ok (.invokestatic 50, 3) := by decide +kernel
theorem dX0_moveMen_55 : decode cX0_moveMen 55 = .ok (.aload_n 0, 1) := by decide +kernel
theorem dX0_moveMen_56 : decode cX0_moveMen 56 = .ok (.getfield 24, 3) := by decide +kernel
theorem dX0_moveMen_59 : decode cX0_moveMen 59 = .ok (.iload_n 1, 1) := by decide +kernel
theorem dX0_moveMen_60 : decode cX0_moveMen 60 = .ok (.aload_n 0, 1) := by decide +kernel
theorem dX0_moveMen_61 : decode cX0_moveMen 61 = .ok (.getfield 24, 3) := by decide +kernel
theorem dX0_moveMen_64 : decode cX0_moveMen 64 = .ok (.aload_n 0, 1) := by decide +kernel
theorem dX0_moveMen_65 : decode cX0_moveMen 65 = .ok (.getfield 41, 3) := by decide +kernel
theorem dX0_moveMen_68 : decode cX0_moveMen 68 = .ok (.invokestatic 68, 3) := by decide +kernel
theorem dX0_moveMen_71 : decode cX0_moveMen 71 = .ok (.invokestatic 60, 3) := by decide +kernel
theorem dX0_moveMen_74 : decode cX0_moveMen 74 = .ok (.iconst 0, 1) := by decide +kernel
theorem dX0_moveMen_75 : decode cX0_moveMen 75 = .ok (.istore_n 2, 1) := by decide +kernel
theorem dX0_moveMen_76 : decode cX0_moveMen 76 = .ok (.iload_n 2, 1) := by decide +kernel
theorem dX0_moveMen_77 : decode cX0_moveMen 77 = .ok (.aload_n 0, 1) := by decide +kernel
theorem dX0_moveMen_78 : decode cX0_moveMen 78 = .ok (.getfield 33, 3) := by decide +kernel
theorem dX0_moveMen_81 : decode cX0_moveMen 81 = .ok (.getfield 82, 3) := by decide +kernel
theorem dX0_moveMen_84 : decode cX0_moveMen 84 = .ok (.if_icmp .ge 27, 3) := by decide +kernel
theorem dX0_moveMen_87 : decode cX0_moveMen 87 = .ok (.aload_n 0, 1) := by decide +kernel
theorem dX0_moveMen_88 : decode cX0_moveMen 88 = .ok (.getfield 9, 3) := by decide +kernel
theorem dX0_moveMen_91 : decode cX0_moveMen 91 = .ok (.iload_n 1, 1) := by decide +kernel
theorem dX0_moveMen_92 : decode cX0_moveMen 92 = .ok (.bipush 6, 2) := by decide +kernel
theorem dX0_moveMen_94 : decode cX0_moveMen 94 = .ok (.imul, 1) := by decide +kernel
theorem dX0_moveMen_95 : decode cX0_moveMen 95 = .ok (.iload_n 2, 1) := by decide +kernel
theorem dX0_moveMen_96 : decode cX0_moveMen 96 = .ok (.iadd, 1) := by decide +kernel
theorem dX0_moveMen_97 : decode cX0_moveMen 97 = .ok (.aload_n 0, 1) := by decide +kernel
theorem dX0_moveMen_98 : decode cX0_moveMen 98 = .ok (.iload_n 2, 1) := by decide +kernel
theorem dX0_moveMen_99 : decode cX0_moveMen 99 = .ok (.invokevirtual 160, 3) := by decide +kernel
theorem dX0_moveMen_102 : decode cX0_moveMen 102 = .ok (.invokestatic 60, 3) := by decide +kernel
theorem dX0_moveMen_105 : decode cX0_moveMen 105 = .ok (.iinc 2 1, 3) := by decide +kernel
theorem dX0_moveMen_108 : decode cX0_moveMen 108 = .ok (.goto (-32), 3) := by decide +kernel
theorem dX0_moveMen_111 : decode cX0_moveMen 111 = .ok (.aload_n 0, 1) := by decide +kernel
theorem dX0_moveMen_112 : decode cX0_moveMen 112 = .ok (.iload_n 1, 1) := by decide +kernel
theorem dX0_moveMen_113 : decode cX0_moveMen 113 = .ok (.putfield 41, 3) := by decide +kernel
theorem dX0_moveMen_116 : decode cX0_moveMen 116 = .ok (.return_, 1) := by decide +kernel
abbrev rm_X0_moveMen : Room := { frames := 3, cells := 0, slots := 0, locals := 144 }
def f_X0_moveMen_L76 (k0 : Nat) (x1 : Int32) (z76 : Int32 × St) : Option ((Int32 × St) ⊕ (St)) :=
  chk (isT (st_P z76.2 (ky k0 0))) (if (st_I z76.2 (ky (st_P z76.2 (ky k0 0)) 2)) ≤ z76.1 then (some (.inr z76.2)) else ((f_X0_roomAfter k0 z76.2 z76.1).bind (fun (q7 : Int32 × St) => (f_X5_put (ky k0 2) q7.2 ((x1 * (6 : Int32)) + z76.1) q7.1).bind (fun (q8 : St) => some (.inl ((z76.1 + 1), q8))))))
def f_X0_moveMen (k0 : Nat) (S : St)  : Option (St) :=
  (f_X5_copy (ky k0 3) (ky k0 3) S ((st_I S (ky k0 1)) * (6 : Int32)) (((st_I S (ky k0 1)) + (1 : Int32)) * (6 : Int32)) (6 : Int32)).bind (fun (q1 : St) => (f_X5_copy (ky k0 4) (ky k0 4) q1 ((st_I q1 (ky k0 1)) * (8 : Int32)) (((st_I S (ky k0 1)) + (1 : Int32)) * (8 : Int32)) (8 : Int32)).bind (fun (q2 : St) => (f_X5_at (ky k0 6) q2 (st_I q2 (ky k0 1))).bind (fun (q3 : Int32) => (f_X5_put (ky k0 6) q2 ((st_I S (ky k0 1)) + (1 : Int32)) q3).bind (fun (q4 : St) => (iter (f_X0_moveMen_L76 k0  ((st_I S (ky k0 1)) + (1 : Int32))) FU ((0 : Int32), q4)).bind (fun (S9 : St) => lt_v (up_I S9 (ky k0 1) ((st_I S (ky k0 1)) + (1 : Int32))) (fun (S10 : St) => some S10))))))
set_option maxRecDepth 100000 in
set_option maxHeartbeats 4000000 in
theorem k_X0_moveMen (l : Launch) (g : GG) (hg : gd wd_C g) (k0 : Nat) (hk0 : hs wd_C g k0 0) (hA : allT g) (S : St)  (q : St) (hf : f_X0_moveMen k0 S  = some q) : Met l yX0_moveMen (Cond.code yX0_moveMen cX0_moveMen 3 none :: gw_tbl) rm_X0_moveMen (va_Pc [.ref (gg_o g k0)] (wI wd_C g S)) (qc_v wd_C g q) 0 0 (aw g) := by
  refine mt_start (own := RX0) hg (by decide) rfl (Nat.le_of_ble_eq_true rfl) (fun p e s m args below meth c ls H locs cx hw hr hlk hl => ?_)
  have hx := cx.1
  have hb := cx.2.1
  have hown := cx.2.2.2.1
  have hts := cx.2.2.2.2.1
  have hl : lv_has ls 3 [(0, .ref (gg_o g k0))] := hl
  replace hf := h_top hf
  unfold f_X0_moveMen at hf
  refine lv_aload_n hx hb dX0_moveMen_0 rfl (lv_at hl 0 rfl) ?_
  refine gf_X0_41 cx hw hk0 dX0_moveMen_1 ?_
  refine lv_iconst (v := 1) hx hb dX0_moveMen_4 (by decide) ?_
  refine lv_iadd hx hb dX0_moveMen_5 ?_
  refine lv_istore_n hx hb dX0_moveMen_6 rfl hl (by decide) (lv' := [(1, .int ((st_I S (ky k0 1)) + (1 : Int32))), (0, .ref (gg_o g k0))]) rfl (fun ls hl => ?_)
  refine lv_aload_n hx hb dX0_moveMen_7 rfl (lv_at hl 1 rfl) ?_
  refine gf_X0_15 cx hw hk0 dX0_moveMen_8 ?_
  refine lv_aload_n hx hb dX0_moveMen_11 rfl (lv_at hl 1 rfl) ?_
  refine gf_X0_41 cx hw hk0 dX0_moveMen_12 ?_
  refine lv_bipush (v := 6) hx hb dX0_moveMen_15 (by decide) ?_
  refine lv_imul hx hb dX0_moveMen_17 ?_
  refine lv_aload_n hx hb dX0_moveMen_18 rfl (lv_at hl 1 rfl) ?_
  refine gf_X0_15 cx hw hk0 dX0_moveMen_19 ?_
  refine lv_iload_n hx hb dX0_moveMen_22 rfl (lv_at hl 0 rfl) ?_
  refine lv_bipush (v := 6) hx hb dX0_moveMen_23 (by decide) ?_
  refine lv_imul hx hb dX0_moveMen_25 ?_
  refine lv_bipush (v := 6) hx hb dX0_moveMen_26 (by decide) ?_
  refine r_SN_v (As := [.ref (gg_a g (ky k0 3)), .int ((st_I S (ky k0 1)) * (6 : Int32)), .ref (gg_a g (ky k0 3)), .int (((st_I S (ky k0 1)) + (1 : Int32)) * (6 : Int32)), .int (6 : Int32)]) (rest := []) cx hw hf (nw_at cx) lk_X0_50 (fun q1 hq => k_X5_copy l g hg (ky k0 3) (ky k0 3) (hk0.2.2.1 3 rfl) (hk0.2.2.1 3 rfl) S ((st_I S (ky k0 1)) * (6 : Int32)) (((st_I S (ky k0 1)) + (1 : Int32)) * (6 : Int32)) (6 : Int32) q1 hq) ⟨⟨rfl, rfl⟩, Nat.le_of_ble_eq_true rfl, Nat.le_of_ble_eq_true rfl⟩ rfl hl.1 rfl (Nat.le_of_ble_eq_true rfl) dX0_moveMen_28 ⟨Nat.zero_le _, Nat.zero_le _⟩ (fun q1 H locs hw hf => ?_)
  refine lv_aload_n hx hb dX0_moveMen_31 rfl (lv_at hl 1 rfl) ?_
  refine gf_X0_18 cx hw hk0 dX0_moveMen_32 ?_
  refine lv_aload_n hx hb dX0_moveMen_35 rfl (lv_at hl 1 rfl) ?_
  refine gf_X0_41 cx hw hk0 dX0_moveMen_36 ?_
  refine lv_bipush (v := 8) hx hb dX0_moveMen_39 (by decide) ?_
  refine lv_imul hx hb dX0_moveMen_41 ?_
  refine lv_aload_n hx hb dX0_moveMen_42 rfl (lv_at hl 1 rfl) ?_
  refine gf_X0_18 cx hw hk0 dX0_moveMen_43 ?_
  refine lv_iload_n hx hb dX0_moveMen_46 rfl (lv_at hl 0 rfl) ?_
  refine lv_bipush (v := 8) hx hb dX0_moveMen_47 (by decide) ?_
  refine lv_imul hx hb dX0_moveMen_49 ?_
  refine lv_bipush (v := 8) hx hb dX0_moveMen_50 (by decide) ?_
  refine r_SN_v (As := [.ref (gg_a g (ky k0 4)), .int ((st_I q1 (ky k0 1)) * (8 : Int32)), .ref (gg_a g (ky k0 4)), .int (((st_I S (ky k0 1)) + (1 : Int32)) * (8 : Int32)), .int (8 : Int32)]) (rest := []) cx hw hf (nw_at cx) lk_X0_50 (fun q2 hq => k_X5_copy l g hg (ky k0 4) (ky k0 4) (hk0.2.2.1 4 rfl) (hk0.2.2.1 4 rfl) q1 ((st_I q1 (ky k0 1)) * (8 : Int32)) (((st_I S (ky k0 1)) + (1 : Int32)) * (8 : Int32)) (8 : Int32) q2 hq) ⟨⟨rfl, rfl⟩, Nat.le_of_ble_eq_true rfl, Nat.le_of_ble_eq_true rfl⟩ rfl hl.1 rfl (Nat.le_of_ble_eq_true rfl) dX0_moveMen_52 ⟨Nat.zero_le _, Nat.zero_le _⟩ (fun q2 H locs hw hf => ?_)
  refine lv_aload_n hx hb dX0_moveMen_55 rfl (lv_at hl 1 rfl) ?_
  refine gf_X0_24 cx hw hk0 dX0_moveMen_56 ?_
  refine lv_iload_n hx hb dX0_moveMen_59 rfl (lv_at hl 0 rfl) ?_
  refine lv_aload_n hx hb dX0_moveMen_60 rfl (lv_at hl 1 rfl) ?_
  refine gf_X0_24 cx hw hk0 dX0_moveMen_61 ?_
  refine lv_aload_n hx hb dX0_moveMen_64 rfl (lv_at hl 1 rfl) ?_
  refine gf_X0_41 cx hw hk0 dX0_moveMen_65 ?_
  refine r_SN_i (As := [.ref (gg_a g (ky k0 6)), .int (st_I q2 (ky k0 1))]) (rest := [.int ((st_I S (ky k0 1)) + (1 : Int32)), .ref (gg_a g (ky k0 6))]) cx hw hf (nw_at cx) lk_X0_68 (fun q3 hq => k_X5_at l g hg (ky k0 6) (hk0.2.2.1 6 rfl) q2 (st_I q2 (ky k0 1)) q3 hq) ⟨⟨rfl, rfl⟩, Nat.le_of_ble_eq_true rfl, Nat.le_of_ble_eq_true rfl⟩ rfl hl.1 rfl (Nat.le_of_ble_eq_true rfl) dX0_moveMen_68 ⟨Nat.zero_le _, Nat.zero_le _⟩ (fun q3 H locs hw hf => ?_)
  refine r_SN_v (As := [.ref (gg_a g (ky k0 6)), .int ((st_I S (ky k0 1)) + (1 : Int32)), .int q3]) (rest := []) cx hw hf (nw_at cx) lk_X0_60 (fun q4 hq => k_X5_put l g hg (ky k0 6) (hk0.2.2.1 6 rfl) q2 ((st_I S (ky k0 1)) + (1 : Int32)) q3 q4 hq) ⟨⟨rfl, rfl⟩, Nat.le_of_ble_eq_true rfl, Nat.le_of_ble_eq_true rfl⟩ rfl hl.1 rfl (Nat.le_of_ble_eq_true rfl) dX0_moveMen_71 ⟨Nat.zero_le _, Nat.zero_le _⟩ (fun q4 H locs hw hf => ?_)
  refine lv_iconst (v := 0) hx hb dX0_moveMen_74 (by decide) ?_
  refine lv_istore_n hx hb dX0_moveMen_75 rfl hl (by decide) (lv' := [(2, .int (0 : Int32)), (1, .int ((st_I S (ky k0 1)) + (1 : Int32))), (0, .ref (gg_o g k0))]) rfl (fun ls hl => ?_)
  have L76 : ∀ (x1 : Int32) (aft76 : St → Option (St)), (∀ (ls : Array Slot) (H : Heap) (locs : List Loc) (S1 : St), lv_has ls 3 [(0, .ref (gg_o g k0)), (1, .int x1)] → HH wd_C g s S1 H locs → aft76 S1 = some q → W p l e rm_X0_moveMen s m args below meth c H locs 0 0 (MQ below (qc_v wd_C g q) args s 0 0 (aw g)) (F0 m 111 ls [])) → ∀ (n76 : Nat) (ls : Array Slot) (H : Heap) (locs : List Loc) (z76 : Int32 × St), lv_has ls 3 [(0, .ref (gg_o g k0)), (1, .int x1), (2, .int z76.1)] → HH wd_C g s z76.2 H locs → (iter (f_X0_moveMen_L76 k0  x1) n76 z76).bind aft76 = some q → W p l e rm_X0_moveMen s m args below meth c H locs 0 0 (MQ below (qc_v wd_C g q) args s 0 0 (aw g)) (F0 m 76 ls []) := by
    intro x1 aft76 hX76 n76
    induction n76 with
    | zero => intro ls H locs z76 hl hw hf; exact h_iter0 hf
    | succ n76 ih76 =>
      intro ls H locs z76 hl hw hf
      replace hf := h_iter hf
      unfold f_X0_moveMen_L76 at hf
      refine lv_iload_n hx hb dX0_moveMen_76 rfl (lv_at hl 2 rfl) ?_
      refine lv_aload_n hx hb dX0_moveMen_77 rfl (lv_at hl 0 rfl) ?_
      obtain ⟨hc5, hf⟩ := h_chk hf
      refine gf_X0_33 cx hw hk0 dX0_moveMen_78 ?_
      refine gf_X0_82 cx hw ((allT_at hA hc5).1) dX0_moveMen_81 ?_
      refine lv_icmp_ge hx hb dX0_moveMen_84 (tgt := 111) rfl (fun hc6 => ?_) (fun hc6 => ?_)
      · replace hf := h_pos hc6 hf
        exact hX76 _ _ _ z76.2 (lv_sub hl [0, 1] rfl) hw hf
      replace hf := h_neg hc6 hf
      refine lv_aload_n hx hb dX0_moveMen_87 rfl (lv_at hl 0 rfl) ?_
      refine gf_X0_9 cx hw hk0 dX0_moveMen_88 ?_
      refine lv_iload_n hx hb dX0_moveMen_91 rfl (lv_at hl 1 rfl) ?_
      refine lv_bipush (v := 6) hx hb dX0_moveMen_92 (by decide) ?_
      refine lv_imul hx hb dX0_moveMen_94 ?_
      refine lv_iload_n hx hb dX0_moveMen_95 rfl (lv_at hl 2 rfl) ?_
      refine lv_iadd hx hb dX0_moveMen_96 ?_
      refine lv_aload_n hx hb dX0_moveMen_97 rfl (lv_at hl 0 rfl) ?_
      refine lv_iload_n hx hb dX0_moveMen_98 rfl (lv_at hl 2 rfl) ?_
      refine r_V_w (As := [.int z76.1]) (rest := [.int ((x1 * (6 : Int32)) + z76.1), .ref (gg_a g (ky k0 2))]) cx hw hf hk0.2.1 (by rw [hk0.1]; rfl) lk_X0_160 (fun q7 hq => k_X0_roomAfter l g hg k0 hk0 hA z76.2 z76.1 q7 hq) ⟨⟨rfl, rfl⟩, Nat.le_of_ble_eq_true rfl, Nat.le_of_ble_eq_true rfl⟩ rfl hl.1 rfl (Nat.le_of_ble_eq_true rfl) dX0_moveMen_99 ⟨Nat.zero_le _, Nat.zero_le _⟩ (fun q7 H locs hw hf => ?_)
      refine r_SN_v (As := [.ref (gg_a g (ky k0 2)), .int ((x1 * (6 : Int32)) + z76.1), .int q7.1]) (rest := []) cx hw hf (nw_at cx) lk_X0_60 (fun q8 hq => k_X5_put l g hg (ky k0 2) (hk0.2.2.1 2 rfl) q7.2 ((x1 * (6 : Int32)) + z76.1) q7.1 q8 hq) ⟨⟨rfl, rfl⟩, Nat.le_of_ble_eq_true rfl, Nat.le_of_ble_eq_true rfl⟩ rfl hl.1 rfl (Nat.le_of_ble_eq_true rfl) dX0_moveMen_102 ⟨Nat.zero_le _, Nat.zero_le _⟩ (fun q8 H locs hw hf => ?_)
      refine lv_iinc hx hb dX0_moveMen_105 hl (k := 2) rfl (congrArg (HAdd.hAdd _) (show Int32.ofInt (1) = 1 by decide)) (by decide) (lv' := [(2, .int (z76.1 + 1)), (0, .ref (gg_o g k0)), (1, .int x1)]) rfl (fun ls hl => ?_)
      refine lv_goto hx hb dX0_moveMen_108 (tgt := 76) rfl ?_
      exact ih76 _ _ _ ((z76.1 + 1), q8) (lv_sub hl [1, 2, 0] rfl) hw hf
  refine L76 ((st_I S (ky k0 1)) + (1 : Int32)) _ (fun ls H locs S9 hl hw hf => ?_) FU _ _ _ ((0 : Int32), q4) (lv_sub hl [2, 1, 0] rfl) hw (h_assoc hf)
  try dsimp only at hf
  refine lv_aload_n hx hb dX0_moveMen_111 rfl (lv_at hl 0 rfl) ?_
  refine lv_iload_n hx hb dX0_moveMen_112 rfl (lv_at hl 1 rfl) ?_
  refine pf_X0_41 cx hw hk0 hf dX0_moveMen_113 (fun S10 H locs hw hf => ?_)
  exact r_vret cx hw hr hlk hf dX0_moveMen_116
theorem dX4_mixed_0 : decode cX4_mixed 0 = .ok (.iload_n 0, 1) := by decide +kernel
theorem dX4_mixed_1 : decode cX4_mixed 1 = .ok (.iload_n 1, 1) := by decide +kernel
theorem dX4_mixed_2 : decode cX4_mixed 2 = .ok (.ixor, 1) := by decide +kernel
theorem dX4_mixed_3 : decode cX4_mixed 3 = .ok (.ldc 154, 2) := by decide +kernel
theorem dX4_mixed_5 : decode cX4_mixed 5 = .ok (.imul, 1) := by decide +kernel
theorem dX4_mixed_6 : decode cX4_mixed 6 = .ok (.sipush 12345, 3) := by decide +kernel
theorem dX4_mixed_9 : decode cX4_mixed 9 = .ok (.iadd, 1) := by decide +kernel
theorem dX4_mixed_10 : decode cX4_mixed 10 = .ok (.istore_n 2, 1) := by decide +kernel
theorem dX4_mixed_11 : decode cX4_mixed 11 = .ok (.iload_n 2, 1) := by decide +kernel
theorem dX4_mixed_12 : decode cX4_mixed 12 = .ok (.iload_n 2, 1) := by decide +kernel
theorem dX4_mixed_13 : decode cX4_mixed 13 = .ok (.bipush 15, 2) := by decide +kernel
theorem dX4_mixed_15 : decode cX4_mixed 15 = .ok (.iushr, 1) := by decide +kernel
theorem dX4_mixed_16 : decode cX4_mixed 16 = .ok (.ixor, 1) := by decide +kernel
theorem dX4_mixed_17 : decode cX4_mixed 17 = .ok (.ireturn, 1) := by decide +kernel
abbrev rm_X4_mixed : Room := { frames := 0, cells := 0, slots := 0, locals := 0 }
def f_X4_mixed (x0 : Int32) (x1 : Int32) : Option (Int32) :=
  lt_v (((x0 ^^^ x1) * (1103515245 : Int32)) + (12345 : Int32)) (fun (u1 : Int32) => some (u1 ^^^ (i_ushr u1 (15 : Int32))))
set_option maxRecDepth 100000 in
set_option maxHeartbeats 4000000 in
theorem k_X4_mixed (l : Launch) (g : GG) (hg : gd wd_C g)  (S : St) (x0 : Int32) (x1 : Int32) (q : Int32) (hf : f_X4_mixed   x0 x1 = some q) : Met l yX4_mixed (Cond.code yX4_mixed cX4_mixed 3 (some .int) :: gw_tbl) rm_X4_mixed (va_Pc [.int x0, .int x1] (wI wd_C g S)) (qc_i wd_C g S q) 0 0 (aw g) := by
  refine mt_start (own := RX4) hg (by decide) rfl (Nat.le_of_ble_eq_true rfl) (fun p e s m args below meth c ls H locs cx hw hr hlk hl => ?_)
  have hx := cx.1
  have hb := cx.2.1
  have hown := cx.2.2.2.1
  have hts := cx.2.2.2.2.1
  have hl : lv_has ls 3 [(0, .int x0), (1, .int x1)] := hl
  replace hf := h_top hf
  unfold f_X4_mixed at hf
  refine lv_iload_n hx hb dX4_mixed_0 rfl (lv_at hl 0 rfl) ?_
  refine lv_iload_n hx hb dX4_mixed_1 rfl (lv_at hl 1 rfl) ?_
  refine lv_ixor hx hb dX4_mixed_2 ?_
  refine lv_ldc hx hb hown (hts _ wd_782) dX4_mixed_3 ?_
  refine lv_imul hx hb dX4_mixed_5 ?_
  refine lv_sipush (v := 12345) hx hb dX4_mixed_6 (by decide) ?_
  refine lv_iadd hx hb dX4_mixed_9 ?_
  refine r_leti hf (fun u1 hf => ?_)
  refine lv_istore_n hx hb dX4_mixed_10 rfl hl (by decide) (lv' := [(2, .int u1), (0, .int x0), (1, .int x1)]) rfl (fun ls hl => ?_)
  refine lv_iload_n hx hb dX4_mixed_11 rfl (lv_at hl 0 rfl) ?_
  refine lv_iload_n hx hb dX4_mixed_12 rfl (lv_at hl 0 rfl) ?_
  refine lv_bipush (v := 15) hx hb dX4_mixed_13 (by decide) ?_
  refine lv_iushr (v := i_ushr u1 (15 : Int32)) hx hb dX4_mixed_15 rfl ?_
  refine lv_ixor hx hb dX4_mixed_16 ?_
  exact r_iret cx hw hr hlk hf dX4_mixed_17
theorem dX4_lot_0 : decode cX4_lot 0 = .ok (.iload_n 1, 1) := by decide +kernel
theorem dX4_lot_1 : decode cX4_lot 1 = .ok (.bipush 43, 2) := by decide +kernel
theorem dX4_lot_3 : decode cX4_lot 3 = .ok (.invokestatic 150, 3) := by decide +kernel
theorem dX4_lot_6 : decode cX4_lot 6 = .ok (.iload_n 2, 1) := by decide +kernel
theorem dX4_lot_7 : decode cX4_lot 7 = .ok (.invokestatic 150, 3) := by decide +kernel
theorem dX4_lot_10 : decode cX4_lot 10 = .ok (.istore_n 3, 1) := by decide +kernel
theorem dX4_lot_11 : decode cX4_lot 11 = .ok (.iload_n 0, 1) := by decide +kernel
theorem dX4_lot_12 : decode cX4_lot 12 = .ok (.ifCond .ne 7, 3) := by decide +kernel
theorem dX4_lot_15 : decode cX4_lot 15 = .ok (.iconst 0, 1) := by decide +kernel
theorem dX4_lot_16 : decode cX4_lot 16 = .ok (.goto 8, 3) := by decide +kernel
theorem dX4_lot_19 : decode cX4_lot 19 = .ok (.iload_n 3, 1) := by decide +kernel
theorem dX4_lot_20 : decode cX4_lot 20 = .ok (.iconst 1, 1) := by decide +kernel
theorem dX4_lot_21 : decode cX4_lot 21 = .ok (.iushr, 1) := by decide +kernel
theorem dX4_lot_22 : decode cX4_lot 22 = .ok (.iload_n 0, 1) := by decide +kernel
theorem dX4_lot_23 : decode cX4_lot 23 = .ok (.irem, 1) := by decide +kernel
theorem dX4_lot_24 : decode cX4_lot 24 = .ok (.ireturn, 1) := by decide +kernel
abbrev rm_X4_lot : Room := { frames := 1, cells := 0, slots := 0, locals := 22 }
def f_X4_lot (x0 : Int32) (x1 : Int32) (x2 : Int32) : Option (Int32) :=
  (f_X4_mixed   x1 (43 : Int32)).bind (fun (q1 : Int32) => (f_X4_mixed   q1 x2).bind (fun (q2 : Int32) => if x0 = 0 then (some (0 : Int32)) else (chk (¬ x0 = 0) (some (i_rem (i_ushr q2 (1 : Int32)) x0)))))
set_option maxRecDepth 100000 in
set_option maxHeartbeats 4000000 in
theorem k_X4_lot (l : Launch) (g : GG) (hg : gd wd_C g)  (S : St) (x0 : Int32) (x1 : Int32) (x2 : Int32) (q : Int32) (hf : f_X4_lot   x0 x1 x2 = some q) : Met l yX4_lot (Cond.code yX4_lot cX4_lot 4 (some .int) :: gw_tbl) rm_X4_lot (va_Pc [.int x0, .int x1, .int x2] (wI wd_C g S)) (qc_i wd_C g S q) 0 0 (aw g) := by
  refine mt_start (own := RX4) hg (by decide) rfl (Nat.le_of_ble_eq_true rfl) (fun p e s m args below meth c ls H locs cx hw hr hlk hl => ?_)
  have hx := cx.1
  have hb := cx.2.1
  have hown := cx.2.2.2.1
  have hts := cx.2.2.2.2.1
  have hl : lv_has ls 4 [(0, .int x0), (1, .int x1), (2, .int x2)] := hl
  replace hf := h_top hf
  unfold f_X4_lot at hf
  refine lv_iload_n hx hb dX4_lot_0 rfl (lv_at hl 1 rfl) ?_
  refine lv_bipush (v := 43) hx hb dX4_lot_1 (by decide) ?_
  refine r_S_i (As := [.int x1, .int (43 : Int32)]) (rest := []) cx hw hf lk_X4_150 (fun q1 hq => k_X4_mixed l g hg   S x1 (43 : Int32) q1 hq) ⟨⟨rfl, rfl⟩, Nat.le_of_ble_eq_true rfl, Nat.le_of_ble_eq_true rfl⟩ rfl hl.1 rfl (Nat.le_of_ble_eq_true rfl) dX4_lot_3 ⟨Nat.zero_le _, Nat.zero_le _⟩ (fun q1 H locs hw hf => ?_)
  refine lv_iload_n hx hb dX4_lot_6 rfl (lv_at hl 2 rfl) ?_
  refine r_S_i (As := [.int q1, .int x2]) (rest := []) cx hw hf lk_X4_150 (fun q2 hq => k_X4_mixed l g hg   S q1 x2 q2 hq) ⟨⟨rfl, rfl⟩, Nat.le_of_ble_eq_true rfl, Nat.le_of_ble_eq_true rfl⟩ rfl hl.1 rfl (Nat.le_of_ble_eq_true rfl) dX4_lot_7 ⟨Nat.zero_le _, Nat.zero_le _⟩ (fun q2 H locs hw hf => ?_)
  refine lv_istore_n hx hb dX4_lot_10 rfl hl (by decide) (lv' := [(3, .int q2), (0, .int x0), (1, .int x1), (2, .int x2)]) rfl (fun ls hl => ?_)
  refine lv_iload_n hx hb dX4_lot_11 rfl (lv_at hl 1 rfl) ?_
  refine lv_if_ne hx hb dX4_lot_12 (tgt := 19) rfl (fun hc3 => ?_) (fun hc3 => ?_)
  · replace hf := h_neg hc3 hf
    refine lv_iload_n hx hb dX4_lot_19 rfl (lv_at hl 0 rfl) ?_
    refine lv_iconst (v := 1) hx hb dX4_lot_20 (by decide) ?_
    refine lv_iushr (v := i_ushr q2 (1 : Int32)) hx hb dX4_lot_21 rfl ?_
    refine lv_iload_n hx hb dX4_lot_22 rfl (lv_at hl 1 rfl) ?_
    obtain ⟨hc4, hf⟩ := h_chk hf
    refine lv_irem hx hb dX4_lot_23 hc4 ?_
    exact r_iret cx hw hr hlk hf dX4_lot_24
  replace hf := h_pos hc3 hf
  refine lv_iconst (v := 0) hx hb dX4_lot_15 (by decide) ?_
  refine lv_goto hx hb dX4_lot_16 (tgt := 24) rfl ?_
  exact r_iret cx hw hr hlk hf dX4_lot_24
theorem dX4_breaksAt_0 : decode cX4_breaksAt 0 = .ok (.bipush 100, 2) := by decide +kernel
theorem dX4_breaksAt_2 : decode cX4_breaksAt 2 = .ok (.iload_n 1, 1) := by decide +kernel
theorem dX4_breaksAt_3 : decode cX4_breaksAt 3 = .ok (.bipush 8, 2) := by decide +kernel
theorem dX4_breaksAt_5 : decode cX4_breaksAt 5 = .ok (.iload_n 2, 1) := by decide +kernel
theorem dX4_breaksAt_6 : decode cX4_breaksAt 6 = .ok (.imul, 1) := by decide +kernel
theorem dX4_breaksAt_7 : decode cX4_breaksAt 7 = .ok (.iload_n 3, 1) := by decide +kernel
theorem dX4_breaksAt_8 : decode cX4_breaksAt 8 = .ok (.iadd, 1) := by decide +kernel
theorem dX4_breaksAt_9 : decode cX4_breaksAt 9 = .ok (.invokestatic 146, 3) := by decide +kernel
theorem dX4_breaksAt_12 : decode cX4_breaksAt 12 = .ok (.aload_n 0, 1) := by decide +kernel
theorem dX4_breaksAt_13 : decode cX4_breaksAt 13 = .ok (.getfield 63, 3) := by decide +kernel
theorem dX4_breaksAt_16 : decode cX4_breaksAt 16 = .ok (.if_icmp .ge 7, 3) := by decide +kernel
theorem dX4_breaksAt_19 : decode cX4_breaksAt 19 = .ok (.iconst 1, 1) := by decide +kernel
theorem dX4_breaksAt_20 : decode cX4_breaksAt 20 = .ok (.goto 4, 3) := by decide +kernel
theorem dX4_breaksAt_23 : decode cX4_breaksAt 23 = .ok (.iconst 0, 1) := by decide +kernel
theorem dX4_breaksAt_24 : decode cX4_breaksAt 24 = .ok (.ireturn, 1) := by decide +kernel
abbrev rm_X4_breaksAt : Room := { frames := 2, cells := 0, slots := 0, locals := 45 }
def f_X4_breaksAt (k0 : Nat) (S : St) (x1 : Int32) (x2 : Int32) (x3 : Int32) : Option (Int32) :=
  (f_X4_lot   (100 : Int32) x1 (((8 : Int32) * x2) + x3)).bind (fun (q1 : Int32) => if (st_I S (ky k0 4)) ≤ q1 then (some (0 : Int32)) else (some (1 : Int32)))
set_option maxRecDepth 100000 in
set_option maxHeartbeats 4000000 in
theorem k_X4_breaksAt (l : Launch) (g : GG) (hg : gd wd_C g) (k0 : Nat) (hk0 : hT g k0) (S : St) (x1 : Int32) (x2 : Int32) (x3 : Int32) (q : Int32) (hf : f_X4_breaksAt k0 S x1 x2 x3 = some q) : Met l yX4_breaksAt (Cond.code yX4_breaksAt cX4_breaksAt 4 (some .boolean) :: gw_tbl) rm_X4_breaksAt (va_Pc [.ref (gg_o g k0), .int x1, .int x2, .int x3] (wI wd_C g S)) (qc_i wd_C g S q) 0 0 (aw g) := by
  refine mt_start (own := RX4) hg (by decide) rfl (Nat.le_of_ble_eq_true rfl) (fun p e s m args below meth c ls H locs cx hw hr hlk hl => ?_)
  have hx := cx.1
  have hb := cx.2.1
  have hown := cx.2.2.2.1
  have hts := cx.2.2.2.2.1
  have hl : lv_has ls 4 [(0, .ref (gg_o g k0)), (1, .int x1), (2, .int x2), (3, .int x3)] := hl
  replace hf := h_top hf
  unfold f_X4_breaksAt at hf
  refine lv_bipush (v := 100) hx hb dX4_breaksAt_0 (by decide) ?_
  refine lv_iload_n hx hb dX4_breaksAt_2 rfl (lv_at hl 1 rfl) ?_
  refine lv_bipush (v := 8) hx hb dX4_breaksAt_3 (by decide) ?_
  refine lv_iload_n hx hb dX4_breaksAt_5 rfl (lv_at hl 2 rfl) ?_
  refine lv_imul hx hb dX4_breaksAt_6 ?_
  refine lv_iload_n hx hb dX4_breaksAt_7 rfl (lv_at hl 3 rfl) ?_
  refine lv_iadd hx hb dX4_breaksAt_8 ?_
  refine r_S_i (As := [.int (100 : Int32), .int x1, .int (((8 : Int32) * x2) + x3)]) (rest := []) cx hw hf lk_X4_146 (fun q1 hq => k_X4_lot l g hg   S (100 : Int32) x1 (((8 : Int32) * x2) + x3) q1 hq) ⟨⟨rfl, rfl⟩, Nat.le_of_ble_eq_true rfl, Nat.le_of_ble_eq_true rfl⟩ rfl hl.1 rfl (Nat.le_of_ble_eq_true rfl) dX4_breaksAt_9 ⟨Nat.zero_le _, Nat.zero_le _⟩ (fun q1 H locs hw hf => ?_)
  refine lv_aload_n hx hb dX4_breaksAt_12 rfl (lv_at hl 0 rfl) ?_
  refine gf_X4_63 cx hw hk0.1 dX4_breaksAt_13 ?_
  refine lv_icmp_ge hx hb dX4_breaksAt_16 (tgt := 23) rfl (fun hc2 => ?_) (fun hc2 => ?_)
  · replace hf := h_pos hc2 hf
    refine lv_iconst (v := 0) hx hb dX4_breaksAt_23 (by decide) ?_
    exact r_zret cx hw hr hlk (Or.inl rfl) hf dX4_breaksAt_24
  replace hf := h_neg hc2 hf
  refine lv_iconst (v := 1) hx hb dX4_breaksAt_19 (by decide) ?_
  refine lv_goto hx hb dX4_breaksAt_20 (tgt := 24) rfl ?_
  exact r_zret cx hw hr hlk (Or.inr rfl) hf dX4_breaksAt_24
theorem dX0_goTo_0 : decode cX0_goTo 0 = .ok (.aload_n 0, 1) := by decide +kernel
theorem dX0_goTo_1 : decode cX0_goTo 1 = .ok (.getfield 41, 3) := by decide +kernel
theorem dX0_goTo_4 : decode cX0_goTo 4 = .ok (.istore_n 2, 1) := by decide +kernel
theorem dX0_goTo_5 : decode cX0_goTo 5 = .ok (.iload_n 2, 1) := by decide +kernel
theorem dX0_goTo_6 : decode cX0_goTo 6 = .ok (.istore_n 3, 1) := by decide +kernel
theorem dX0_goTo_7 : decode cX0_goTo 7 = .ok (.iload_n 3, 1) := by decide +kernel
theorem dX0_goTo_8 : decode cX0_goTo 8 = .ok (.iload_n 1, 1) := by decide +kernel
theorem dX0_goTo_9 : decode cX0_goTo 9 = .ok (.if_icmp .ge 87, 3) := by decide +kernel
theorem dX0_goTo_12 : decode cX0_goTo 12 = .ok (.iload_n 3, 1) := by decide +kernel
theorem dX0_goTo_13 : decode cX0_goTo 13 = .ok (.sipush 299, 3) := by decide +kernel
theorem dX0_goTo_16 : decode cX0_goTo 16 = .ok (.if_icmp .ge 80, 3) := by decide +kernel
theorem dX0_goTo_19 : decode cX0_goTo 19 = .ok (.aload_n 0, 1) := by decide +kernel
theorem dX0_goTo_20 : decode cX0_goTo 20 = .ok (.invokevirtual 146, 3) := by decide +kernel
theorem dX0_goTo_23 : decode cX0_goTo 23 = .ok (.aload_n 0, 1) := by decide +kernel
theorem dX0_goTo_24 : decode cX0_goTo 24 = .ok (.invokevirtual 65, 3) := by decide +kernel
theorem dX0_goTo_27 : decode cX0_goTo 27 = .ok (.iconst 0, 1) := by decide +kernel
theorem dX0_goTo_28 : decode cX0_goTo 28 = .ok (.istore 4, 2) := by decide +kernel
theorem dX0_goTo_30 : decode cX0_goTo 30 = .ok (.iload 4, 2) := by decide +kernel
theorem dX0_goTo_32 : decode cX0_goTo 32 = .ok (.aload_n 0, 1) := by decide +kernel
theorem dX0_goTo_33 : decode cX0_goTo 33 = .ok (.getfield 33, 3) := by decide +kernel
theorem dX0_goTo_36 : decode cX0_goTo 36 = .ok (.getfield 76, 3) := by decide +kernel
theorem dX0_goTo_39 : decode cX0_goTo 39 = .ok (.if_icmp .ge 51, 3) := by decide +kernel
theorem dX0_goTo_42 : decode cX0_goTo 42 = .ok (.aload_n 0, 1) := by decide +kernel
theorem dX0_goTo_43 : decode cX0_goTo 43 = .ok (.iload 4, 2) := by decide +kernel
theorem dX0_goTo_45 : decode cX0_goTo 45 = .ok (.aload_n 0, 1) := by decide +kernel
theorem dX0_goTo_46 : decode cX0_goTo 46 = .ok (.getfield 41, 3) := by decide +kernel
theorem dX0_goTo_49 : decode cX0_goTo 49 = .ok (.invokevirtual 79, 3) := by decide +kernel
theorem dX0_goTo_52 : decode cX0_goTo 52 = .ok (.ifCond .ne 32, 3) := by decide +kernel
theorem dX0_goTo_55 : decode cX0_goTo 55 = .ok (.aload_n 0, 1) := by decide +kernel
theorem dX0_goTo_56 : decode cX0_goTo 56 = .ok (.getfield 33, 3) := by decide +kernel
theorem dX0_goTo_59 : decode cX0_goTo 59 = .ok (.aload_n 0, 1) := by decide +kernel
theorem dX0_goTo_60 : decode cX0_goTo 60 = .ok (.getfield 33, 3) := by decide +kernel
theorem dX0_goTo_63 : decode cX0_goTo 63 = .ok (.getfield 149, 3) := by decide +kernel
theorem dX0_goTo_66 : decode cX0_goTo 66 = .ok (.aload_n 0, 1) := by decide +kernel
theorem dX0_goTo_67 : decode cX0_goTo 67 = .ok (.getfield 41, 3) := by decide +kernel
theorem dX0_goTo_70 : decode cX0_goTo 70 = .ok (.iload 4, 2) := by decide +kernel
theorem dX0_goTo_72 : decode cX0_goTo 72 = .ok (.invokevirtual 152, 3) := by decide +kernel
theorem dX0_goTo_75 : decode cX0_goTo 75 = .ok (.ifCond .eq 9, 3) := by decide +kernel
theorem dX0_goTo_78 : decode cX0_goTo 78 = .ok (.aload_n 0, 1) := by decide +kernel
theorem dX0_goTo_79 : decode cX0_goTo 79 = .ok (.iload 4, 2) := by decide +kernel
theorem dX0_goTo_81 : decode cX0_goTo 81 = .ok (.invokevirtual 156, 3) := by decide +kernel
theorem dX0_goTo_84 : decode cX0_goTo 84 = .ok (.iinc 4 1, 3) := by decide +kernel
theorem dX0_goTo_87 : decode cX0_goTo 87 = .ok (.goto (-57), 3) := by decide +kernel
theorem dX0_goTo_90 : decode cX0_goTo 90 = .ok (.iinc 3 1, 3) := by decide +kernel
theorem dX0_goTo_93 : decode cX0_goTo 93 = .ok (.goto (-86), 3) := by decide +kernel
theorem dX0_goTo_96 : decode cX0_goTo 96 = .ok (.return_, 1) := by decide +kernel
abbrev rm_X0_goTo : Room := { frames := 4, cells := 0, slots := 0, locals := 166 }
def f_X0_goTo_L30 (k0 : Nat) (x1 : Int32) (x3 : Int32) (z30 : Int32 × St) : Option ((Int32 × St) ⊕ (St)) :=
  chk (isT (st_P z30.2 (ky k0 0))) (if (st_I z30.2 (ky (st_P z30.2 (ky k0 0)) 3)) ≤ z30.1 then (some (.inr z30.2)) else ((f_X0_isBroken k0 z30.2 z30.1 (st_I z30.2 (ky k0 1))).bind (fun (q7 : Int32) => if q7 = 0 then (chk (isT (st_P z30.2 (ky k0 0))) (chk (isT (st_P z30.2 (ky k0 0))) ((f_X4_breaksAt (st_P z30.2 (ky k0 0)) z30.2 (st_I z30.2 (ky (st_P z30.2 (ky k0 0)) 5)) (st_I z30.2 (ky k0 1)) z30.1).bind (fun (q11 : Int32) => if q11 = 0 then (some (.inl ((z30.1 + 1), z30.2))) else ((f_X0_breakNow k0 z30.2 z30.1).bind (fun (q13 : St) => some (.inl ((z30.1 + 1), q13)))))))) else (some (.inl ((z30.1 + 1), z30.2))))))
def f_X0_goTo_L7 (k0 : Nat) (x1 : Int32) (z7 : Int32 × St) : Option ((Int32 × St) ⊕ (St)) :=
  if x1 ≤ z7.1 then (some (.inr z7.2)) else (if (299 : Int32) ≤ z7.1 then (some (.inr z7.2)) else ((f_X0_moveMen k0 z7.2 ).bind (fun (q3 : St) => (f_X0_setLates k0 q3 ).bind (fun (q4 : St) => (iter (f_X0_goTo_L30 k0  x1 z7.1) FU ((0 : Int32), q4)).bind (fun (S14 : St) => some (.inl ((z7.1 + 1), S14)))))))
def f_X0_goTo (k0 : Nat) (S : St) (x1 : Int32) : Option (St) :=
  iter (f_X0_goTo_L7 k0  x1) FU ((st_I S (ky k0 1)), S)
set_option maxRecDepth 100000 in
set_option maxHeartbeats 4000000 in
theorem k_X0_goTo (l : Launch) (g : GG) (hg : gd wd_C g) (k0 : Nat) (hk0 : hs wd_C g k0 0) (hA : allT g) (S : St) (x1 : Int32) (q : St) (hf : f_X0_goTo k0 S x1 = some q) : Met l yX0_goTo (Cond.code yX0_goTo cX0_goTo 5 none :: gw_tbl) rm_X0_goTo (va_Pc [.ref (gg_o g k0), .int x1] (wI wd_C g S)) (qc_v wd_C g q) 0 0 (aw g) := by
  refine mt_start (own := RX0) hg (by decide) rfl (Nat.le_of_ble_eq_true rfl) (fun p e s m args below meth c ls H locs cx hw hr hlk hl => ?_)
  have hx := cx.1
  have hb := cx.2.1
  have hown := cx.2.2.2.1
  have hts := cx.2.2.2.2.1
  have hl : lv_has ls 5 [(0, .ref (gg_o g k0)), (1, .int x1)] := hl
  replace hf := h_top hf
  unfold f_X0_goTo at hf
  refine lv_aload_n hx hb dX0_goTo_0 rfl (lv_at hl 0 rfl) ?_
  refine gf_X0_41 cx hw hk0 dX0_goTo_1 ?_
  refine lv_istore_n hx hb dX0_goTo_4 rfl hl (by decide) (lv' := [(2, .int (st_I S (ky k0 1))), (0, .ref (gg_o g k0)), (1, .int x1)]) rfl (fun ls hl => ?_)
  refine lv_iload_n hx hb dX0_goTo_5 rfl (lv_at hl 0 rfl) ?_
  refine lv_istore_n hx hb dX0_goTo_6 rfl hl (by decide) (lv' := [(3, .int (st_I S (ky k0 1))), (2, .int (st_I S (ky k0 1))), (0, .ref (gg_o g k0)), (1, .int x1)]) rfl (fun ls hl => ?_)
  have L7 : ∀ (x1 : Int32) (aft7 : St → Option (St)), (∀ v : St, aft7 v = some q → (some v : Option (St)).bind some = some q) → ∀ (n7 : Nat) (ls : Array Slot) (H : Heap) (locs : List Loc) (z7 : Int32 × St), lv_has ls 5 [(0, .ref (gg_o g k0)), (1, .int x1), (3, .int z7.1)] → HH wd_C g s z7.2 H locs → (iter (f_X0_goTo_L7 k0  x1) n7 z7).bind aft7 = some q → W p l e rm_X0_goTo s m args below meth c H locs 0 0 (MQ below (qc_v wd_C g q) args s 0 0 (aw g)) (F0 m 7 ls []) := by
    intro x1 aft7 hR7 n7
    induction n7 with
    | zero => intro ls H locs z7 hl hw hf; exact h_iter0 hf
    | succ n7 ih7 =>
      intro ls H locs z7 hl hw hf
      replace hf := h_iter hf
      unfold f_X0_goTo_L7 at hf
      refine lv_iload_n hx hb dX0_goTo_7 rfl (lv_at hl 2 rfl) ?_
      refine lv_iload_n hx hb dX0_goTo_8 rfl (lv_at hl 1 rfl) ?_
      refine lv_icmp_ge hx hb dX0_goTo_9 (tgt := 96) rfl (fun hc1 => ?_) (fun hc1 => ?_)
      · replace hf := h_pos hc1 hf
        replace hf := hR7 z7.2 hf
        exact r_vret cx hw hr hlk hf dX0_goTo_96
      replace hf := h_neg hc1 hf
      refine lv_iload_n hx hb dX0_goTo_12 rfl (lv_at hl 2 rfl) ?_
      refine lv_sipush (v := 299) hx hb dX0_goTo_13 (by decide) ?_
      refine lv_icmp_ge hx hb dX0_goTo_16 (tgt := 96) rfl (fun hc2 => ?_) (fun hc2 => ?_)
      · replace hf := h_pos hc2 hf
        replace hf := hR7 z7.2 hf
        exact r_vret cx hw hr hlk hf dX0_goTo_96
      replace hf := h_neg hc2 hf
      refine lv_aload_n hx hb dX0_goTo_19 rfl (lv_at hl 0 rfl) ?_
      refine r_V_v (As := []) (rest := []) cx hw hf hk0.2.1 (by rw [hk0.1]; rfl) lk_X0_146 (fun q3 hq => k_X0_moveMen l g hg k0 hk0 hA z7.2  q3 hq) ⟨⟨rfl, rfl⟩, Nat.le_of_ble_eq_true rfl, Nat.le_of_ble_eq_true rfl⟩ rfl hl.1 rfl (Nat.le_of_ble_eq_true rfl) dX0_goTo_20 ⟨Nat.zero_le _, Nat.zero_le _⟩ (fun q3 H locs hw hf => ?_)
      refine lv_aload_n hx hb dX0_goTo_23 rfl (lv_at hl 0 rfl) ?_
      refine r_V_v (As := []) (rest := []) cx hw hf hk0.2.1 (by rw [hk0.1]; rfl) lk_X0_65 (fun q4 hq => k_X0_setLates l g hg k0 hk0 hA q3  q4 hq) ⟨⟨rfl, rfl⟩, Nat.le_of_ble_eq_true rfl, Nat.le_of_ble_eq_true rfl⟩ rfl hl.1 rfl (Nat.le_of_ble_eq_true rfl) dX0_goTo_24 ⟨Nat.zero_le _, Nat.zero_le _⟩ (fun q4 H locs hw hf => ?_)
      refine lv_iconst (v := 0) hx hb dX0_goTo_27 (by decide) ?_
      refine lv_istore hx hb dX0_goTo_28 hl (by decide) (lv' := [(4, .int (0 : Int32)), (0, .ref (gg_o g k0)), (1, .int x1), (3, .int z7.1)]) rfl (fun ls hl => ?_)
      have L30 : ∀ (x1 : Int32) (x3 : Int32) (aft30 : St → Option (St)), (∀ (ls : Array Slot) (H : Heap) (locs : List Loc) (S1 : St), lv_has ls 5 [(0, .ref (gg_o g k0)), (1, .int x1), (3, .int x3)] → HH wd_C g s S1 H locs → aft30 S1 = some q → W p l e rm_X0_goTo s m args below meth c H locs 0 0 (MQ below (qc_v wd_C g q) args s 0 0 (aw g)) (F0 m 90 ls [])) → ∀ (n30 : Nat) (ls : Array Slot) (H : Heap) (locs : List Loc) (z30 : Int32 × St), lv_has ls 5 [(0, .ref (gg_o g k0)), (1, .int x1), (3, .int x3), (4, .int z30.1)] → HH wd_C g s z30.2 H locs → (iter (f_X0_goTo_L30 k0  x1 x3) n30 z30).bind aft30 = some q → W p l e rm_X0_goTo s m args below meth c H locs 0 0 (MQ below (qc_v wd_C g q) args s 0 0 (aw g)) (F0 m 30 ls []) := by
        intro x1 x3 aft30 hX30 n30
        induction n30 with
        | zero => intro ls H locs z30 hl hw hf; exact h_iter0 hf
        | succ n30 ih30 =>
          intro ls H locs z30 hl hw hf
          replace hf := h_iter hf
          unfold f_X0_goTo_L30 at hf
          refine lv_iload hx hb dX0_goTo_30 (lv_at hl 3 rfl) ?_
          refine lv_aload_n hx hb dX0_goTo_32 rfl (lv_at hl 0 rfl) ?_
          obtain ⟨hc5, hf⟩ := h_chk hf
          refine gf_X0_33 cx hw hk0 dX0_goTo_33 ?_
          refine gf_X0_76 cx hw ((allT_at hA hc5).1) dX0_goTo_36 ?_
          refine lv_icmp_ge hx hb dX0_goTo_39 (tgt := 90) rfl (fun hc6 => ?_) (fun hc6 => ?_)
          · replace hf := h_pos hc6 hf
            exact hX30 _ _ _ z30.2 (lv_sub hl [0, 1, 2] rfl) hw hf
          replace hf := h_neg hc6 hf
          refine lv_aload_n hx hb dX0_goTo_42 rfl (lv_at hl 0 rfl) ?_
          refine lv_iload hx hb dX0_goTo_43 (lv_at hl 3 rfl) ?_
          refine lv_aload_n hx hb dX0_goTo_45 rfl (lv_at hl 0 rfl) ?_
          refine gf_X0_41 cx hw hk0 dX0_goTo_46 ?_
          refine r_V_i (As := [.int z30.1, .int (st_I z30.2 (ky k0 1))]) (rest := []) cx hw hf hk0.2.1 (by rw [hk0.1]; rfl) lk_X0_79 (fun q7 hq => k_X0_isBroken l g hg k0 hk0 hA z30.2 z30.1 (st_I z30.2 (ky k0 1)) q7 hq) ⟨⟨rfl, rfl⟩, Nat.le_of_ble_eq_true rfl, Nat.le_of_ble_eq_true rfl⟩ rfl hl.1 rfl (Nat.le_of_ble_eq_true rfl) dX0_goTo_49 ⟨Nat.zero_le _, Nat.zero_le _⟩ (fun q7 H locs hw hf => ?_)
          refine lv_if_ne hx hb dX0_goTo_52 (tgt := 84) rfl (fun hc8 => ?_) (fun hc8 => ?_)
          · replace hf := h_neg hc8 hf
            refine lv_iinc hx hb dX0_goTo_84 hl (k := 3) rfl (congrArg (HAdd.hAdd _) (show Int32.ofInt (1) = 1 by decide)) (by decide) (lv' := [(4, .int (z30.1 + 1)), (0, .ref (gg_o g k0)), (1, .int x1), (3, .int x3)]) rfl (fun ls hl => ?_)
            refine lv_goto hx hb dX0_goTo_87 (tgt := 30) rfl ?_
            exact ih30 _ _ _ ((z30.1 + 1), z30.2) (lv_sub hl [1, 2, 3, 0] rfl) hw hf
          replace hf := h_pos hc8 hf
          refine lv_aload_n hx hb dX0_goTo_55 rfl (lv_at hl 0 rfl) ?_
          obtain ⟨hc9, hf⟩ := h_chk hf
          refine gf_X0_33 cx hw hk0 dX0_goTo_56 ?_
          refine lv_aload_n hx hb dX0_goTo_59 rfl (lv_at hl 0 rfl) ?_
          obtain ⟨hc10, hf⟩ := h_chk hf
          refine gf_X0_33 cx hw hk0 dX0_goTo_60 ?_
          refine gf_X0_149 cx hw ((allT_at hA hc10).1) dX0_goTo_63 ?_
          refine lv_aload_n hx hb dX0_goTo_66 rfl (lv_at hl 0 rfl) ?_
          refine gf_X0_41 cx hw hk0 dX0_goTo_67 ?_
          refine lv_iload hx hb dX0_goTo_70 (lv_at hl 3 rfl) ?_
          refine r_VN_i (As := [.int (st_I z30.2 (ky (st_P z30.2 (ky k0 0)) 5)), .int (st_I z30.2 (ky k0 1)), .int z30.1]) (rest := []) cx hw hf (nw_at cx) ((allT_at hA hc9).1).2.1 (by rw [((allT_at hA hc9).1).1]; rfl) lk_X0_152 (fun q11 hq => k_X4_breaksAt l g hg (st_P z30.2 (ky k0 0)) (allT_at hA hc9) z30.2 (st_I z30.2 (ky (st_P z30.2 (ky k0 0)) 5)) (st_I z30.2 (ky k0 1)) z30.1 q11 hq) ⟨⟨rfl, rfl⟩, Nat.le_of_ble_eq_true rfl, Nat.le_of_ble_eq_true rfl⟩ rfl hl.1 rfl (Nat.le_of_ble_eq_true rfl) dX0_goTo_72 ⟨Nat.zero_le _, Nat.zero_le _⟩ (fun q11 H locs hw hf => ?_)
          refine lv_if_eq hx hb dX0_goTo_75 (tgt := 84) rfl (fun hc12 => ?_) (fun hc12 => ?_)
          · replace hf := h_pos hc12 hf
            refine lv_iinc hx hb dX0_goTo_84 hl (k := 3) rfl (congrArg (HAdd.hAdd _) (show Int32.ofInt (1) = 1 by decide)) (by decide) (lv' := [(4, .int (z30.1 + 1)), (0, .ref (gg_o g k0)), (1, .int x1), (3, .int x3)]) rfl (fun ls hl => ?_)
            refine lv_goto hx hb dX0_goTo_87 (tgt := 30) rfl ?_
            exact ih30 _ _ _ ((z30.1 + 1), z30.2) (lv_sub hl [1, 2, 3, 0] rfl) hw hf
          replace hf := h_neg hc12 hf
          refine lv_aload_n hx hb dX0_goTo_78 rfl (lv_at hl 0 rfl) ?_
          refine lv_iload hx hb dX0_goTo_79 (lv_at hl 3 rfl) ?_
          refine r_V_v (As := [.int z30.1]) (rest := []) cx hw hf hk0.2.1 (by rw [hk0.1]; rfl) lk_X0_156 (fun q13 hq => k_X0_breakNow l g hg k0 hk0 hA z30.2 z30.1 q13 hq) ⟨⟨rfl, rfl⟩, Nat.le_of_ble_eq_true rfl, Nat.le_of_ble_eq_true rfl⟩ rfl hl.1 rfl (Nat.le_of_ble_eq_true rfl) dX0_goTo_81 ⟨Nat.zero_le _, Nat.zero_le _⟩ (fun q13 H locs hw hf => ?_)
          refine lv_iinc hx hb dX0_goTo_84 hl (k := 3) rfl (congrArg (HAdd.hAdd _) (show Int32.ofInt (1) = 1 by decide)) (by decide) (lv' := [(4, .int (z30.1 + 1)), (0, .ref (gg_o g k0)), (1, .int x1), (3, .int x3)]) rfl (fun ls hl => ?_)
          refine lv_goto hx hb dX0_goTo_87 (tgt := 30) rfl ?_
          exact ih30 _ _ _ ((z30.1 + 1), q13) (lv_sub hl [1, 2, 3, 0] rfl) hw hf
      refine L30 x1 z7.1 _ (fun ls H locs S14 hl hw hf => ?_) FU _ _ _ ((0 : Int32), q4) (lv_sub hl [1, 2, 3, 0] rfl) hw (h_assoc hf)
      try dsimp only at hf
      refine lv_iinc hx hb dX0_goTo_90 hl (k := 2) rfl (congrArg (HAdd.hAdd _) (show Int32.ofInt (1) = 1 by decide)) (by decide) (lv' := [(3, .int (z7.1 + 1)), (0, .ref (gg_o g k0)), (1, .int x1)]) rfl (fun ls hl => ?_)
      refine lv_goto hx hb dX0_goTo_93 (tgt := 7) rfl ?_
      exact ih7 _ _ _ ((z7.1 + 1), S14) (lv_sub hl [1, 2, 0] rfl) hw hf
  exact L7 x1 some (fun v h => h) FU _ _ _ ((st_I S (ky k0 1)), S) (lv_sub hl [2, 3, 0] rfl) hw hf
theorem dX1_emit_0 : decode cX1_emit 0 = .ok (.aload_n 0, 1) := by decide +kernel
theorem dX1_emit_1 : decode cX1_emit 1 = .ok (.getfield 9, 3) := by decide +kernel
theorem dX1_emit_4 : decode cX1_emit 4 = .ok (.aload_n 0, 1) := by decide +kernel
theorem dX1_emit_5 : decode cX1_emit 5 = .ok (.getfield 25, 3) := by decide +kernel
theorem dX1_emit_8 : decode cX1_emit 8 = .ok (.iload_n 1, 1) := by decide +kernel
theorem dX1_emit_9 : decode cX1_emit 9 = .ok (.invokestatic 33, 3) := by decide +kernel
theorem dX1_emit_12 : decode cX1_emit 12 = .ok (.aload_n 0, 1) := by decide +kernel
theorem dX1_emit_13 : decode cX1_emit 13 = .ok (.getfield 13, 3) := by decide +kernel
theorem dX1_emit_16 : decode cX1_emit 16 = .ok (.aload_n 0, 1) := by decide +kernel
theorem dX1_emit_17 : decode cX1_emit 17 = .ok (.getfield 25, 3) := by decide +kernel
theorem dX1_emit_20 : decode cX1_emit 20 = .ok (.iload_n 2, 1) := by decide +kernel
theorem dX1_emit_21 : decode cX1_emit 21 = .ok (.invokestatic 33, 3) := by decide +kernel
theorem dX1_emit_24 : decode cX1_emit 24 = .ok (.aload_n 0, 1) := by decide +kernel
theorem dX1_emit_25 : decode cX1_emit 25 = .ok (.dup, 1) := by decide +kernel
theorem dX1_emit_26 : decode cX1_emit 26 = .ok (.getfield 25, 3) := by decide +kernel
theorem dX1_emit_29 : decode cX1_emit 29 = .ok (.iconst 1, 1) := by decide +kernel
theorem dX1_emit_30 : decode cX1_emit 30 = .ok (.iadd, 1) := by decide +kernel
theorem dX1_emit_31 : decode cX1_emit 31 = .ok (.putfield 25, 3) := by decide +kernel
theorem dX1_emit_34 : decode cX1_emit 34 = .ok (.return_, 1) := by decide +kernel
abbrev rm_X1_emit : Room := { frames := 1, cells := 0, slots := 0, locals := 22 }
def f_X1_emit (k0 : Nat) (S : St) (x1 : Int32) (x2 : Int32) : Option (St) :=
  (f_X5_put (ky k0 0) S (st_I S (ky k0 2)) x1).bind (fun (q1 : St) => (f_X5_put (ky k0 1) q1 (st_I q1 (ky k0 2)) x2).bind (fun (q2 : St) => lt_v (up_I q2 (ky k0 2) ((st_I q2 (ky k0 2)) + (1 : Int32))) (fun (S3 : St) => some S3)))
set_option maxRecDepth 100000 in
set_option maxHeartbeats 4000000 in
theorem k_X1_emit (l : Launch) (g : GG) (hg : gd wd_C g) (k0 : Nat) (hk0 : hs wd_C g k0 1) (S : St) (x1 : Int32) (x2 : Int32) (q : St) (hf : f_X1_emit k0 S x1 x2 = some q) : Met l yX1_emit (Cond.code yX1_emit cX1_emit 3 none :: gw_tbl) rm_X1_emit (va_Pc [.ref (gg_o g k0), .int x1, .int x2] (wI wd_C g S)) (qc_v wd_C g q) 0 0 (aw g) := by
  refine mt_start (own := RX1) hg (by decide) rfl (Nat.le_of_ble_eq_true rfl) (fun p e s m args below meth c ls H locs cx hw hr hlk hl => ?_)
  have hx := cx.1
  have hb := cx.2.1
  have hown := cx.2.2.2.1
  have hts := cx.2.2.2.2.1
  have hl : lv_has ls 3 [(0, .ref (gg_o g k0)), (1, .int x1), (2, .int x2)] := hl
  replace hf := h_top hf
  unfold f_X1_emit at hf
  refine lv_aload_n hx hb dX1_emit_0 rfl (lv_at hl 0 rfl) ?_
  refine gf_X1_9 cx hw hk0 dX1_emit_1 ?_
  refine lv_aload_n hx hb dX1_emit_4 rfl (lv_at hl 0 rfl) ?_
  refine gf_X1_25 cx hw hk0 dX1_emit_5 ?_
  refine lv_iload_n hx hb dX1_emit_8 rfl (lv_at hl 1 rfl) ?_
  refine r_SN_v (As := [.ref (gg_a g (ky k0 0)), .int (st_I S (ky k0 2)), .int x1]) (rest := []) cx hw hf (nw_at cx) lk_X1_33 (fun q1 hq => k_X5_put l g hg (ky k0 0) (hk0.2.2.1 0 rfl) S (st_I S (ky k0 2)) x1 q1 hq) ⟨⟨rfl, rfl⟩, Nat.le_of_ble_eq_true rfl, Nat.le_of_ble_eq_true rfl⟩ rfl hl.1 rfl (Nat.le_of_ble_eq_true rfl) dX1_emit_9 ⟨Nat.zero_le _, Nat.zero_le _⟩ (fun q1 H locs hw hf => ?_)
  refine lv_aload_n hx hb dX1_emit_12 rfl (lv_at hl 0 rfl) ?_
  refine gf_X1_13 cx hw hk0 dX1_emit_13 ?_
  refine lv_aload_n hx hb dX1_emit_16 rfl (lv_at hl 0 rfl) ?_
  refine gf_X1_25 cx hw hk0 dX1_emit_17 ?_
  refine lv_iload_n hx hb dX1_emit_20 rfl (lv_at hl 2 rfl) ?_
  refine r_SN_v (As := [.ref (gg_a g (ky k0 1)), .int (st_I q1 (ky k0 2)), .int x2]) (rest := []) cx hw hf (nw_at cx) lk_X1_33 (fun q2 hq => k_X5_put l g hg (ky k0 1) (hk0.2.2.1 1 rfl) q1 (st_I q1 (ky k0 2)) x2 q2 hq) ⟨⟨rfl, rfl⟩, Nat.le_of_ble_eq_true rfl, Nat.le_of_ble_eq_true rfl⟩ rfl hl.1 rfl (Nat.le_of_ble_eq_true rfl) dX1_emit_21 ⟨Nat.zero_le _, Nat.zero_le _⟩ (fun q2 H locs hw hf => ?_)
  refine lv_aload_n hx hb dX1_emit_24 rfl (lv_at hl 0 rfl) ?_
  refine lv_dup hx hb dX1_emit_25 rfl ?_
  refine gf_X1_25 cx hw hk0 dX1_emit_26 ?_
  refine lv_iconst (v := 1) hx hb dX1_emit_29 (by decide) ?_
  refine lv_iadd hx hb dX1_emit_30 ?_
  refine pf_X1_25 cx hw hk0 hf dX1_emit_31 (fun S3 H locs hw hf => ?_)
  exact r_vret cx hw hr hlk hf dX1_emit_34
theorem dX1_clear_0 : decode cX1_clear 0 = .ok (.aload_n 0, 1) := by decide +kernel
theorem dX1_clear_1 : decode cX1_clear 1 = .ok (.iconst 0, 1) := by decide +kernel
theorem dX1_clear_2 : decode cX1_clear 2 = .ok (.putfield 25, 3) := by decide +kernel
theorem dX1_clear_5 : decode cX1_clear 5 = .ok (.aload_n 0, 1) := by decide +kernel
theorem dX1_clear_6 : decode cX1_clear 6 = .ok (.iconst 0, 1) := by decide +kernel
theorem dX1_clear_7 : decode cX1_clear 7 = .ok (.iconst 0, 1) := by decide +kernel
theorem dX1_clear_8 : decode cX1_clear 8 = .ok (.invokevirtual 29, 3) := by decide +kernel
theorem dX1_clear_11 : decode cX1_clear 11 = .ok (.aload_n 0, 1) := by decide +kernel
theorem dX1_clear_12 : decode cX1_clear 12 = .ok (.iconst 3, 1) := by decide +kernel
theorem dX1_clear_13 : decode cX1_clear 13 = .ok (.iconst 0, 1) := by decide +kernel
theorem dX1_clear_14 : decode cX1_clear 14 = .ok (.invokevirtual 29, 3) := by decide +kernel
theorem dX1_clear_17 : decode cX1_clear 17 = .ok (.aload_n 0, 1) := by decide +kernel
theorem dX1_clear_18 : decode cX1_clear 18 = .ok (.iconst 1, 1) := by decide +kernel
theorem dX1_clear_19 : decode cX1_clear 19 = .ok (.iconst 2, 1) := by decide +kernel
theorem dX1_clear_20 : decode cX1_clear 20 = .ok (.invokevirtual 29, 3) := by decide +kernel
theorem dX1_clear_23 : decode cX1_clear 23 = .ok (.aload_n 0, 1) := by decide +kernel
theorem dX1_clear_24 : decode cX1_clear 24 = .ok (.iconst 3, 1) := by decide +kernel
theorem dX1_clear_25 : decode cX1_clear 25 = .ok (.iconst 0, 1) := by decide +kernel
theorem dX1_clear_26 : decode cX1_clear 26 = .ok (.invokevirtual 29, 3) := by decide +kernel
theorem dX1_clear_29 : decode cX1_clear 29 = .ok (.return_, 1) := by decide +kernel
abbrev rm_X1_clear : Room := { frames := 2, cells := 0, slots := 0, locals := 44 }
def f_X1_clear (k0 : Nat) (S : St)  : Option (St) :=
  lt_v (up_I S (ky k0 2) (0 : Int32)) (fun (S1 : St) => (f_X1_emit k0 S1 (0 : Int32) (0 : Int32)).bind (fun (q2 : St) => (f_X1_emit k0 q2 (3 : Int32) (0 : Int32)).bind (fun (q3 : St) => (f_X1_emit k0 q3 (1 : Int32) (2 : Int32)).bind (fun (q4 : St) => (f_X1_emit k0 q4 (3 : Int32) (0 : Int32)).bind (fun (q5 : St) => some q5)))))
set_option maxRecDepth 100000 in
set_option maxHeartbeats 4000000 in
theorem k_X1_clear (l : Launch) (g : GG) (hg : gd wd_C g) (k0 : Nat) (hk0 : hs wd_C g k0 1) (S : St)  (q : St) (hf : f_X1_clear k0 S  = some q) : Met l yX1_clear (Cond.code yX1_clear cX1_clear 1 none :: gw_tbl) rm_X1_clear (va_Pc [.ref (gg_o g k0)] (wI wd_C g S)) (qc_v wd_C g q) 0 0 (aw g) := by
  refine mt_start (own := RX1) hg (by decide) rfl (Nat.le_of_ble_eq_true rfl) (fun p e s m args below meth c ls H locs cx hw hr hlk hl => ?_)
  have hx := cx.1
  have hb := cx.2.1
  have hown := cx.2.2.2.1
  have hts := cx.2.2.2.2.1
  have hl : lv_has ls 1 [(0, .ref (gg_o g k0))] := hl
  replace hf := h_top hf
  unfold f_X1_clear at hf
  refine lv_aload_n hx hb dX1_clear_0 rfl (lv_at hl 0 rfl) ?_
  refine lv_iconst (v := 0) hx hb dX1_clear_1 (by decide) ?_
  refine pf_X1_25 cx hw hk0 hf dX1_clear_2 (fun S1 H locs hw hf => ?_)
  refine lv_aload_n hx hb dX1_clear_5 rfl (lv_at hl 0 rfl) ?_
  refine lv_iconst (v := 0) hx hb dX1_clear_6 (by decide) ?_
  refine lv_iconst (v := 0) hx hb dX1_clear_7 (by decide) ?_
  refine r_V_v (As := [.int (0 : Int32), .int (0 : Int32)]) (rest := []) cx hw hf hk0.2.1 (by rw [hk0.1]; rfl) lk_X1_29 (fun q2 hq => k_X1_emit l g hg k0 hk0 S1 (0 : Int32) (0 : Int32) q2 hq) ⟨⟨rfl, rfl⟩, Nat.le_of_ble_eq_true rfl, Nat.le_of_ble_eq_true rfl⟩ rfl hl.1 rfl (Nat.le_of_ble_eq_true rfl) dX1_clear_8 ⟨Nat.zero_le _, Nat.zero_le _⟩ (fun q2 H locs hw hf => ?_)
  refine lv_aload_n hx hb dX1_clear_11 rfl (lv_at hl 0 rfl) ?_
  refine lv_iconst (v := 3) hx hb dX1_clear_12 (by decide) ?_
  refine lv_iconst (v := 0) hx hb dX1_clear_13 (by decide) ?_
  refine r_V_v (As := [.int (3 : Int32), .int (0 : Int32)]) (rest := []) cx hw hf hk0.2.1 (by rw [hk0.1]; rfl) lk_X1_29 (fun q3 hq => k_X1_emit l g hg k0 hk0 q2 (3 : Int32) (0 : Int32) q3 hq) ⟨⟨rfl, rfl⟩, Nat.le_of_ble_eq_true rfl, Nat.le_of_ble_eq_true rfl⟩ rfl hl.1 rfl (Nat.le_of_ble_eq_true rfl) dX1_clear_14 ⟨Nat.zero_le _, Nat.zero_le _⟩ (fun q3 H locs hw hf => ?_)
  refine lv_aload_n hx hb dX1_clear_17 rfl (lv_at hl 0 rfl) ?_
  refine lv_iconst (v := 1) hx hb dX1_clear_18 (by decide) ?_
  refine lv_iconst (v := 2) hx hb dX1_clear_19 (by decide) ?_
  refine r_V_v (As := [.int (1 : Int32), .int (2 : Int32)]) (rest := []) cx hw hf hk0.2.1 (by rw [hk0.1]; rfl) lk_X1_29 (fun q4 hq => k_X1_emit l g hg k0 hk0 q3 (1 : Int32) (2 : Int32) q4 hq) ⟨⟨rfl, rfl⟩, Nat.le_of_ble_eq_true rfl, Nat.le_of_ble_eq_true rfl⟩ rfl hl.1 rfl (Nat.le_of_ble_eq_true rfl) dX1_clear_20 ⟨Nat.zero_le _, Nat.zero_le _⟩ (fun q4 H locs hw hf => ?_)
  refine lv_aload_n hx hb dX1_clear_23 rfl (lv_at hl 0 rfl) ?_
  refine lv_iconst (v := 3) hx hb dX1_clear_24 (by decide) ?_
  refine lv_iconst (v := 0) hx hb dX1_clear_25 (by decide) ?_
  refine r_V_v (As := [.int (3 : Int32), .int (0 : Int32)]) (rest := []) cx hw hf hk0.2.1 (by rw [hk0.1]; rfl) lk_X1_29 (fun q5 hq => k_X1_emit l g hg k0 hk0 q4 (3 : Int32) (0 : Int32) q5 hq) ⟨⟨rfl, rfl⟩, Nat.le_of_ble_eq_true rfl, Nat.le_of_ble_eq_true rfl⟩ rfl hl.1 rfl (Nat.le_of_ble_eq_true rfl) dX1_clear_26 ⟨Nat.zero_le _, Nat.zero_le _⟩ (fun q5 H locs hw hf => ?_)
  exact r_vret cx hw hr hlk hf dX1_clear_29
theorem dX5_longAt_0 : decode cX5_longAt 0 = .ok (.aload_n 0, 1) := by decide +kernel
theorem dX5_longAt_1 : decode cX5_longAt 1 = .ok (.ifnull 19, 3) := by decide +kernel
theorem dX5_longAt_4 : decode cX5_longAt 4 = .ok (.iload_n 1, 1) := by decide +kernel
theorem dX5_longAt_5 : decode cX5_longAt 5 = .ok (.ifCond .lt 15, 3) := by decide +kernel
theorem dX5_longAt_8 : decode cX5_longAt 8 = .ok (.iload_n 1, 1) := by decide +kernel
theorem dX5_longAt_9 : decode cX5_longAt 9 = .ok (.aload_n 0, 1) := by decide +kernel
theorem dX5_longAt_10 : decode cX5_longAt 10 = .ok (.arraylength, 1) := by decide +kernel
theorem dX5_longAt_11 : decode cX5_longAt 11 = .ok (.if_icmp .ge 9, 3) := by decide +kernel
theorem dX5_longAt_14 : decode cX5_longAt 14 = .ok (.aload_n 0, 1) := by decide +kernel
theorem dX5_longAt_15 : decode cX5_longAt 15 = .ok (.iload_n 1, 1) := by decide +kernel
theorem dX5_longAt_16 : decode cX5_longAt 16 = .ok (.laload, 1) := by decide +kernel
theorem dX5_longAt_17 : decode cX5_longAt 17 = .ok (.goto 4, 3) := by decide +kernel
theorem dX5_longAt_20 : decode cX5_longAt 20 = .ok (.lconst 0, 1) := by decide +kernel
theorem dX5_longAt_21 : decode cX5_longAt 21 = .ok (.lreturn, 1) := by decide +kernel
abbrev rm_X5_longAt : Room := { frames := 0, cells := 0, slots := 0, locals := 0 }
def f_X5_longAt (k0 : Nat) (S : St) (x1 : Int32) : Option (Int64) :=
  if x1 < 0 then (some (0 : Int64)) else (if (Int32.ofNat (wk_m wd_C k0)) ≤ x1 then (some (0 : Int64)) else (chk (ib x1 (wk_m wd_C k0)) (some (st_L S k0 x1.toNatClampNeg))))
set_option maxRecDepth 100000 in
set_option maxHeartbeats 4000000 in
theorem k_X5_longAt (l : Launch) (g : GG) (hg : gd wd_C g) (k0 : Nat) (hk0 : k0 ∈ gg_ls g) (S : St) (x1 : Int32) (q : Int64) (hf : f_X5_longAt k0 S x1 = some q) : Met l yX5_longAt (Cond.code yX5_longAt cX5_longAt 2 (some .long) :: gw_tbl) rm_X5_longAt (va_Pc [.ref (gg_l g k0), .int x1] (wI wd_C g S)) (qc_l wd_C g S q) 0 0 (aw g) := by
  refine mt_start (own := RX5) hg (by decide) rfl (Nat.le_of_ble_eq_true rfl) (fun p e s m args below meth c ls H locs cx hw hr hlk hl => ?_)
  have hx := cx.1
  have hb := cx.2.1
  have hown := cx.2.2.2.1
  have hts := cx.2.2.2.2.1
  have hl : lv_has ls 2 [(0, .ref (gg_l g k0)), (1, .int x1)] := hl
  replace hf := h_top hf
  unfold f_X5_longAt at hf
  refine lv_aload_n hx hb dX5_longAt_0 rfl (lv_at hl 0 rfl) ?_
  refine lv_ifnull hx hb dX5_longAt_1 ?_
  refine lv_iload_n hx hb dX5_longAt_4 rfl (lv_at hl 1 rfl) ?_
  refine lv_if_lt hx hb dX5_longAt_5 (tgt := 20) rfl (fun hc1 => ?_) (fun hc1 => ?_)
  · replace hf := h_pos hc1 hf
    refine lv_lconst (v := 0) hx hb dX5_longAt_20 (by decide) ?_
    exact r_lret cx hw hr hlk hf dX5_longAt_21
  replace hf := h_neg hc1 hf
  refine lv_iload_n hx hb dX5_longAt_8 rfl (lv_at hl 1 rfl) ?_
  refine lv_aload_n hx hb dX5_longAt_9 rfl (lv_at hl 0 rfl) ?_
  refine r_alenl cx hw hk0 dX5_longAt_10 ?_
  refine lv_icmp_ge hx hb dX5_longAt_11 (tgt := 20) rfl (fun hc2 => ?_) (fun hc2 => ?_)
  · replace hf := h_pos hc2 hf
    refine lv_lconst (v := 0) hx hb dX5_longAt_20 (by decide) ?_
    exact r_lret cx hw hr hlk hf dX5_longAt_21
  replace hf := h_neg hc2 hf
  refine lv_aload_n hx hb dX5_longAt_14 rfl (lv_at hl 0 rfl) ?_
  refine lv_iload_n hx hb dX5_longAt_15 rfl (lv_at hl 1 rfl) ?_
  refine r_lald cx hw hk0 rfl hf dX5_longAt_16 (fun hf => ?_)
  refine lv_goto hx hb dX5_longAt_17 (tgt := 21) rfl ?_
  exact r_lret cx hw hr hlk hf dX5_longAt_21
theorem dX1_putOff_0 : decode cX1_putOff 0 = .ok (.aload_n 0, 1) := by decide +kernel
theorem dX1_putOff_1 : decode cX1_putOff 1 = .ok (.getfield 16, 3) := by decide +kernel
theorem dX1_putOff_4 : decode cX1_putOff 4 = .ok (.aload_n 0, 1) := by decide +kernel
theorem dX1_putOff_5 : decode cX1_putOff 5 = .ok (.getfield 39, 3) := by decide +kernel
theorem dX1_putOff_8 : decode cX1_putOff 8 = .ok (.iload_n 1, 1) := by decide +kernel
theorem dX1_putOff_9 : decode cX1_putOff 9 = .ok (.invokestatic 33, 3) := by decide +kernel
theorem dX1_putOff_12 : decode cX1_putOff 12 = .ok (.aload_n 0, 1) := by decide +kernel
theorem dX1_putOff_13 : decode cX1_putOff 13 = .ok (.dup, 1) := by decide +kernel
theorem dX1_putOff_14 : decode cX1_putOff 14 = .ok (.getfield 39, 3) := by decide +kernel
theorem dX1_putOff_17 : decode cX1_putOff 17 = .ok (.iconst 1, 1) := by decide +kernel
theorem dX1_putOff_18 : decode cX1_putOff 18 = .ok (.iadd, 1) := by decide +kernel
theorem dX1_putOff_19 : decode cX1_putOff 19 = .ok (.putfield 39, 3) := by decide +kernel
theorem dX1_putOff_22 : decode cX1_putOff 22 = .ok (.return_, 1) := by decide +kernel
abbrev rm_X1_putOff : Room := { frames := 1, cells := 0, slots := 0, locals := 22 }
def f_X1_putOff (k0 : Nat) (S : St) (x1 : Int32) : Option (St) :=
  (f_X5_put (ky k0 3) S (st_I S (ky k0 4)) x1).bind (fun (q1 : St) => lt_v (up_I q1 (ky k0 4) ((st_I q1 (ky k0 4)) + (1 : Int32))) (fun (S2 : St) => some S2))
set_option maxRecDepth 100000 in
set_option maxHeartbeats 4000000 in
theorem k_X1_putOff (l : Launch) (g : GG) (hg : gd wd_C g) (k0 : Nat) (hk0 : hs wd_C g k0 1) (S : St) (x1 : Int32) (q : St) (hf : f_X1_putOff k0 S x1 = some q) : Met l yX1_putOff (Cond.code yX1_putOff cX1_putOff 2 none :: gw_tbl) rm_X1_putOff (va_Pc [.ref (gg_o g k0), .int x1] (wI wd_C g S)) (qc_v wd_C g q) 0 0 (aw g) := by
  refine mt_start (own := RX1) hg (by decide) rfl (Nat.le_of_ble_eq_true rfl) (fun p e s m args below meth c ls H locs cx hw hr hlk hl => ?_)
  have hx := cx.1
  have hb := cx.2.1
  have hown := cx.2.2.2.1
  have hts := cx.2.2.2.2.1
  have hl : lv_has ls 2 [(0, .ref (gg_o g k0)), (1, .int x1)] := hl
  replace hf := h_top hf
  unfold f_X1_putOff at hf
  refine lv_aload_n hx hb dX1_putOff_0 rfl (lv_at hl 0 rfl) ?_
  refine gf_X1_16 cx hw hk0 dX1_putOff_1 ?_
  refine lv_aload_n hx hb dX1_putOff_4 rfl (lv_at hl 0 rfl) ?_
  refine gf_X1_39 cx hw hk0 dX1_putOff_5 ?_
  refine lv_iload_n hx hb dX1_putOff_8 rfl (lv_at hl 1 rfl) ?_
  refine r_SN_v (As := [.ref (gg_a g (ky k0 3)), .int (st_I S (ky k0 4)), .int x1]) (rest := []) cx hw hf (nw_at cx) lk_X1_33 (fun q1 hq => k_X5_put l g hg (ky k0 3) (hk0.2.2.1 3 rfl) S (st_I S (ky k0 4)) x1 q1 hq) ⟨⟨rfl, rfl⟩, Nat.le_of_ble_eq_true rfl, Nat.le_of_ble_eq_true rfl⟩ rfl hl.1 rfl (Nat.le_of_ble_eq_true rfl) dX1_putOff_9 ⟨Nat.zero_le _, Nat.zero_le _⟩ (fun q1 H locs hw hf => ?_)
  refine lv_aload_n hx hb dX1_putOff_12 rfl (lv_at hl 0 rfl) ?_
  refine lv_dup hx hb dX1_putOff_13 rfl ?_
  refine gf_X1_39 cx hw hk0 dX1_putOff_14 ?_
  refine lv_iconst (v := 1) hx hb dX1_putOff_17 (by decide) ?_
  refine lv_iadd hx hb dX1_putOff_18 ?_
  refine pf_X1_39 cx hw hk0 hf dX1_putOff_19 (fun S2 H locs hw hf => ?_)
  exact r_vret cx hw hr hlk hf dX1_putOff_22
theorem dX1_isOperator_0 : decode cX1_isOperator 0 = .ok (.iload_n 0, 1) := by decide +kernel
theorem dX1_isOperator_1 : decode cX1_isOperator 1 = .ok (.bipush 43, 2) := by decide +kernel
theorem dX1_isOperator_3 : decode cX1_isOperator 3 = .ok (.if_icmp .eq 21, 3) := by decide +kernel
theorem dX1_isOperator_6 : decode cX1_isOperator 6 = .ok (.iload_n 0, 1) := by decide +kernel
theorem dX1_isOperator_7 : decode cX1_isOperator 7 = .ok (.bipush 45, 2) := by decide +kernel
theorem dX1_isOperator_9 : decode cX1_isOperator 9 = .ok (.if_icmp .eq 15, 3) := by decide +kernel
theorem dX1_isOperator_12 : decode cX1_isOperator 12 = .ok (.iload_n 0, 1) := by decide +kernel
theorem dX1_isOperator_13 : decode cX1_isOperator 13 = .ok (.bipush 42, 2) := by decide +kernel
theorem dX1_isOperator_15 : decode cX1_isOperator 15 = .ok (.if_icmp .eq 9, 3) := by decide +kernel
theorem dX1_isOperator_18 : decode cX1_isOperator 18 = .ok (.iload_n 0, 1) := by decide +kernel
theorem dX1_isOperator_19 : decode cX1_isOperator 19 = .ok (.bipush 47, 2) := by decide +kernel
theorem dX1_isOperator_21 : decode cX1_isOperator 21 = .ok (.if_icmp .ne 7, 3) := by decide +kernel
theorem dX1_isOperator_24 : decode cX1_isOperator 24 = .ok (.iconst 1, 1) := by decide +kernel
theorem dX1_isOperator_25 : decode cX1_isOperator 25 = .ok (.goto 4, 3) := by decide +kernel
theorem dX1_isOperator_28 : decode cX1_isOperator 28 = .ok (.iconst 0, 1) := by decide +kernel
theorem dX1_isOperator_29 : decode cX1_isOperator 29 = .ok (.ireturn, 1) := by decide +kernel
abbrev rm_X1_isOperator : Room := { frames := 0, cells := 0, slots := 0, locals := 0 }
def f_X1_isOperator (x0 : Int32) : Option (Int32) :=
  if x0 = (43 : Int32) then (some (1 : Int32)) else (if x0 = (45 : Int32) then (some (1 : Int32)) else (if x0 = (42 : Int32) then (some (1 : Int32)) else (if x0 = (47 : Int32) then (some (1 : Int32)) else (some (0 : Int32)))))
set_option maxRecDepth 100000 in
set_option maxHeartbeats 4000000 in
theorem k_X1_isOperator (l : Launch) (g : GG) (hg : gd wd_C g)  (S : St) (x0 : Int32) (q : Int32) (hf : f_X1_isOperator   x0 = some q) : Met l yX1_isOperator (Cond.code yX1_isOperator cX1_isOperator 1 (some .boolean) :: gw_tbl) rm_X1_isOperator (va_Pc [.int x0] (wI wd_C g S)) (qc_i wd_C g S q) 0 0 (aw g) := by
  refine mt_start (own := RX1) hg (by decide) rfl (Nat.le_of_ble_eq_true rfl) (fun p e s m args below meth c ls H locs cx hw hr hlk hl => ?_)
  have hx := cx.1
  have hb := cx.2.1
  have hown := cx.2.2.2.1
  have hts := cx.2.2.2.2.1
  have hl : lv_has ls 1 [(0, .int x0)] := hl
  replace hf := h_top hf
  unfold f_X1_isOperator at hf
  refine lv_iload_n hx hb dX1_isOperator_0 rfl (lv_at hl 0 rfl) ?_
  refine lv_bipush (v := 43) hx hb dX1_isOperator_1 (by decide) ?_
  refine lv_icmp_eq hx hb dX1_isOperator_3 (tgt := 24) rfl (fun hc1 => ?_) (fun hc1 => ?_)
  · replace hf := h_pos hc1 hf
    refine lv_iconst (v := 1) hx hb dX1_isOperator_24 (by decide) ?_
    refine lv_goto hx hb dX1_isOperator_25 (tgt := 29) rfl ?_
    exact r_zret cx hw hr hlk (Or.inr rfl) hf dX1_isOperator_29
  replace hf := h_neg hc1 hf
  refine lv_iload_n hx hb dX1_isOperator_6 rfl (lv_at hl 0 rfl) ?_
  refine lv_bipush (v := 45) hx hb dX1_isOperator_7 (by decide) ?_
  refine lv_icmp_eq hx hb dX1_isOperator_9 (tgt := 24) rfl (fun hc2 => ?_) (fun hc2 => ?_)
  · replace hf := h_pos hc2 hf
    refine lv_iconst (v := 1) hx hb dX1_isOperator_24 (by decide) ?_
    refine lv_goto hx hb dX1_isOperator_25 (tgt := 29) rfl ?_
    exact r_zret cx hw hr hlk (Or.inr rfl) hf dX1_isOperator_29
  replace hf := h_neg hc2 hf
  refine lv_iload_n hx hb dX1_isOperator_12 rfl (lv_at hl 0 rfl) ?_
  refine lv_bipush (v := 42) hx hb dX1_isOperator_13 (by decide) ?_
  refine lv_icmp_eq hx hb dX1_isOperator_15 (tgt := 24) rfl (fun hc3 => ?_) (fun hc3 => ?_)
  · replace hf := h_pos hc3 hf
    refine lv_iconst (v := 1) hx hb dX1_isOperator_24 (by decide) ?_
    refine lv_goto hx hb dX1_isOperator_25 (tgt := 29) rfl ?_
    exact r_zret cx hw hr hlk (Or.inr rfl) hf dX1_isOperator_29
  replace hf := h_neg hc3 hf
  refine lv_iload_n hx hb dX1_isOperator_18 rfl (lv_at hl 0 rfl) ?_
  refine lv_bipush (v := 47) hx hb dX1_isOperator_19 (by decide) ?_
  refine lv_icmp_ne hx hb dX1_isOperator_21 (tgt := 28) rfl (fun hc4 => ?_) (fun hc4 => ?_)
  · replace hf := h_neg hc4 hf
    refine lv_iconst (v := 0) hx hb dX1_isOperator_28 (by decide) ?_
    exact r_zret cx hw hr hlk (Or.inl rfl) hf dX1_isOperator_29
  replace hf := h_pos hc4 hf
  refine lv_iconst (v := 1) hx hb dX1_isOperator_24 (by decide) ?_
  refine lv_goto hx hb dX1_isOperator_25 (tgt := 29) rfl ?_
  exact r_zret cx hw hr hlk (Or.inr rfl) hf dX1_isOperator_29
theorem dX1_bindingOf_0 : decode cX1_bindingOf 0 = .ok (.iload_n 0, 1) := by decide +kernel
theorem dX1_bindingOf_1 : decode cX1_bindingOf 1 = .ok (.bipush 42, 2) := by decide +kernel
theorem dX1_bindingOf_3 : decode cX1_bindingOf 3 = .ok (.if_icmp .eq 9, 3) := by decide +kernel
theorem dX1_bindingOf_6 : decode cX1_bindingOf 6 = .ok (.iload_n 0, 1) := by decide +kernel
theorem dX1_bindingOf_7 : decode cX1_bindingOf 7 = .ok (.bipush 47, 2) := by decide +kernel
theorem dX1_bindingOf_9 : decode cX1_bindingOf 9 = .ok (.if_icmp .ne 7, 3) := by decide +kernel
theorem dX1_bindingOf_12 : decode cX1_bindingOf 12 = .ok (.iconst 2, 1) := by decide +kernel
theorem dX1_bindingOf_13 : decode cX1_bindingOf 13 = .ok (.goto 4, 3) := by decide +kernel
theorem dX1_bindingOf_16 : decode cX1_bindingOf 16 = .ok (.iconst 1, 1) := by decide +kernel
theorem dX1_bindingOf_17 : decode cX1_bindingOf 17 = .ok (.ireturn, 1) := by decide +kernel
abbrev rm_X1_bindingOf : Room := { frames := 0, cells := 0, slots := 0, locals := 0 }
def f_X1_bindingOf (x0 : Int32) : Option (Int32) :=
  if x0 = (42 : Int32) then (some (2 : Int32)) else (if x0 = (47 : Int32) then (some (2 : Int32)) else (some (1 : Int32)))
set_option maxRecDepth 100000 in
set_option maxHeartbeats 4000000 in
theorem k_X1_bindingOf (l : Launch) (g : GG) (hg : gd wd_C g)  (S : St) (x0 : Int32) (q : Int32) (hf : f_X1_bindingOf   x0 = some q) : Met l yX1_bindingOf (Cond.code yX1_bindingOf cX1_bindingOf 1 (some .int) :: gw_tbl) rm_X1_bindingOf (va_Pc [.int x0] (wI wd_C g S)) (qc_i wd_C g S q) 0 0 (aw g) := by
  refine mt_start (own := RX1) hg (by decide) rfl (Nat.le_of_ble_eq_true rfl) (fun p e s m args below meth c ls H locs cx hw hr hlk hl => ?_)
  have hx := cx.1
  have hb := cx.2.1
  have hown := cx.2.2.2.1
  have hts := cx.2.2.2.2.1
  have hl : lv_has ls 1 [(0, .int x0)] := hl
  replace hf := h_top hf
  unfold f_X1_bindingOf at hf
  refine lv_iload_n hx hb dX1_bindingOf_0 rfl (lv_at hl 0 rfl) ?_
  refine lv_bipush (v := 42) hx hb dX1_bindingOf_1 (by decide) ?_
  refine lv_icmp_eq hx hb dX1_bindingOf_3 (tgt := 12) rfl (fun hc1 => ?_) (fun hc1 => ?_)
  · replace hf := h_pos hc1 hf
    refine lv_iconst (v := 2) hx hb dX1_bindingOf_12 (by decide) ?_
    refine lv_goto hx hb dX1_bindingOf_13 (tgt := 17) rfl ?_
    exact r_iret cx hw hr hlk hf dX1_bindingOf_17
  replace hf := h_neg hc1 hf
  refine lv_iload_n hx hb dX1_bindingOf_6 rfl (lv_at hl 0 rfl) ?_
  refine lv_bipush (v := 47) hx hb dX1_bindingOf_7 (by decide) ?_
  refine lv_icmp_ne hx hb dX1_bindingOf_9 (tgt := 16) rfl (fun hc2 => ?_) (fun hc2 => ?_)
  · replace hf := h_neg hc2 hf
    refine lv_iconst (v := 1) hx hb dX1_bindingOf_16 (by decide) ?_
    exact r_iret cx hw hr hlk hf dX1_bindingOf_17
  replace hf := h_pos hc2 hf
  refine lv_iconst (v := 2) hx hb dX1_bindingOf_12 (by decide) ?_
  refine lv_goto hx hb dX1_bindingOf_13 (tgt := 17) rfl ?_
  exact r_iret cx hw hr hlk hf dX1_bindingOf_17
theorem dX1_unwind_0 : decode cX1_unwind 0 = .ok (.aload_n 0, 1) := by decide +kernel
theorem dX1_unwind_1 : decode cX1_unwind 1 = .ok (.getfield 39, 3) := by decide +kernel
theorem dX1_unwind_4 : decode cX1_unwind 4 = .ok (.iconst 1, 1) := by decide +kernel
theorem dX1_unwind_5 : decode cX1_unwind 5 = .ok (.isub, 1) := by decide +kernel
theorem dX1_unwind_6 : decode cX1_unwind 6 = .ok (.istore_n 2, 1) := by decide +kernel
theorem dX1_unwind_7 : decode cX1_unwind 7 = .ok (.iload_n 2, 1) := by decide +kernel
theorem dX1_unwind_8 : decode cX1_unwind 8 = .ok (.ifCond .lt 44, 3) := by decide +kernel
theorem dX1_unwind_11 : decode cX1_unwind 11 = .ok (.aload_n 0, 1) := by decide +kernel
theorem dX1_unwind_12 : decode cX1_unwind 12 = .ok (.getfield 16, 3) := by decide +kernel
theorem dX1_unwind_15 : decode cX1_unwind 15 = .ok (.iload_n 2, 1) := by decide +kernel
theorem dX1_unwind_16 : decode cX1_unwind 16 = .ok (.invokestatic 48, 3) := by decide +kernel
theorem dX1_unwind_19 : decode cX1_unwind 19 = .ok (.istore_n 3, 1) := by decide +kernel
theorem dX1_unwind_20 : decode cX1_unwind 20 = .ok (.iload_n 3, 1) := by decide +kernel
theorem dX1_unwind_21 : decode cX1_unwind 21 = .ok (.bipush 40, 2) := by decide +kernel
theorem dX1_unwind_23 : decode cX1_unwind 23 = .ok (.if_icmp .eq 11, 3) := by decide +kernel
theorem dX1_unwind_26 : decode cX1_unwind 26 = .ok (.iload_n 3, 1) := by decide +kernel
theorem dX1_unwind_27 : decode cX1_unwind 27 = .ok (.invokestatic 68, 3) := by decide +kernel
theorem dX1_unwind_30 : decode cX1_unwind 30 = .ok (.iload_n 1, 1) := by decide +kernel
theorem dX1_unwind_31 : decode cX1_unwind 31 = .ok (.if_icmp .ge 4, 3) := by decide +kernel
theorem dX1_unwind_34 : decode cX1_unwind 34 = .ok (.return_, 1) := by decide +kernel
theorem dX1_unwind_35 : decode cX1_unwind 35 = .ok (.aload_n 0, 1) := by decide +kernel
theorem dX1_unwind_36 : decode cX1_unwind 36 = .ok (.iload_n 3, 1) := by decide +kernel
theorem dX1_unwind_37 : decode cX1_unwind 37 = .ok (.iconst 0, 1) := by decide +kernel
theorem dX1_unwind_38 : decode cX1_unwind 38 = .ok (.invokevirtual 29, 3) := by decide +kernel
theorem dX1_unwind_41 : decode cX1_unwind 41 = .ok (.aload_n 0, 1) := by decide +kernel
theorem dX1_unwind_42 : decode cX1_unwind 42 = .ok (.iload_n 2, 1) := by decide +kernel
theorem dX1_unwind_43 : decode cX1_unwind 43 = .ok (.putfield 39, 3) := by decide +kernel
theorem dX1_unwind_46 : decode cX1_unwind 46 = .ok (.iinc 2 (-1), 3) := by decide +kernel
theorem dX1_unwind_49 : decode cX1_unwind 49 = .ok (.goto (-42), 3) := by decide +kernel
theorem dX1_unwind_52 : decode cX1_unwind 52 = .ok (.return_, 1) := by decide +kernel
abbrev rm_X1_unwind : Room := { frames := 2, cells := 0, slots := 0, locals := 44 }
def f_X1_unwind_L7 (k0 : Nat) (x1 : Int32) (z7 : Int32 × St) : Option ((Int32 × St) ⊕ (St)) :=
  if z7.1 < 0 then (some (.inr z7.2)) else ((f_X5_at (ky k0 3) z7.2 z7.1).bind (fun (q2 : Int32) => if q2 = (40 : Int32) then (some (.inr z7.2)) else ((f_X1_bindingOf   q2).bind (fun (q4 : Int32) => if x1 ≤ q4 then ((f_X1_emit k0 z7.2 q2 (0 : Int32)).bind (fun (q6 : St) => lt_v (up_I q6 (ky k0 4) z7.1) (fun (S7 : St) => some (.inl ((z7.1 + (-1)), S7))))) else (some (.inr z7.2))))))
def f_X1_unwind (k0 : Nat) (S : St) (x1 : Int32) : Option (St) :=
  iter (f_X1_unwind_L7 k0  x1) FU (((st_I S (ky k0 4)) - (1 : Int32)), S)
set_option maxRecDepth 100000 in
set_option maxHeartbeats 4000000 in
theorem k_X1_unwind (l : Launch) (g : GG) (hg : gd wd_C g) (k0 : Nat) (hk0 : hs wd_C g k0 1) (S : St) (x1 : Int32) (q : St) (hf : f_X1_unwind k0 S x1 = some q) : Met l yX1_unwind (Cond.code yX1_unwind cX1_unwind 4 none :: gw_tbl) rm_X1_unwind (va_Pc [.ref (gg_o g k0), .int x1] (wI wd_C g S)) (qc_v wd_C g q) 0 0 (aw g) := by
  refine mt_start (own := RX1) hg (by decide) rfl (Nat.le_of_ble_eq_true rfl) (fun p e s m args below meth c ls H locs cx hw hr hlk hl => ?_)
  have hx := cx.1
  have hb := cx.2.1
  have hown := cx.2.2.2.1
  have hts := cx.2.2.2.2.1
  have hl : lv_has ls 4 [(0, .ref (gg_o g k0)), (1, .int x1)] := hl
  replace hf := h_top hf
  unfold f_X1_unwind at hf
  refine lv_aload_n hx hb dX1_unwind_0 rfl (lv_at hl 0 rfl) ?_
  refine gf_X1_39 cx hw hk0 dX1_unwind_1 ?_
  refine lv_iconst (v := 1) hx hb dX1_unwind_4 (by decide) ?_
  refine lv_isub hx hb dX1_unwind_5 ?_
  refine lv_istore_n hx hb dX1_unwind_6 rfl hl (by decide) (lv' := [(2, .int ((st_I S (ky k0 4)) - (1 : Int32))), (0, .ref (gg_o g k0)), (1, .int x1)]) rfl (fun ls hl => ?_)
  have L7 : ∀ (x1 : Int32) (aft7 : St → Option (St)), (∀ v : St, aft7 v = some q → (some v : Option (St)).bind some = some q) → ∀ (n7 : Nat) (ls : Array Slot) (H : Heap) (locs : List Loc) (z7 : Int32 × St), lv_has ls 4 [(0, .ref (gg_o g k0)), (1, .int x1), (2, .int z7.1)] → HH wd_C g s z7.2 H locs → (iter (f_X1_unwind_L7 k0  x1) n7 z7).bind aft7 = some q → W p l e rm_X1_unwind s m args below meth c H locs 0 0 (MQ below (qc_v wd_C g q) args s 0 0 (aw g)) (F0 m 7 ls []) := by
    intro x1 aft7 hR7 n7
    induction n7 with
    | zero => intro ls H locs z7 hl hw hf; exact h_iter0 hf
    | succ n7 ih7 =>
      intro ls H locs z7 hl hw hf
      replace hf := h_iter hf
      unfold f_X1_unwind_L7 at hf
      refine lv_iload_n hx hb dX1_unwind_7 rfl (lv_at hl 2 rfl) ?_
      refine lv_if_lt hx hb dX1_unwind_8 (tgt := 52) rfl (fun hc1 => ?_) (fun hc1 => ?_)
      · replace hf := h_pos hc1 hf
        replace hf := hR7 z7.2 hf
        exact r_vret cx hw hr hlk hf dX1_unwind_52
      replace hf := h_neg hc1 hf
      refine lv_aload_n hx hb dX1_unwind_11 rfl (lv_at hl 0 rfl) ?_
      refine gf_X1_16 cx hw hk0 dX1_unwind_12 ?_
      refine lv_iload_n hx hb dX1_unwind_15 rfl (lv_at hl 2 rfl) ?_
      refine r_SN_i (As := [.ref (gg_a g (ky k0 3)), .int z7.1]) (rest := []) cx hw hf (nw_at cx) lk_X1_48 (fun q2 hq => k_X5_at l g hg (ky k0 3) (hk0.2.2.1 3 rfl) z7.2 z7.1 q2 hq) ⟨⟨rfl, rfl⟩, Nat.le_of_ble_eq_true rfl, Nat.le_of_ble_eq_true rfl⟩ rfl hl.1 rfl (Nat.le_of_ble_eq_true rfl) dX1_unwind_16 ⟨Nat.zero_le _, Nat.zero_le _⟩ (fun q2 H locs hw hf => ?_)
      refine lv_istore_n hx hb dX1_unwind_19 rfl hl (by decide) (lv' := [(3, .int q2), (0, .ref (gg_o g k0)), (1, .int x1), (2, .int z7.1)]) rfl (fun ls hl => ?_)
      refine lv_iload_n hx hb dX1_unwind_20 rfl (lv_at hl 0 rfl) ?_
      refine lv_bipush (v := 40) hx hb dX1_unwind_21 (by decide) ?_
      refine lv_icmp_eq hx hb dX1_unwind_23 (tgt := 34) rfl (fun hc3 => ?_) (fun hc3 => ?_)
      · replace hf := h_pos hc3 hf
        replace hf := hR7 z7.2 hf
        exact r_vret cx hw hr hlk hf dX1_unwind_34
      replace hf := h_neg hc3 hf
      refine lv_iload_n hx hb dX1_unwind_26 rfl (lv_at hl 0 rfl) ?_
      refine r_S_i (As := [.int q2]) (rest := []) cx hw hf lk_X1_68 (fun q4 hq => k_X1_bindingOf l g hg   z7.2 q2 q4 hq) ⟨⟨rfl, rfl⟩, Nat.le_of_ble_eq_true rfl, Nat.le_of_ble_eq_true rfl⟩ rfl hl.1 rfl (Nat.le_of_ble_eq_true rfl) dX1_unwind_27 ⟨Nat.zero_le _, Nat.zero_le _⟩ (fun q4 H locs hw hf => ?_)
      refine lv_iload_n hx hb dX1_unwind_30 rfl (lv_at hl 2 rfl) ?_
      refine lv_icmp_ge hx hb dX1_unwind_31 (tgt := 35) rfl (fun hc5 => ?_) (fun hc5 => ?_)
      · replace hf := h_pos hc5 hf
        refine lv_aload_n hx hb dX1_unwind_35 rfl (lv_at hl 1 rfl) ?_
        refine lv_iload_n hx hb dX1_unwind_36 rfl (lv_at hl 0 rfl) ?_
        refine lv_iconst (v := 0) hx hb dX1_unwind_37 (by decide) ?_
        refine r_V_v (As := [.int q2, .int (0 : Int32)]) (rest := []) cx hw hf hk0.2.1 (by rw [hk0.1]; rfl) lk_X1_29 (fun q6 hq => k_X1_emit l g hg k0 hk0 z7.2 q2 (0 : Int32) q6 hq) ⟨⟨rfl, rfl⟩, Nat.le_of_ble_eq_true rfl, Nat.le_of_ble_eq_true rfl⟩ rfl hl.1 rfl (Nat.le_of_ble_eq_true rfl) dX1_unwind_38 ⟨Nat.zero_le _, Nat.zero_le _⟩ (fun q6 H locs hw hf => ?_)
        refine lv_aload_n hx hb dX1_unwind_41 rfl (lv_at hl 1 rfl) ?_
        refine lv_iload_n hx hb dX1_unwind_42 rfl (lv_at hl 3 rfl) ?_
        refine pf_X1_39 cx hw hk0 hf dX1_unwind_43 (fun S7 H locs hw hf => ?_)
        refine lv_iinc hx hb dX1_unwind_46 hl (k := 3) rfl (congrArg (HAdd.hAdd _) (show Int32.ofInt (-1) = -1 by decide)) (by decide) (lv' := [(2, .int (z7.1 + (-1))), (3, .int q2), (0, .ref (gg_o g k0)), (1, .int x1)]) rfl (fun ls hl => ?_)
        refine lv_goto hx hb dX1_unwind_49 (tgt := 7) rfl ?_
        exact ih7 _ _ _ ((z7.1 + (-1)), S7) (lv_sub hl [2, 3, 0] rfl) hw hf
      replace hf := h_neg hc5 hf
      replace hf := hR7 z7.2 hf
      exact r_vret cx hw hr hlk hf dX1_unwind_34
  exact L7 x1 some (fun v h => h) FU _ _ _ (((st_I S (ky k0 4)) - (1 : Int32)), S) (lv_sub hl [1, 2, 0] rfl) hw hf
theorem dX1_endPart_0 : decode cX1_endPart 0 = .ok (.iload_n 1, 1) := by decide +kernel
theorem dX1_endPart_1 : decode cX1_endPart 1 = .ok (.bipush 41, 2) := by decide +kernel
theorem dX1_endPart_3 : decode cX1_endPart 3 = .ok (.if_icmp .ne 20, 3) := by decide +kernel
theorem dX1_endPart_6 : decode cX1_endPart 6 = .ok (.aload_n 0, 1) := by decide +kernel
theorem dX1_endPart_7 : decode cX1_endPart 7 = .ok (.aload_n 0, 1) := by decide +kernel
theorem dX1_endPart_8 : decode cX1_endPart 8 = .ok (.getfield 39, 3) := by decide +kernel
theorem dX1_endPart_11 : decode cX1_endPart 11 = .ok (.iconst 1, 1) := by decide +kernel
theorem dX1_endPart_12 : decode cX1_endPart 12 = .ok (.isub, 1) := by decide +kernel
theorem dX1_endPart_13 : decode cX1_endPart 13 = .ok (.iconst 0, 1) := by decide +kernel
theorem dX1_endPart_14 : decode cX1_endPart 14 = .ok (.invokestatic 79, 3) := by decide +kernel
theorem dX1_endPart_17 : decode cX1_endPart 17 = .ok (.putfield 39, 3) := by decide +kernel
theorem dX1_endPart_20 : decode cX1_endPart 20 = .ok (.goto 63, 3) := by decide +kernel
theorem dX1_endPart_23 : decode cX1_endPart 23 = .ok (.iload_n 1, 1) := by decide +kernel
theorem dX1_endPart_24 : decode cX1_endPart 24 = .ok (.sipush 209, 3) := by decide +kernel
theorem dX1_endPart_27 : decode cX1_endPart 27 = .ok (.if_icmp .ne 16, 3) := by decide +kernel
theorem dX1_endPart_30 : decode cX1_endPart 30 = .ok (.aload_n 0, 1) := by decide +kernel
theorem dX1_endPart_31 : decode cX1_endPart 31 = .ok (.iconst 2, 1) := by decide +kernel
theorem dX1_endPart_32 : decode cX1_endPart 32 = .ok (.iconst 0, 1) := by decide +kernel
theorem dX1_endPart_33 : decode cX1_endPart 33 = .ok (.invokevirtual 29, 3) := by decide +kernel
theorem dX1_endPart_36 : decode cX1_endPart 36 = .ok (.aload_n 0, 1) := by decide +kernel
theorem dX1_endPart_37 : decode cX1_endPart 37 = .ok (.getfield 25, 3) := by decide +kernel
theorem dX1_endPart_40 : decode cX1_endPart 40 = .ok (.iconst 1, 1) := by decide +kernel
theorem dX1_endPart_41 : decode cX1_endPart 41 = .ok (.isub, 1) := by decide +kernel
theorem dX1_endPart_42 : decode cX1_endPart 42 = .ok (.ireturn, 1) := by decide +kernel
theorem dX1_endPart_43 : decode cX1_endPart 43 = .ok (.iload_n 1, 1) := by decide +kernel
theorem dX1_endPart_44 : decode cX1_endPart 44 = .ok (.sipush 210, 3) := by decide +kernel
theorem dX1_endPart_47 : decode cX1_endPart 47 = .ok (.if_icmp .ne 24, 3) := by decide +kernel
theorem dX1_endPart_50 : decode cX1_endPart 50 = .ok (.aload_n 0, 1) := by decide +kernel
theorem dX1_endPart_51 : decode cX1_endPart 51 = .ok (.iconst 3, 1) := by decide +kernel
theorem dX1_endPart_52 : decode cX1_endPart 52 = .ok (.iconst 0, 1) := by decide +kernel
theorem dX1_endPart_53 : decode cX1_endPart 53 = .ok (.invokevirtual 29, 3) := by decide +kernel
theorem dX1_endPart_56 : decode cX1_endPart 56 = .ok (.aload_n 0, 1) := by decide +kernel
theorem dX1_endPart_57 : decode cX1_endPart 57 = .ok (.getfield 13, 3) := by decide +kernel
theorem dX1_endPart_60 : decode cX1_endPart 60 = .ok (.iload_n 2, 1) := by decide +kernel
theorem dX1_endPart_61 : decode cX1_endPart 61 = .ok (.aload_n 0, 1) := by decide +kernel
theorem dX1_endPart_62 : decode cX1_endPart 62 = .ok (.getfield 25, 3) := by decide +kernel
theorem dX1_endPart_65 : decode cX1_endPart 65 = .ok (.invokestatic 33, 3) := by decide +kernel
theorem dX1_endPart_68 : decode cX1_endPart 68 = .ok (.goto 15, 3) := by decide +kernel
theorem dX1_endPart_71 : decode cX1_endPart 71 = .ok (.iload_n 1, 1) := by decide +kernel
theorem dX1_endPart_72 : decode cX1_endPart 72 = .ok (.bipush 59, 2) := by decide +kernel
theorem dX1_endPart_74 : decode cX1_endPart 74 = .ok (.if_icmp .ne 9, 3) := by decide +kernel
theorem dX1_endPart_77 : decode cX1_endPart 77 = .ok (.aload_n 0, 1) := by decide +kernel
theorem dX1_endPart_78 : decode cX1_endPart 78 = .ok (.iconst 3, 1) := by decide +kernel
theorem dX1_endPart_79 : decode cX1_endPart 79 = .ok (.iconst 0, 1) := by decide +kernel
theorem dX1_endPart_80 : decode cX1_endPart 80 = .ok (.invokevirtual 29, 3) := by decide +kernel
theorem dX1_endPart_83 : decode cX1_endPart 83 = .ok (.iload_n 2, 1) := by decide +kernel
theorem dX1_endPart_84 : decode cX1_endPart 84 = .ok (.ireturn, 1) := by decide +kernel
abbrev rm_X1_endPart : Room := { frames := 2, cells := 0, slots := 0, locals := 44 }
def f_X1_endPart (k0 : Nat) (S : St) (x1 : Int32) (x2 : Int32) : Option (Int32 × St) :=
  if x1 = (41 : Int32) then (lt_v (up_I S (ky k0 4) (i_max ((st_I S (ky k0 4)) - (1 : Int32)) (0 : Int32))) (fun (S9 : St) => some (x2, S9))) else (if x1 = (209 : Int32) then ((f_X1_emit k0 S (2 : Int32) (0 : Int32)).bind (fun (q8 : St) => some (((st_I q8 (ky k0 2)) - (1 : Int32)), q8))) else (if x1 = (210 : Int32) then ((f_X1_emit k0 S (3 : Int32) (0 : Int32)).bind (fun (q6 : St) => (f_X5_put (ky k0 1) q6 x2 (st_I q6 (ky k0 2))).bind (fun (q7 : St) => some (x2, q7)))) else (if x1 = (59 : Int32) then ((f_X1_emit k0 S (3 : Int32) (0 : Int32)).bind (fun (q5 : St) => some (x2, q5))) else (some (x2, S)))))
set_option maxRecDepth 100000 in
set_option maxHeartbeats 4000000 in
theorem k_X1_endPart (l : Launch) (g : GG) (hg : gd wd_C g) (k0 : Nat) (hk0 : hs wd_C g k0 1) (S : St) (x1 : Int32) (x2 : Int32) (q : Int32 × St) (hf : f_X1_endPart k0 S x1 x2 = some q) : Met l yX1_endPart (Cond.code yX1_endPart cX1_endPart 3 (some .int) :: gw_tbl) rm_X1_endPart (va_Pc [.ref (gg_o g k0), .int x1, .int x2] (wI wd_C g S)) (qc_w wd_C g q) 0 0 (aw g) := by
  refine mt_start (own := RX1) hg (by decide) rfl (Nat.le_of_ble_eq_true rfl) (fun p e s m args below meth c ls H locs cx hw hr hlk hl => ?_)
  have hx := cx.1
  have hb := cx.2.1
  have hown := cx.2.2.2.1
  have hts := cx.2.2.2.2.1
  have hl : lv_has ls 3 [(0, .ref (gg_o g k0)), (1, .int x1), (2, .int x2)] := hl
  replace hf := h_top hf
  unfold f_X1_endPart at hf
  refine lv_iload_n hx hb dX1_endPart_0 rfl (lv_at hl 1 rfl) ?_
  refine lv_bipush (v := 41) hx hb dX1_endPart_1 (by decide) ?_
  refine lv_icmp_ne hx hb dX1_endPart_3 (tgt := 23) rfl (fun hc1 => ?_) (fun hc1 => ?_)
  · replace hf := h_neg hc1 hf
    refine lv_iload_n hx hb dX1_endPart_23 rfl (lv_at hl 1 rfl) ?_
    refine lv_sipush (v := 209) hx hb dX1_endPart_24 (by decide) ?_
    refine lv_icmp_ne hx hb dX1_endPart_27 (tgt := 43) rfl (fun hc2 => ?_) (fun hc2 => ?_)
    · replace hf := h_neg hc2 hf
      refine lv_iload_n hx hb dX1_endPart_43 rfl (lv_at hl 1 rfl) ?_
      refine lv_sipush (v := 210) hx hb dX1_endPart_44 (by decide) ?_
      refine lv_icmp_ne hx hb dX1_endPart_47 (tgt := 71) rfl (fun hc3 => ?_) (fun hc3 => ?_)
      · replace hf := h_neg hc3 hf
        refine lv_iload_n hx hb dX1_endPart_71 rfl (lv_at hl 1 rfl) ?_
        refine lv_bipush (v := 59) hx hb dX1_endPart_72 (by decide) ?_
        refine lv_icmp_ne hx hb dX1_endPart_74 (tgt := 83) rfl (fun hc4 => ?_) (fun hc4 => ?_)
        · replace hf := h_neg hc4 hf
          refine lv_iload_n hx hb dX1_endPart_83 rfl (lv_at hl 2 rfl) ?_
          exact r_iretw cx hw hr hlk hf dX1_endPart_84
        replace hf := h_pos hc4 hf
        refine lv_aload_n hx hb dX1_endPart_77 rfl (lv_at hl 0 rfl) ?_
        refine lv_iconst (v := 3) hx hb dX1_endPart_78 (by decide) ?_
        refine lv_iconst (v := 0) hx hb dX1_endPart_79 (by decide) ?_
        refine r_V_v (As := [.int (3 : Int32), .int (0 : Int32)]) (rest := []) cx hw hf hk0.2.1 (by rw [hk0.1]; rfl) lk_X1_29 (fun q5 hq => k_X1_emit l g hg k0 hk0 S (3 : Int32) (0 : Int32) q5 hq) ⟨⟨rfl, rfl⟩, Nat.le_of_ble_eq_true rfl, Nat.le_of_ble_eq_true rfl⟩ rfl hl.1 rfl (Nat.le_of_ble_eq_true rfl) dX1_endPart_80 ⟨Nat.zero_le _, Nat.zero_le _⟩ (fun q5 H locs hw hf => ?_)
        refine lv_iload_n hx hb dX1_endPart_83 rfl (lv_at hl 2 rfl) ?_
        exact r_iretw cx hw hr hlk hf dX1_endPart_84
      replace hf := h_pos hc3 hf
      refine lv_aload_n hx hb dX1_endPart_50 rfl (lv_at hl 0 rfl) ?_
      refine lv_iconst (v := 3) hx hb dX1_endPart_51 (by decide) ?_
      refine lv_iconst (v := 0) hx hb dX1_endPart_52 (by decide) ?_
      refine r_V_v (As := [.int (3 : Int32), .int (0 : Int32)]) (rest := []) cx hw hf hk0.2.1 (by rw [hk0.1]; rfl) lk_X1_29 (fun q6 hq => k_X1_emit l g hg k0 hk0 S (3 : Int32) (0 : Int32) q6 hq) ⟨⟨rfl, rfl⟩, Nat.le_of_ble_eq_true rfl, Nat.le_of_ble_eq_true rfl⟩ rfl hl.1 rfl (Nat.le_of_ble_eq_true rfl) dX1_endPart_53 ⟨Nat.zero_le _, Nat.zero_le _⟩ (fun q6 H locs hw hf => ?_)
      refine lv_aload_n hx hb dX1_endPart_56 rfl (lv_at hl 0 rfl) ?_
      refine gf_X1_13 cx hw hk0 dX1_endPart_57 ?_
      refine lv_iload_n hx hb dX1_endPart_60 rfl (lv_at hl 2 rfl) ?_
      refine lv_aload_n hx hb dX1_endPart_61 rfl (lv_at hl 0 rfl) ?_
      refine gf_X1_25 cx hw hk0 dX1_endPart_62 ?_
      refine r_SN_v (As := [.ref (gg_a g (ky k0 1)), .int x2, .int (st_I q6 (ky k0 2))]) (rest := []) cx hw hf (nw_at cx) lk_X1_33 (fun q7 hq => k_X5_put l g hg (ky k0 1) (hk0.2.2.1 1 rfl) q6 x2 (st_I q6 (ky k0 2)) q7 hq) ⟨⟨rfl, rfl⟩, Nat.le_of_ble_eq_true rfl, Nat.le_of_ble_eq_true rfl⟩ rfl hl.1 rfl (Nat.le_of_ble_eq_true rfl) dX1_endPart_65 ⟨Nat.zero_le _, Nat.zero_le _⟩ (fun q7 H locs hw hf => ?_)
      refine lv_goto hx hb dX1_endPart_68 (tgt := 83) rfl ?_
      refine lv_iload_n hx hb dX1_endPart_83 rfl (lv_at hl 2 rfl) ?_
      exact r_iretw cx hw hr hlk hf dX1_endPart_84
    replace hf := h_pos hc2 hf
    refine lv_aload_n hx hb dX1_endPart_30 rfl (lv_at hl 0 rfl) ?_
    refine lv_iconst (v := 2) hx hb dX1_endPart_31 (by decide) ?_
    refine lv_iconst (v := 0) hx hb dX1_endPart_32 (by decide) ?_
    refine r_V_v (As := [.int (2 : Int32), .int (0 : Int32)]) (rest := []) cx hw hf hk0.2.1 (by rw [hk0.1]; rfl) lk_X1_29 (fun q8 hq => k_X1_emit l g hg k0 hk0 S (2 : Int32) (0 : Int32) q8 hq) ⟨⟨rfl, rfl⟩, Nat.le_of_ble_eq_true rfl, Nat.le_of_ble_eq_true rfl⟩ rfl hl.1 rfl (Nat.le_of_ble_eq_true rfl) dX1_endPart_33 ⟨Nat.zero_le _, Nat.zero_le _⟩ (fun q8 H locs hw hf => ?_)
    refine lv_aload_n hx hb dX1_endPart_36 rfl (lv_at hl 0 rfl) ?_
    refine gf_X1_25 cx hw hk0 dX1_endPart_37 ?_
    refine lv_iconst (v := 1) hx hb dX1_endPart_40 (by decide) ?_
    refine lv_isub hx hb dX1_endPart_41 ?_
    exact r_iretw cx hw hr hlk hf dX1_endPart_42
  replace hf := h_pos hc1 hf
  refine lv_aload_n hx hb dX1_endPart_6 rfl (lv_at hl 0 rfl) ?_
  refine lv_aload_n hx hb dX1_endPart_7 rfl (lv_at hl 0 rfl) ?_
  refine gf_X1_39 cx hw hk0 dX1_endPart_8 ?_
  refine lv_iconst (v := 1) hx hb dX1_endPart_11 (by decide) ?_
  refine lv_isub hx hb dX1_endPart_12 ?_
  refine lv_iconst (v := 0) hx hb dX1_endPart_13 (by decide) ?_
  refine va_mmax hx hb (cx.2.2.1.trans hl.1.symm) hown (hts _ wd_339) (hts _ wd_85) (hts _ wd_7) (hts _ wd_86) (Nat.le_of_ble_eq_true rfl) (Nat.le_of_ble_eq_true rfl) (Nat.zero_le _) (Nat.zero_le _) dX1_endPart_14 ?_
  refine pf_X1_39 cx hw hk0 hf dX1_endPart_17 (fun S9 H locs hw hf => ?_)
  refine lv_goto hx hb dX1_endPart_20 (tgt := 83) rfl ?_
  refine lv_iload_n hx hb dX1_endPart_83 rfl (lv_at hl 2 rfl) ?_
  exact r_iretw cx hw hr hlk hf dX1_endPart_84
theorem dX1_compile_0 : decode cX1_compile 0 = .ok (.iconst 0, 1) := by decide +kernel
theorem dX1_compile_1 : decode cX1_compile 1 = .ok (.istore_n 3, 1) := by decide +kernel
theorem dX1_compile_2 : decode cX1_compile 2 = .ok (.aload_n 0, 1) := by decide +kernel
theorem dX1_compile_3 : decode cX1_compile 3 = .ok (.iconst 0, 1) := by decide +kernel
theorem dX1_compile_4 : decode cX1_compile 4 = .ok (.putfield 39, 3) := by decide +kernel
theorem dX1_compile_7 : decode cX1_compile 7 = .ok (.iload_n 2, 1) := by decide +kernel
theorem dX1_compile_8 : decode cX1_compile 8 = .ok (.istore 4, 2) := by decide +kernel
theorem dX1_compile_10 : decode cX1_compile 10 = .ok (.iload 4, 2) := by decide +kernel
theorem dX1_compile_12 : decode cX1_compile 12 = .ok (.aload_n 1, 1) := by decide +kernel
theorem dX1_compile_13 : decode cX1_compile 13 = .ok (.getfield 42, 3) := by decide +kernel
theorem dX1_compile_16 : decode cX1_compile 16 = .ok (.if_icmp .ge 133, 3) := by decide +kernel
theorem dX1_compile_19 : decode cX1_compile 19 = .ok (.aload_n 1, 1) := by decide +kernel
theorem dX1_compile_20 : decode cX1_compile 20 = .ok (.getfield 45, 3) := by decide +kernel
theorem dX1_compile_23 : decode cX1_compile 23 = .ok (.iload 4, 2) := by decide +kernel
theorem dX1_compile_25 : decode cX1_compile 25 = .ok (.invokestatic 48, 3) := by decide +kernel
theorem dX1_compile_28 : decode cX1_compile 28 = .ok (.istore 5, 2) := by decide +kernel
theorem dX1_compile_30 : decode cX1_compile 30 = .ok (.iload 5, 2) := by decide +kernel
theorem dX1_compile_32 : decode cX1_compile 32 = .ok (.iconst 2, 1) := by decide +kernel
theorem dX1_compile_33 : decode cX1_compile 33 = .ok (.if_icmp .ne 21, 3) := by decide +kernel
theorem dX1_compile_36 : decode cX1_compile 36 = .ok (.aload_n 0, 1) := by decide +kernel
theorem dX1_compile_37 : decode cX1_compile 37 = .ok (.iconst 0, 1) := by decide +kernel
theorem dX1_compile_38 : decode cX1_compile 38 = .ok (.aload_n 1, 1) := by decide +kernel
theorem dX1_compile_39 : decode cX1_compile 39 = .ok (.getfield 52, 3) := by decide +kernel
theorem dX1_compile_42 : decode cX1_compile 42 = .ok (.iload 4, 2) := by decide +kernel
theorem dX1_compile_44 : decode cX1_compile 44 = .ok (.invokestatic 56, 3) := by decide +kernel
theorem dX1_compile_47 : decode cX1_compile 47 = .ok (.l2i, 1) := by decide +kernel
theorem dX1_compile_48 : decode cX1_compile 48 = .ok (.invokevirtual 29, 3) := by decide +kernel
theorem dX1_compile_51 : decode cX1_compile 51 = .ok (.goto 80, 3) := by decide +kernel
theorem dX1_compile_54 : decode cX1_compile 54 = .ok (.iload 5, 2) := by decide +kernel
theorem dX1_compile_56 : decode cX1_compile 56 = .ok (.sipush 211, 3) := by decide +kernel
theorem dX1_compile_59 : decode cX1_compile 59 = .ok (.if_icmp .lt 17, 3) := by decide +kernel
theorem dX1_compile_62 : decode cX1_compile 62 = .ok (.aload_n 0, 1) := by decide +kernel
theorem dX1_compile_63 : decode cX1_compile 63 = .ok (.iconst 1, 1) := by decide +kernel
theorem dX1_compile_64 : decode cX1_compile 64 = .ok (.iload 5, 2) := by decide +kernel
theorem dX1_compile_66 : decode cX1_compile 66 = .ok (.sipush 211, 3) := by decide +kernel
theorem dX1_compile_69 : decode cX1_compile 69 = .ok (.isub, 1) := by decide +kernel
theorem dX1_compile_70 : decode cX1_compile 70 = .ok (.invokevirtual 29, 3) := by decide +kernel
theorem dX1_compile_73 : decode cX1_compile 73 = .ok (.goto 58, 3) := by decide +kernel
theorem dX1_compile_76 : decode cX1_compile 76 = .ok (.iload 5, 2) := by decide +kernel
theorem dX1_compile_78 : decode cX1_compile 78 = .ok (.bipush 40, 2) := by decide +kernel
theorem dX1_compile_80 : decode cX1_compile 80 = .ok (.if_icmp .ne 12, 3) := by decide +kernel
theorem dX1_compile_83 : decode cX1_compile 83 = .ok (.aload_n 0, 1) := by decide +kernel
theorem dX1_compile_84 : decode cX1_compile 84 = .ok (.iload 5, 2) := by decide +kernel
theorem dX1_compile_86 : decode cX1_compile 86 = .ok (.invokevirtual 60, 3) := by decide +kernel
theorem dX1_compile_89 : decode cX1_compile 89 = .ok (.goto 42, 3) := by decide +kernel
theorem dX1_compile_92 : decode cX1_compile 92 = .ok (.iload 5, 2) := by decide +kernel
theorem dX1_compile_94 : decode cX1_compile 94 = .ok (.invokestatic 64, 3) := by decide +kernel
theorem dX1_compile_97 : decode cX1_compile 97 = .ok (.ifCond .eq 21, 3) := by decide +kernel
theorem dX1_compile_100 : decode cX1_compile 100 = .ok (.aload_n 0, 1) := by decide +kernel
theorem dX1_compile_101 : decode cX1_compile 101 = .ok (.iload 5, 2) := by decide +kernel
theorem dX1_compile_103 : decode cX1_compile 103 = .ok (.invokestatic 68, 3) := by decide +kernel
theorem dX1_compile_106 : decode cX1_compile 106 = .ok (.invokevirtual 72, 3) := by decide +kernel
theorem dX1_compile_109 : decode cX1_compile 109 = .ok (.aload_n 0, 1) := by decide +kernel
theorem dX1_compile_110 : decode cX1_compile 110 = .ok (.iload 5, 2) := by decide +kernel
theorem dX1_compile_112 : decode cX1_compile 112 = .ok (.invokevirtual 60, 3) := by decide +kernel
theorem dX1_compile_115 : decode cX1_compile 115 = .ok (.goto 16, 3) := by decide +kernel
theorem dX1_compile_118 : decode cX1_compile 118 = .ok (.aload_n 0, 1) := by decide +kernel
theorem dX1_compile_119 : decode cX1_compile 119 = .ok (.iconst 0, 1) := by decide +kernel
theorem dX1_compile_120 : decode cX1_compile 120 = .ok (.invokevirtual 72, 3) := by decide +kernel
theorem dX1_compile_123 : decode cX1_compile 123 = .ok (.aload_n 0, 1) := by decide +kernel
theorem dX1_compile_124 : decode cX1_compile 124 = .ok (.iload 5, 2) := by decide +kernel
theorem dX1_compile_126 : decode cX1_compile 126 = .ok (.iload_n 3, 1) := by decide +kernel
theorem dX1_compile_127 : decode cX1_compile 127 = .ok (.invokevirtual 75, 3) := by decide +kernel
theorem dX1_compile_130 : decode cX1_compile 130 = .ok (.istore_n 3, 1) := by decide +kernel
theorem dX1_compile_131 : decode cX1_compile 131 = .ok (.iload 5, 2) := by decide +kernel
theorem dX1_compile_133 : decode cX1_compile 133 = .ok (.bipush 59, 2) := by decide +kernel
theorem dX1_compile_135 : decode cX1_compile 135 = .ok (.if_icmp .ne 8, 3) := by decide +kernel
theorem dX1_compile_138 : decode cX1_compile 138 = .ok (.iload 4, 2) := by decide +kernel
theorem dX1_compile_140 : decode cX1_compile 140 = .ok (.iconst 1, 1) := by decide +kernel
theorem dX1_compile_141 : decode cX1_compile 141 = .ok (.iadd, 1) := by decide +kernel
theorem dX1_compile_142 : decode cX1_compile 142 = .ok (.ireturn, 1) := by decide +kernel
theorem dX1_compile_143 : decode cX1_compile 143 = .ok (.iinc 4 1, 3) := by decide +kernel
theorem dX1_compile_146 : decode cX1_compile 146 = .ok (.goto (-136), 3) := by decide +kernel
theorem dX1_compile_149 : decode cX1_compile 149 = .ok (.aload_n 1, 1) := by decide +kernel
theorem dX1_compile_150 : decode cX1_compile 150 = .ok (.getfield 42, 3) := by decide +kernel
theorem dX1_compile_153 : decode cX1_compile 153 = .ok (.ireturn, 1) := by decide +kernel
abbrev rm_X1_compile : Room := { frames := 3, cells := 0, slots := 0, locals := 67 }
def f_X1_compile_J131 (k0 : Nat) (S : St) (x3 : Int32) (x4 : Int32) (x5 : Int32) : Option ((Int32 × Int32 × St) ⊕ (Int32 × St)) :=
  if x5 = (59 : Int32) then (some (.inr ((x4 + (1 : Int32)), S))) else (some (.inl (x3, (x4 + 1), S)))
def f_X1_compile_L10 (k0 : Nat)  (z10 : Int32 × Int32 × St) : Option ((Int32 × Int32 × St) ⊕ (Int32 × St)) :=
  if (st_I z10.2.2 (ky 1 4)) ≤ z10.2.1 then (some (.inr ((st_I z10.2.2 (ky 1 4)), z10.2.2))) else ((f_X5_at (ky 1 1) z10.2.2 z10.2.1).bind (fun (q3 : Int32) => if q3 = (2 : Int32) then ((f_X5_longAt (ky 1 3) z10.2.2 z10.2.1).bind (fun (q17 : Int64) => (f_X1_emit k0 z10.2.2 (0 : Int32) (q17.toInt32)).bind (fun (q18 : St) => f_X1_compile_J131 k0 q18 z10.1 z10.2.1 q3))) else (if q3 < (211 : Int32) then (if q3 = (40 : Int32) then ((f_X1_putOff k0 z10.2.2 q3).bind (fun (q15 : St) => f_X1_compile_J131 k0 q15 z10.1 z10.2.1 q3)) else ((f_X1_isOperator   q3).bind (fun (q7 : Int32) => if q7 = 0 then ((f_X1_unwind k0 z10.2.2 (0 : Int32)).bind (fun (q9 : St) => (f_X1_endPart k0 q9 q3 z10.1).bind (fun (q10 : Int32 × St) => f_X1_compile_J131 k0 q10.2 q10.1 z10.2.1 q3))) else ((f_X1_bindingOf   q3).bind (fun (q12 : Int32) => (f_X1_unwind k0 z10.2.2 q12).bind (fun (q13 : St) => (f_X1_putOff k0 q13 q3).bind (fun (q14 : St) => f_X1_compile_J131 k0 q14 z10.1 z10.2.1 q3))))))) else ((f_X1_emit k0 z10.2.2 (1 : Int32) (q3 - (211 : Int32))).bind (fun (q16 : St) => f_X1_compile_J131 k0 q16 z10.1 z10.2.1 q3)))))
def f_X1_compile (k0 : Nat) (S : St) (x2 : Int32) : Option (Int32 × St) :=
  lt_v (up_I S (ky k0 4) (0 : Int32)) (fun (S1 : St) => iter (f_X1_compile_L10 k0  ) FU ((0 : Int32), x2, S1))
set_option maxRecDepth 100000 in
set_option maxHeartbeats 4000000 in
theorem k_X1_compile (l : Launch) (g : GG) (hg : gd wd_C g) (k0 : Nat) (hk0 : hs wd_C g k0 1) (h1 : hs wd_C g 1 3) (S : St) (x2 : Int32) (q : Int32 × St) (hf : f_X1_compile k0 S x2 = some q) : Met l yX1_compile (Cond.code yX1_compile cX1_compile 6 (some .int) :: gw_tbl) rm_X1_compile (va_Pc [.ref (gg_o g k0), .ref (gg_o g 1), .int x2] (wI wd_C g S)) (qc_w wd_C g q) 0 0 (aw g) := by
  refine mt_start (own := RX1) hg (by decide) rfl (Nat.le_of_ble_eq_true rfl) (fun p e s m args below meth c ls H locs cx hw hr hlk hl => ?_)
  have hx := cx.1
  have hb := cx.2.1
  have hown := cx.2.2.2.1
  have hts := cx.2.2.2.2.1
  have hl : lv_has ls 6 [(0, .ref (gg_o g k0)), (1, .ref (gg_o g 1)), (2, .int x2)] := hl
  replace hf := h_top hf
  unfold f_X1_compile at hf
  refine lv_iconst (v := 0) hx hb dX1_compile_0 (by decide) ?_
  refine lv_istore_n hx hb dX1_compile_1 rfl hl (by decide) (lv' := [(3, .int (0 : Int32)), (0, .ref (gg_o g k0)), (1, .ref (gg_o g 1)), (2, .int x2)]) rfl (fun ls hl => ?_)
  refine lv_aload_n hx hb dX1_compile_2 rfl (lv_at hl 1 rfl) ?_
  refine lv_iconst (v := 0) hx hb dX1_compile_3 (by decide) ?_
  refine pf_X1_39 cx hw hk0 hf dX1_compile_4 (fun S1 H locs hw hf => ?_)
  refine lv_iload_n hx hb dX1_compile_7 rfl (lv_at hl 3 rfl) ?_
  refine lv_istore hx hb dX1_compile_8 hl (by decide) (lv' := [(4, .int x2), (3, .int (0 : Int32)), (0, .ref (gg_o g k0)), (1, .ref (gg_o g 1)), (2, .int x2)]) rfl (fun ls hl => ?_)
  have L10 : ∀  (aft10 : (Int32 × St) → Option (Int32 × St)), (∀ v : Int32 × St, aft10 v = some q → (some v : Option (Int32 × St)).bind some = some q) → ∀ (n10 : Nat) (ls : Array Slot) (H : Heap) (locs : List Loc) (z10 : Int32 × Int32 × St), lv_has ls 6 [(0, .ref (gg_o g k0)), (1, .ref (gg_o g 1)), (3, .int z10.1), (4, .int z10.2.1)] → HH wd_C g s z10.2.2 H locs → (iter (f_X1_compile_L10 k0  ) n10 z10).bind aft10 = some q → W p l e rm_X1_compile s m args below meth c H locs 0 0 (MQ below (qc_w wd_C g q) args s 0 0 (aw g)) (F0 m 10 ls []) := by
    intro aft10 hR10 n10
    induction n10 with
    | zero => intro ls H locs z10 hl hw hf; exact h_iter0 hf
    | succ n10 ih10 =>
      intro ls H locs z10 hl hw hf
      replace hf := h_iter hf
      unfold f_X1_compile_L10 at hf
      have J131 : ∀ (ls : Array Slot) (H : Heap) (locs : List Loc) (S : St) (x3 : Int32) (x4 : Int32) (x5 : Int32), lv_has ls 6 [(0, .ref (gg_o g k0)), (1, .ref (gg_o g 1)), (3, .int x3), (4, .int x4), (5, .int x5)] → HH wd_C g s S H locs → (f_X1_compile_J131 k0 S x3 x4 x5).bind (it_K (f_X1_compile_L10 k0  ) n10 aft10) = some q → W p l e rm_X1_compile s m args below meth c H locs 0 0 (MQ below (qc_w wd_C g q) args s 0 0 (aw g)) (F0 m 131 ls []) := by
        intro ls H locs S x3 x4 x5 hl hw hf
        unfold f_X1_compile_J131 at hf
        refine lv_iload hx hb dX1_compile_131 (lv_at hl 4 rfl) ?_
        refine lv_bipush (v := 59) hx hb dX1_compile_133 (by decide) ?_
        refine lv_icmp_ne hx hb dX1_compile_135 (tgt := 143) rfl (fun hc11 => ?_) (fun hc11 => ?_)
        · replace hf := h_neg hc11 hf
          refine lv_iinc hx hb dX1_compile_143 hl (k := 3) rfl (congrArg (HAdd.hAdd _) (show Int32.ofInt (1) = 1 by decide)) (by decide) (lv' := [(4, .int (x4 + 1)), (0, .ref (gg_o g k0)), (1, .ref (gg_o g 1)), (3, .int x3), (5, .int x5)]) rfl (fun ls hl => ?_)
          refine lv_goto hx hb dX1_compile_146 (tgt := 10) rfl ?_
          exact ih10 _ _ _ (x3, (x4 + 1), S) (lv_sub hl [1, 2, 3, 0] rfl) hw hf
        replace hf := h_pos hc11 hf
        refine lv_iload hx hb dX1_compile_138 (lv_at hl 3 rfl) ?_
        refine lv_iconst (v := 1) hx hb dX1_compile_140 (by decide) ?_
        refine lv_iadd hx hb dX1_compile_141 ?_
        replace hf := hR10 ((x4 + (1 : Int32)), S) hf
        exact r_iretw cx hw hr hlk hf dX1_compile_142
      refine lv_iload hx hb dX1_compile_10 (lv_at hl 3 rfl) ?_
      refine lv_aload_n hx hb dX1_compile_12 rfl (lv_at hl 1 rfl) ?_
      refine gf_X1_42 cx hw h1 dX1_compile_13 ?_
      refine lv_icmp_ge hx hb dX1_compile_16 (tgt := 149) rfl (fun hc2 => ?_) (fun hc2 => ?_)
      · replace hf := h_pos hc2 hf
        refine lv_aload_n hx hb dX1_compile_149 rfl (lv_at hl 1 rfl) ?_
        refine gf_X1_42 cx hw h1 dX1_compile_150 ?_
        replace hf := hR10 ((st_I z10.2.2 (ky 1 4)), z10.2.2) hf
        exact r_iretw cx hw hr hlk hf dX1_compile_153
      replace hf := h_neg hc2 hf
      refine lv_aload_n hx hb dX1_compile_19 rfl (lv_at hl 1 rfl) ?_
      refine gf_X1_45 cx hw h1 dX1_compile_20 ?_
      refine lv_iload hx hb dX1_compile_23 (lv_at hl 3 rfl) ?_
      refine r_SN_i (As := [.ref (gg_a g (ky 1 1)), .int z10.2.1]) (rest := []) cx hw hf (nw_at cx) lk_X1_48 (fun q3 hq => k_X5_at l g hg (ky 1 1) (h1.2.2.1 1 rfl) z10.2.2 z10.2.1 q3 hq) ⟨⟨rfl, rfl⟩, Nat.le_of_ble_eq_true rfl, Nat.le_of_ble_eq_true rfl⟩ rfl hl.1 rfl (Nat.le_of_ble_eq_true rfl) dX1_compile_25 ⟨Nat.zero_le _, Nat.zero_le _⟩ (fun q3 H locs hw hf => ?_)
      refine lv_istore hx hb dX1_compile_28 hl (by decide) (lv' := [(5, .int q3), (0, .ref (gg_o g k0)), (1, .ref (gg_o g 1)), (3, .int z10.1), (4, .int z10.2.1)]) rfl (fun ls hl => ?_)
      refine lv_iload hx hb dX1_compile_30 (lv_at hl 0 rfl) ?_
      refine lv_iconst (v := 2) hx hb dX1_compile_32 (by decide) ?_
      refine lv_icmp_ne hx hb dX1_compile_33 (tgt := 54) rfl (fun hc4 => ?_) (fun hc4 => ?_)
      · replace hf := h_neg hc4 hf
        refine lv_iload hx hb dX1_compile_54 (lv_at hl 0 rfl) ?_
        refine lv_sipush (v := 211) hx hb dX1_compile_56 (by decide) ?_
        refine lv_icmp_lt hx hb dX1_compile_59 (tgt := 76) rfl (fun hc5 => ?_) (fun hc5 => ?_)
        · replace hf := h_pos hc5 hf
          refine lv_iload hx hb dX1_compile_76 (lv_at hl 0 rfl) ?_
          refine lv_bipush (v := 40) hx hb dX1_compile_78 (by decide) ?_
          refine lv_icmp_ne hx hb dX1_compile_80 (tgt := 92) rfl (fun hc6 => ?_) (fun hc6 => ?_)
          · replace hf := h_neg hc6 hf
            refine lv_iload hx hb dX1_compile_92 (lv_at hl 0 rfl) ?_
            refine r_S_i (As := [.int q3]) (rest := []) cx hw hf lk_X1_64 (fun q7 hq => k_X1_isOperator l g hg   z10.2.2 q3 q7 hq) ⟨⟨rfl, rfl⟩, Nat.le_of_ble_eq_true rfl, Nat.le_of_ble_eq_true rfl⟩ rfl hl.1 rfl (Nat.le_of_ble_eq_true rfl) dX1_compile_94 ⟨Nat.zero_le _, Nat.zero_le _⟩ (fun q7 H locs hw hf => ?_)
            refine lv_if_eq hx hb dX1_compile_97 (tgt := 118) rfl (fun hc8 => ?_) (fun hc8 => ?_)
            · replace hf := h_pos hc8 hf
              refine lv_aload_n hx hb dX1_compile_118 rfl (lv_at hl 1 rfl) ?_
              refine lv_iconst (v := 0) hx hb dX1_compile_119 (by decide) ?_
              refine r_V_v (As := [.int (0 : Int32)]) (rest := []) cx hw hf hk0.2.1 (by rw [hk0.1]; rfl) lk_X1_72 (fun q9 hq => k_X1_unwind l g hg k0 hk0 z10.2.2 (0 : Int32) q9 hq) ⟨⟨rfl, rfl⟩, Nat.le_of_ble_eq_true rfl, Nat.le_of_ble_eq_true rfl⟩ rfl hl.1 rfl (Nat.le_of_ble_eq_true rfl) dX1_compile_120 ⟨Nat.zero_le _, Nat.zero_le _⟩ (fun q9 H locs hw hf => ?_)
              refine lv_aload_n hx hb dX1_compile_123 rfl (lv_at hl 1 rfl) ?_
              refine lv_iload hx hb dX1_compile_124 (lv_at hl 0 rfl) ?_
              refine lv_iload_n hx hb dX1_compile_126 rfl (lv_at hl 3 rfl) ?_
              refine r_V_w (As := [.int q3, .int z10.1]) (rest := []) cx hw hf hk0.2.1 (by rw [hk0.1]; rfl) lk_X1_75 (fun q10 hq => k_X1_endPart l g hg k0 hk0 q9 q3 z10.1 q10 hq) ⟨⟨rfl, rfl⟩, Nat.le_of_ble_eq_true rfl, Nat.le_of_ble_eq_true rfl⟩ rfl hl.1 rfl (Nat.le_of_ble_eq_true rfl) dX1_compile_127 ⟨Nat.zero_le _, Nat.zero_le _⟩ (fun q10 H locs hw hf => ?_)
              refine lv_istore_n hx hb dX1_compile_130 rfl hl (by decide) (lv' := [(3, .int q10.1), (5, .int q3), (0, .ref (gg_o g k0)), (1, .ref (gg_o g 1)), (4, .int z10.2.1)]) rfl (fun ls hl => ?_)
              exact J131 _ _ _ q10.2 q10.1 z10.2.1 q3 (lv_sub hl [2, 3, 0, 4, 1] rfl) hw hf
            replace hf := h_neg hc8 hf
            refine lv_aload_n hx hb dX1_compile_100 rfl (lv_at hl 1 rfl) ?_
            refine lv_iload hx hb dX1_compile_101 (lv_at hl 0 rfl) ?_
            refine r_S_i (As := [.int q3]) (rest := [.ref (gg_o g k0)]) cx hw hf lk_X1_68 (fun q12 hq => k_X1_bindingOf l g hg   z10.2.2 q3 q12 hq) ⟨⟨rfl, rfl⟩, Nat.le_of_ble_eq_true rfl, Nat.le_of_ble_eq_true rfl⟩ rfl hl.1 rfl (Nat.le_of_ble_eq_true rfl) dX1_compile_103 ⟨Nat.zero_le _, Nat.zero_le _⟩ (fun q12 H locs hw hf => ?_)
            refine r_V_v (As := [.int q12]) (rest := []) cx hw hf hk0.2.1 (by rw [hk0.1]; rfl) lk_X1_72 (fun q13 hq => k_X1_unwind l g hg k0 hk0 z10.2.2 q12 q13 hq) ⟨⟨rfl, rfl⟩, Nat.le_of_ble_eq_true rfl, Nat.le_of_ble_eq_true rfl⟩ rfl hl.1 rfl (Nat.le_of_ble_eq_true rfl) dX1_compile_106 ⟨Nat.zero_le _, Nat.zero_le _⟩ (fun q13 H locs hw hf => ?_)
            refine lv_aload_n hx hb dX1_compile_109 rfl (lv_at hl 1 rfl) ?_
            refine lv_iload hx hb dX1_compile_110 (lv_at hl 0 rfl) ?_
            refine r_V_v (As := [.int q3]) (rest := []) cx hw hf hk0.2.1 (by rw [hk0.1]; rfl) lk_X1_60 (fun q14 hq => k_X1_putOff l g hg k0 hk0 q13 q3 q14 hq) ⟨⟨rfl, rfl⟩, Nat.le_of_ble_eq_true rfl, Nat.le_of_ble_eq_true rfl⟩ rfl hl.1 rfl (Nat.le_of_ble_eq_true rfl) dX1_compile_112 ⟨Nat.zero_le _, Nat.zero_le _⟩ (fun q14 H locs hw hf => ?_)
            refine lv_goto hx hb dX1_compile_115 (tgt := 131) rfl ?_
            exact J131 _ _ _ q14 z10.1 z10.2.1 q3 (lv_sub hl [1, 2, 3, 4, 0] rfl) hw hf
          replace hf := h_pos hc6 hf
          refine lv_aload_n hx hb dX1_compile_83 rfl (lv_at hl 1 rfl) ?_
          refine lv_iload hx hb dX1_compile_84 (lv_at hl 0 rfl) ?_
          refine r_V_v (As := [.int q3]) (rest := []) cx hw hf hk0.2.1 (by rw [hk0.1]; rfl) lk_X1_60 (fun q15 hq => k_X1_putOff l g hg k0 hk0 z10.2.2 q3 q15 hq) ⟨⟨rfl, rfl⟩, Nat.le_of_ble_eq_true rfl, Nat.le_of_ble_eq_true rfl⟩ rfl hl.1 rfl (Nat.le_of_ble_eq_true rfl) dX1_compile_86 ⟨Nat.zero_le _, Nat.zero_le _⟩ (fun q15 H locs hw hf => ?_)
          refine lv_goto hx hb dX1_compile_89 (tgt := 131) rfl ?_
          exact J131 _ _ _ q15 z10.1 z10.2.1 q3 (lv_sub hl [1, 2, 3, 4, 0] rfl) hw hf
        replace hf := h_neg hc5 hf
        refine lv_aload_n hx hb dX1_compile_62 rfl (lv_at hl 1 rfl) ?_
        refine lv_iconst (v := 1) hx hb dX1_compile_63 (by decide) ?_
        refine lv_iload hx hb dX1_compile_64 (lv_at hl 0 rfl) ?_
        refine lv_sipush (v := 211) hx hb dX1_compile_66 (by decide) ?_
        refine lv_isub hx hb dX1_compile_69 ?_
        refine r_V_v (As := [.int (1 : Int32), .int (q3 - (211 : Int32))]) (rest := []) cx hw hf hk0.2.1 (by rw [hk0.1]; rfl) lk_X1_29 (fun q16 hq => k_X1_emit l g hg k0 hk0 z10.2.2 (1 : Int32) (q3 - (211 : Int32)) q16 hq) ⟨⟨rfl, rfl⟩, Nat.le_of_ble_eq_true rfl, Nat.le_of_ble_eq_true rfl⟩ rfl hl.1 rfl (Nat.le_of_ble_eq_true rfl) dX1_compile_70 ⟨Nat.zero_le _, Nat.zero_le _⟩ (fun q16 H locs hw hf => ?_)
        refine lv_goto hx hb dX1_compile_73 (tgt := 131) rfl ?_
        exact J131 _ _ _ q16 z10.1 z10.2.1 q3 (lv_sub hl [1, 2, 3, 4, 0] rfl) hw hf
      replace hf := h_pos hc4 hf
      refine lv_aload_n hx hb dX1_compile_36 rfl (lv_at hl 1 rfl) ?_
      refine lv_iconst (v := 0) hx hb dX1_compile_37 (by decide) ?_
      refine lv_aload_n hx hb dX1_compile_38 rfl (lv_at hl 2 rfl) ?_
      refine gf_X1_52 cx hw h1 dX1_compile_39 ?_
      refine lv_iload hx hb dX1_compile_42 (lv_at hl 4 rfl) ?_
      refine r_SN_l (As := [.ref (gg_l g (ky 1 3)), .int z10.2.1]) (rest := [.int (0 : Int32), .ref (gg_o g k0)]) cx hw hf (nw_at cx) lk_X1_56 (fun q17 hq => k_X5_longAt l g hg (ky 1 3) (h1.2.2.2.1 3 rfl) z10.2.2 z10.2.1 q17 hq) ⟨⟨rfl, rfl⟩, Nat.le_of_ble_eq_true rfl, Nat.le_of_ble_eq_true rfl⟩ rfl hl.1 rfl (Nat.le_of_ble_eq_true rfl) dX1_compile_44 ⟨Nat.zero_le _, Nat.zero_le _⟩ (fun q17 H locs hw hf => ?_)
      refine lv_l2i (v := (q17.toInt32)) hx hb dX1_compile_47 rfl ?_
      refine r_V_v (As := [.int (0 : Int32), .int (q17.toInt32)]) (rest := []) cx hw hf hk0.2.1 (by rw [hk0.1]; rfl) lk_X1_29 (fun q18 hq => k_X1_emit l g hg k0 hk0 z10.2.2 (0 : Int32) (q17.toInt32) q18 hq) ⟨⟨rfl, rfl⟩, Nat.le_of_ble_eq_true rfl, Nat.le_of_ble_eq_true rfl⟩ rfl hl.1 rfl (Nat.le_of_ble_eq_true rfl) dX1_compile_48 ⟨Nat.zero_le _, Nat.zero_le _⟩ (fun q18 H locs hw hf => ?_)
      refine lv_goto hx hb dX1_compile_51 (tgt := 131) rfl ?_
      exact J131 _ _ _ q18 z10.1 z10.2.1 q3 (lv_sub hl [1, 2, 3, 4, 0] rfl) hw hf
  exact L10 some (fun v h => h) FU _ _ _ ((0 : Int32), x2, S1) (lv_sub hl [2, 3, 1, 0] rfl) hw hf
