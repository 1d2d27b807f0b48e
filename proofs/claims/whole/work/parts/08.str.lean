theorem dJ3_checkIndex_8e157_0 : decode cJ3_checkIndex_8e157 0 = .ok (.iload_n 0, 1) := by decide +kernel
theorem dJ3_checkIndex_8e157_1 : decode cJ3_checkIndex_8e157 1 = .ok (.ifCond .lt 8, 3) := by decide +kernel
theorem dJ3_checkIndex_8e157_4 : decode cJ3_checkIndex_8e157 4 = .ok (.iload_n 0, 1) := by decide +kernel
theorem dJ3_checkIndex_8e157_5 : decode cJ3_checkIndex_8e157 5 = .ok (.iload_n 1, 1) := by decide +kernel
theorem dJ3_checkIndex_8e157_6 : decode cJ3_checkIndex_8e157 6 = .ok (.if_icmp .lt 10, 3) := by decide +kernel
theorem dJ3_checkIndex_8e157_9 : decode cJ3_checkIndex_8e157 9 = .ok (.aload_n 2, 1) := by decide +kernel
theorem dJ3_checkIndex_8e157_10 : decode cJ3_checkIndex_8e157 10 = .ok (.iload_n 0, 1) := by decide +kernel
theorem dJ3_checkIndex_8e157_11 : decode cJ3_checkIndex_8e157 11 = .ok (.iload_n 1, 1) := by decide +kernel
theorem dJ3_checkIndex_8e157_12 : decode cJ3_checkIndex_8e157 12 = .ok (.invokestatic 95, 3) := by decide +kernel
theorem dJ3_checkIndex_8e157_15 : decode cJ3_checkIndex_8e157 15 = .ok (.athrow, 1) := by decide +kernel
theorem dJ3_checkIndex_8e157_16 : decode cJ3_checkIndex_8e157 16 = .ok (.iload_n 0, 1) := by decide +kernel
theorem dJ3_checkIndex_8e157_17 : decode cJ3_checkIndex_8e157 17 = .ok (.ireturn, 1) := by decide +kernel
abbrev rm_J3_checkIndex_8e157 : Room := { frames := 0, cells := 0, slots := 0, locals := 0 }
def f_J3_checkIndex_8e157 (x0 : Int32) (x1 : Int32) : Option (Int32) :=
  if x0 < 0 then (none) else (if x0 < x1 then (some x0) else (none))
set_option maxRecDepth 100000 in
set_option maxHeartbeats 4000000 in
theorem k_J3_checkIndex_8e157 (l : Launch) (g : GG) (hg : gd wd_C g) (k2 : Nat) (S : St) (x0 : Int32) (x1 : Int32) (q : Int32) (hf : f_J3_checkIndex_8e157   x0 x1 = some q) : Met l yJ3_checkIndex_8e157 (Cond.code yJ3_checkIndex_8e157 cJ3_checkIndex_8e157 3 (some .int) :: gw_tbl) rm_J3_checkIndex_8e157 (va_Pc [.int x0, .int x1, .ref k2] (wI wd_C g S)) (qc_i wd_C g S q) 0 0 (aw g) := by
  refine mt_start (own := RJ3) hg (by decide) rfl (Nat.le_of_ble_eq_true rfl) (fun p e s m args below meth c ls H locs cx hw hr hlk hl => ?_)
  have hx := cx.1
  have hb := cx.2.1
  have hown := cx.2.2.2.1
  have hts := cx.2.2.2.2.1
  have hl : lv_has ls 3 [(0, .int x0), (1, .int x1), (2, .ref k2)] := hl
  replace hf := h_top hf
  unfold f_J3_checkIndex_8e157 at hf
  refine lv_iload_n hx hb dJ3_checkIndex_8e157_0 rfl (lv_at hl 0 rfl) ?_
  refine lv_if_lt hx hb dJ3_checkIndex_8e157_1 (tgt := 9) rfl (fun hc1 => ?_) (fun hc1 => ?_)
  · replace hf := h_pos hc1 hf
    exact h_none hf
  replace hf := h_neg hc1 hf
  refine lv_iload_n hx hb dJ3_checkIndex_8e157_4 rfl (lv_at hl 0 rfl) ?_
  refine lv_iload_n hx hb dJ3_checkIndex_8e157_5 rfl (lv_at hl 1 rfl) ?_
  refine lv_icmp_lt hx hb dJ3_checkIndex_8e157_6 (tgt := 16) rfl (fun hc2 => ?_) (fun hc2 => ?_)
  · replace hf := h_pos hc2 hf
    refine lv_iload_n hx hb dJ3_checkIndex_8e157_16 rfl (lv_at hl 0 rfl) ?_
    exact r_iret cx hw hr hlk hf dJ3_checkIndex_8e157_17
  replace hf := h_neg hc2 hf
  exact h_none hf
abbrev rm_J3_checkIndex_8e157N : Room := { frames := 0, cells := 0, slots := 0, locals := 0 }
set_option maxRecDepth 100000 in
set_option maxHeartbeats 4000000 in
theorem k_J3_checkIndex_8e157N (l : Launch) (g : GG) (hg : gd wd_C g)  (S : St) (x0 : Int32) (x1 : Int32) (q : Int32) (hf : f_J3_checkIndex_8e157   x0 x1 = some q) : Met l yJ3_checkIndex_8e157 (Cond.code yJ3_checkIndex_8e157 cJ3_checkIndex_8e157 3 (some .int) :: gw_tbl) rm_J3_checkIndex_8e157N (va_Pc [.int x0, .int x1, .null] (wI wd_C g S)) (qc_i wd_C g S q) 0 0 (aw g) := by
  refine mt_start (own := RJ3) hg (by decide) rfl (Nat.le_of_ble_eq_true rfl) (fun p e s m args below meth c ls H locs cx hw hr hlk hl => ?_)
  have hx := cx.1
  have hb := cx.2.1
  have hown := cx.2.2.2.1
  have hts := cx.2.2.2.2.1
  have hl : lv_has ls 3 [(0, .int x0), (1, .int x1), (2, .null)] := hl
  replace hf := h_top hf
  unfold f_J3_checkIndex_8e157 at hf
  refine lv_iload_n hx hb dJ3_checkIndex_8e157_0 rfl (lv_at hl 0 rfl) ?_
  refine lv_if_lt hx hb dJ3_checkIndex_8e157_1 (tgt := 9) rfl (fun hc1 => ?_) (fun hc1 => ?_)
  · replace hf := h_pos hc1 hf
    exact h_none hf
  replace hf := h_neg hc1 hf
  refine lv_iload_n hx hb dJ3_checkIndex_8e157_4 rfl (lv_at hl 0 rfl) ?_
  refine lv_iload_n hx hb dJ3_checkIndex_8e157_5 rfl (lv_at hl 1 rfl) ?_
  refine lv_icmp_lt hx hb dJ3_checkIndex_8e157_6 (tgt := 16) rfl (fun hc2 => ?_) (fun hc2 => ?_)
  · replace hf := h_pos hc2 hf
    refine lv_iload_n hx hb dJ3_checkIndex_8e157_16 rfl (lv_at hl 0 rfl) ?_
    exact r_iret cx hw hr hlk hf dJ3_checkIndex_8e157_17
  replace hf := h_neg hc2 hf
  exact h_none hf
theorem dJ0_checkIndex_df160_0 : decode cJ0_checkIndex_df160 0 = .ok (.iload_n 0, 1) := by decide +kernel
theorem dJ0_checkIndex_df160_1 : decode cJ0_checkIndex_df160 1 = .ok (.iload_n 1, 1) := by decide +kernel
theorem dJ0_checkIndex_df160_2 : decode cJ0_checkIndex_df160 2 = .ok (.getstatic 1053, 3) := by decide +kernel
theorem dJ0_checkIndex_df160_5 : decode cJ0_checkIndex_df160 5 = .ok (.invokestatic 1059, 3) := by decide +kernel
theorem dJ0_checkIndex_df160_8 : decode cJ0_checkIndex_df160 8 = .ok (.pop, 1) := by decide +kernel
theorem dJ0_checkIndex_df160_9 : decode cJ0_checkIndex_df160 9 = .ok (.return_, 1) := by decide +kernel
abbrev rm_J0_checkIndex_df160 : Room := { frames := 1, cells := 0, slots := 0, locals := 22 }
def f_J0_checkIndex_df160 (x0 : Int32) (x1 : Int32) : Option (Unit) :=
  (f_J3_checkIndex_8e157   x0 x1).bind (fun (q1 : Int32) => some ())
set_option maxRecDepth 100000 in
set_option maxHeartbeats 4000000 in
theorem k_J0_checkIndex_df160 (l : Launch) (g : GG) (hg : gd wd_C g)  (S : St) (x0 : Int32) (x1 : Int32) (q : Unit) (hf : f_J0_checkIndex_df160   x0 x1 = some q) : Met l yJ0_checkIndex_df160 (Cond.code yJ0_checkIndex_df160 cJ0_checkIndex_df160 2 none :: gw_tbl) rm_J0_checkIndex_df160 (va_Pc [.int x0, .int x1] (wI wd_C g S)) (qc_v wd_C g S) 0 0 (aw g) := by
  refine mt_start (own := RJ0) hg (by decide) rfl (Nat.le_of_ble_eq_true rfl) (fun p e s m args below meth c ls H locs cx hw hr hlk hl => ?_)
  have hx := cx.1
  have hb := cx.2.1
  have hown := cx.2.2.2.1
  have hts := cx.2.2.2.2.1
  have hl : lv_has ls 2 [(0, .int x0), (1, .int x1)] := hl
  replace hf := h_top hf
  unfold f_J0_checkIndex_df160 at hf
  refine lv_iload_n hx hb dJ0_checkIndex_df160_0 rfl (lv_at hl 0 rfl) ?_
  refine lv_iload_n hx hb dJ0_checkIndex_df160_1 rfl (lv_at hl 1 rfl) ?_
  rcases st_q cx with hZ | ⟨t0, hZ⟩
  · refine va_gets hx hb hZ hw.2 hown (hts _ wd_57) (fun _ h => h) dJ0_checkIndex_df160_2 ?_
    refine r_S_i (As := [.int x0, .int x1, .null]) (rest := []) cx hw hf lk_J0_1059 (fun q1 hq => k_J3_checkIndex_8e157N l g hg   S x0 x1 q1 hq) ⟨⟨rfl, rfl⟩, Nat.le_of_ble_eq_true rfl, Nat.le_of_ble_eq_true rfl⟩ rfl hl.1 rfl (Nat.le_of_ble_eq_true rfl) dJ0_checkIndex_df160_5 ⟨Nat.zero_le _, Nat.zero_le _⟩ (fun q1 H locs hw hf => ?_)
    refine lv_pop hx hb dJ0_checkIndex_df160_8 rfl ?_
    exact r_uret cx hw hr hlk hf dJ0_checkIndex_df160_9
  · refine va_gets hx hb hZ hw.2 hown (hts _ wd_57) (fun _ h => h) dJ0_checkIndex_df160_2 ?_
    refine r_S_i (As := [.int x0, .int x1, .ref t0]) (rest := []) cx hw hf lk_J0_1059 (fun q1 hq => k_J3_checkIndex_8e157 l g hg t0  S x0 x1 q1 hq) ⟨⟨rfl, rfl⟩, Nat.le_of_ble_eq_true rfl, Nat.le_of_ble_eq_true rfl⟩ rfl hl.1 rfl (Nat.le_of_ble_eq_true rfl) dJ0_checkIndex_df160_5 ⟨Nat.zero_le _, Nat.zero_le _⟩ (fun q1 H locs hw hf => ?_)
    refine lv_pop hx hb dJ0_checkIndex_df160_8 rfl ?_
    exact r_uret cx hw hr hlk hf dJ0_checkIndex_df160_9
theorem dJ0_coder_7d493_0 : decode cJ0_coder_7d493 0 = .ok (.getstatic 38, 3) := by decide +kernel
theorem dJ0_coder_7d493_3 : decode cJ0_coder_7d493 3 = .ok (.ifCond .eq 10, 3) := by decide +kernel
theorem dJ0_coder_7d493_6 : decode cJ0_coder_7d493 6 = .ok (.aload_n 0, 1) := by decide +kernel
theorem dJ0_coder_7d493_7 : decode cJ0_coder_7d493 7 = .ok (.getfield 15, 3) := by decide +kernel
theorem dJ0_coder_7d493_10 : decode cJ0_coder_7d493 10 = .ok (.goto 4, 3) := by decide +kernel
theorem dJ0_coder_7d493_13 : decode cJ0_coder_7d493 13 = .ok (.iconst 1, 1) := by decide +kernel
theorem dJ0_coder_7d493_14 : decode cJ0_coder_7d493 14 = .ok (.ireturn, 1) := by decide +kernel
abbrev rm_J0_coder_7d493 : Room := { frames := 0, cells := 0, slots := 0, locals := 0 }
def f_J0_coder_7d493 (k0 : Nat)  : Option (Int32) :=
  some (0 : Int32)
set_option maxRecDepth 100000 in
set_option maxHeartbeats 4000000 in
theorem k_J0_coder_7d493 (l : Launch) (g : GG) (hg : gd wd_C g) (k0 : Nat) (hk0 : k0 < 9) (S : St)  (q : Int32) (hf : f_J0_coder_7d493 k0   = some q) : Met l yJ0_coder_7d493 (Cond.code yJ0_coder_7d493 cJ0_coder_7d493 1 (some .byte) :: gw_tbl) rm_J0_coder_7d493 (va_Pc [.ref (gg_k g k0)] (wI wd_C g S)) (qc_i wd_C g S q) 0 0 (aw g) := by
  refine mt_start (own := RJ0) hg (by decide) rfl (Nat.le_of_ble_eq_true rfl) (fun p e s m args below meth c ls H locs cx hw hr hlk hl => ?_)
  have hx := cx.1
  have hb := cx.2.1
  have hown := cx.2.2.2.1
  have hts := cx.2.2.2.2.1
  have hl : lv_has ls 1 [(0, .ref (gg_k g k0))] := hl
  replace hf := h_top hf
  unfold f_J0_coder_7d493 at hf
  refine va_gets hx hb (st_c cx) hw.2 hown (hts _ wd_41) (fun _ h => h) dJ0_coder_7d493_0 ?_
  refine lv_if_eq hx hb dJ0_coder_7d493_3 (tgt := 13) rfl (fun hc => absurd hc (by decide)) (fun _ => ?_)
  refine lv_aload_n hx hb dJ0_coder_7d493_6 rfl (lv_at hl 0 rfl) ?_
  refine r_scod cx hw hk0 dJ0_coder_7d493_7 ?_
  refine lv_goto hx hb dJ0_coder_7d493_10 (tgt := 14) rfl ?_
  exact r_nret cx hw hr hlk rfl hf dJ0_coder_7d493_14
theorem dJ0_isLatin1_aae02_0 : decode cJ0_isLatin1_aae02 0 = .ok (.getstatic 38, 3) := by decide +kernel
theorem dJ0_isLatin1_aae02_3 : decode cJ0_isLatin1_aae02 3 = .ok (.ifCond .eq 14, 3) := by decide +kernel
theorem dJ0_isLatin1_aae02_6 : decode cJ0_isLatin1_aae02 6 = .ok (.aload_n 0, 1) := by decide +kernel
theorem dJ0_isLatin1_aae02_7 : decode cJ0_isLatin1_aae02 7 = .ok (.getfield 15, 3) := by decide +kernel
theorem dJ0_isLatin1_aae02_10 : decode cJ0_isLatin1_aae02 10 = .ok (.ifCond .ne 7, 3) := by decide +kernel
theorem dJ0_isLatin1_aae02_13 : decode cJ0_isLatin1_aae02 13 = .ok (.iconst 1, 1) := by decide +kernel
theorem dJ0_isLatin1_aae02_14 : decode cJ0_isLatin1_aae02 14 = .ok (.goto 4, 3) := by decide +kernel
theorem dJ0_isLatin1_aae02_17 : decode cJ0_isLatin1_aae02 17 = .ok (.iconst 0, 1) := by decide +kernel
theorem dJ0_isLatin1_aae02_18 : decode cJ0_isLatin1_aae02 18 = .ok (.ireturn, 1) := by decide +kernel
abbrev rm_J0_isLatin1_aae02 : Room := { frames := 0, cells := 0, slots := 0, locals := 0 }
def f_J0_isLatin1_aae02 (k0 : Nat)  : Option (Int32) :=
  some (1 : Int32)
set_option maxRecDepth 100000 in
set_option maxHeartbeats 4000000 in
theorem k_J0_isLatin1_aae02 (l : Launch) (g : GG) (hg : gd wd_C g) (k0 : Nat) (hk0 : k0 < 9) (S : St)  (q : Int32) (hf : f_J0_isLatin1_aae02 k0   = some q) : Met l yJ0_isLatin1_aae02 (Cond.code yJ0_isLatin1_aae02 cJ0_isLatin1_aae02 1 (some .boolean) :: gw_tbl) rm_J0_isLatin1_aae02 (va_Pc [.ref (gg_k g k0)] (wI wd_C g S)) (qc_i wd_C g S q) 0 0 (aw g) := by
  refine mt_start (own := RJ0) hg (by decide) rfl (Nat.le_of_ble_eq_true rfl) (fun p e s m args below meth c ls H locs cx hw hr hlk hl => ?_)
  have hx := cx.1
  have hb := cx.2.1
  have hown := cx.2.2.2.1
  have hts := cx.2.2.2.2.1
  have hl : lv_has ls 1 [(0, .ref (gg_k g k0))] := hl
  replace hf := h_top hf
  unfold f_J0_isLatin1_aae02 at hf
  refine va_gets hx hb (st_c cx) hw.2 hown (hts _ wd_41) (fun _ h => h) dJ0_isLatin1_aae02_0 ?_
  refine lv_if_eq hx hb dJ0_isLatin1_aae02_3 (tgt := 17) rfl (fun hc => absurd hc (by decide)) (fun _ => ?_)
  refine lv_aload_n hx hb dJ0_isLatin1_aae02_6 rfl (lv_at hl 0 rfl) ?_
  refine r_scod cx hw hk0 dJ0_isLatin1_aae02_7 ?_
  refine lv_if_ne hx hb dJ0_isLatin1_aae02_10 (tgt := 17) rfl (fun hc => absurd hc (by decide)) (fun _ => ?_)
  refine lv_iconst (v := 1) hx hb dJ0_isLatin1_aae02_13 (by decide) ?_
  refine lv_goto hx hb dJ0_isLatin1_aae02_14 (tgt := 18) rfl ?_
  exact r_zret cx hw hr hlk (Or.inr rfl) hf dJ0_isLatin1_aae02_18
theorem dJ1_charAt_3b067_0 : decode cJ1_charAt_3b067 0 = .ok (.iload_n 1, 1) := by decide +kernel
theorem dJ1_charAt_3b067_1 : decode cJ1_charAt_3b067 1 = .ok (.aload_n 0, 1) := by decide +kernel
theorem dJ1_charAt_3b067_2 : decode cJ1_charAt_3b067 2 = .ok (.arraylength, 1) := by decide +kernel
theorem dJ1_charAt_3b067_3 : decode cJ1_charAt_3b067 3 = .ok (.invokestatic 9, 3) := by decide +kernel
theorem dJ1_charAt_3b067_6 : decode cJ1_charAt_3b067 6 = .ok (.aload_n 0, 1) := by decide +kernel
theorem dJ1_charAt_3b067_7 : decode cJ1_charAt_3b067 7 = .ok (.iload_n 1, 1) := by decide +kernel
theorem dJ1_charAt_3b067_8 : decode cJ1_charAt_3b067 8 = .ok (.baload, 1) := by decide +kernel
theorem dJ1_charAt_3b067_9 : decode cJ1_charAt_3b067 9 = .ok (.sipush 255, 3) := by decide +kernel
theorem dJ1_charAt_3b067_12 : decode cJ1_charAt_3b067 12 = .ok (.iand, 1) := by decide +kernel
theorem dJ1_charAt_3b067_13 : decode cJ1_charAt_3b067 13 = .ok (.i2c, 1) := by decide +kernel
theorem dJ1_charAt_3b067_14 : decode cJ1_charAt_3b067 14 = .ok (.ireturn, 1) := by decide +kernel
abbrev rm_J1_charAt_3b067 : Room := { frames := 2, cells := 0, slots := 0, locals := 43 }
def f_J1_charAt_3b067 (k0 : Nat) (x1 : Int32) : Option (Int32) :=
  (f_J0_checkIndex_df160   x1 (Int32.ofNat (sl_C.getD k0 0))).bind (fun (q1 : Unit) => chk (ib x1 (sl_C.getD k0 0)) (chk (isc (((((sb_C.getD k0 []).getD x1.toNatClampNeg 0) &&& (255 : Int32)).toUInt32 % 65536).toInt32)) (some (((((sb_C.getD k0 []).getD x1.toNatClampNeg 0) &&& (255 : Int32)).toUInt32 % 65536).toInt32))))
set_option maxRecDepth 100000 in
set_option maxHeartbeats 4000000 in
theorem k_J1_charAt_3b067 (l : Launch) (g : GG) (hg : gd wd_C g) (k0 : Nat) (hk0 : k0 < 9) (S : St) (x1 : Int32) (q : Int32) (hf : f_J1_charAt_3b067 k0  x1 = some q) : Met l yJ1_charAt_3b067 (Cond.code yJ1_charAt_3b067 cJ1_charAt_3b067 2 (some .char) :: gw_tbl) rm_J1_charAt_3b067 (va_Pc [.ref (gg_v g k0), .int x1] (wI wd_C g S)) (qc_i wd_C g S q) 0 0 (aw g) := by
  refine mt_start (own := RJ1) hg (by decide) rfl (Nat.le_of_ble_eq_true rfl) (fun p e s m args below meth c ls H locs cx hw hr hlk hl => ?_)
  have hx := cx.1
  have hb := cx.2.1
  have hown := cx.2.2.2.1
  have hts := cx.2.2.2.2.1
  have hl : lv_has ls 2 [(0, .ref (gg_v g k0)), (1, .int x1)] := hl
  replace hf := h_top hf
  unfold f_J1_charAt_3b067 at hf
  refine lv_iload_n hx hb dJ1_charAt_3b067_0 rfl (lv_at hl 1 rfl) ?_
  refine lv_aload_n hx hb dJ1_charAt_3b067_1 rfl (lv_at hl 0 rfl) ?_
  refine r_slen cx hw hk0 dJ1_charAt_3b067_2 ?_
  refine r_S_u (As := [.int x1, .int (Int32.ofNat (sl_C.getD k0 0))]) (rest := []) cx hw hf lk_J1_9 (fun q1 hq => k_J0_checkIndex_df160 l g hg   S x1 (Int32.ofNat (sl_C.getD k0 0)) q1 hq) ⟨⟨rfl, rfl⟩, Nat.le_of_ble_eq_true rfl, Nat.le_of_ble_eq_true rfl⟩ rfl hl.1 rfl (Nat.le_of_ble_eq_true rfl) dJ1_charAt_3b067_3 ⟨Nat.zero_le _, Nat.zero_le _⟩ (fun q1 H locs hw hf => ?_)
  refine lv_aload_n hx hb dJ1_charAt_3b067_6 rfl (lv_at hl 0 rfl) ?_
  refine lv_iload_n hx hb dJ1_charAt_3b067_7 rfl (lv_at hl 1 rfl) ?_
  refine r_sld cx hw hk0 hf dJ1_charAt_3b067_8 (fun hf => ?_)
  refine lv_sipush (v := 255) hx hb dJ1_charAt_3b067_9 (by decide) ?_
  refine lv_iand hx hb dJ1_charAt_3b067_12 ?_
  refine lv_i2c (v := (((((sb_C.getD k0 []).getD x1.toNatClampNeg 0) &&& (255 : Int32)).toUInt32 % 65536).toInt32)) hx hb dJ1_charAt_3b067_13 rfl ?_
  obtain ⟨hc2, hf⟩ := h_chk hf
  exact r_nret cx hw hr hlk (n_char hc2) hf dJ1_charAt_3b067_14
theorem dJ0_charAt_5068e_0 : decode cJ0_charAt_5068e 0 = .ok (.aload_n 0, 1) := by decide +kernel
theorem dJ0_charAt_5068e_1 : decode cJ0_charAt_5068e 1 = .ok (.invokevirtual 492, 3) := by decide +kernel
theorem dJ0_charAt_5068e_4 : decode cJ0_charAt_5068e 4 = .ok (.ifCond .eq 12, 3) := by decide +kernel
theorem dJ0_charAt_5068e_7 : decode cJ0_charAt_5068e 7 = .ok (.aload_n 0, 1) := by decide +kernel
theorem dJ0_charAt_5068e_8 : decode cJ0_charAt_5068e 8 = .ok (.getfield 9, 3) := by decide +kernel
theorem dJ0_charAt_5068e_11 : decode cJ0_charAt_5068e 11 = .ok (.iload_n 1, 1) := by decide +kernel
theorem dJ0_charAt_5068e_12 : decode cJ0_charAt_5068e 12 = .ok (.invokestatic 495, 3) := by decide +kernel
theorem dJ0_charAt_5068e_15 : decode cJ0_charAt_5068e 15 = .ok (.ireturn, 1) := by decide +kernel
theorem dJ0_charAt_5068e_16 : decode cJ0_charAt_5068e 16 = .ok (.aload_n 0, 1) := by decide +kernel
theorem dJ0_charAt_5068e_17 : decode cJ0_charAt_5068e 17 = .ok (.getfield 9, 3) := by decide +kernel
theorem dJ0_charAt_5068e_20 : decode cJ0_charAt_5068e 20 = .ok (.iload_n 1, 1) := by decide +kernel
theorem dJ0_charAt_5068e_21 : decode cJ0_charAt_5068e 21 = .ok (.invokestatic 498, 3) := by decide +kernel
theorem dJ0_charAt_5068e_24 : decode cJ0_charAt_5068e 24 = .ok (.ireturn, 1) := by decide +kernel
abbrev rm_J0_charAt_5068e : Room := { frames := 3, cells := 0, slots := 0, locals := 64 }
def f_J0_charAt_5068e (k0 : Nat) (x1 : Int32) : Option (Int32) :=
  (f_J1_charAt_3b067 k0  x1).bind (fun (q1 : Int32) => chk (isc q1) (some q1))
set_option maxRecDepth 100000 in
set_option maxHeartbeats 4000000 in
theorem k_J0_charAt_5068e (l : Launch) (g : GG) (hg : gd wd_C g) (k0 : Nat) (hk0 : k0 < 9) (S : St) (x1 : Int32) (q : Int32) (hf : f_J0_charAt_5068e k0  x1 = some q) : Met l yJ0_charAt_5068e (Cond.code yJ0_charAt_5068e cJ0_charAt_5068e 2 (some .char) :: gw_tbl) rm_J0_charAt_5068e (va_Pc [.ref (gg_k g k0), .int x1] (wI wd_C g S)) (qc_i wd_C g S q) 0 0 (aw g) := by
  refine mt_start (own := RJ0) hg (by decide) rfl (Nat.le_of_ble_eq_true rfl) (fun p e s m args below meth c ls H locs cx hw hr hlk hl => ?_)
  have hx := cx.1
  have hb := cx.2.1
  have hown := cx.2.2.2.1
  have hts := cx.2.2.2.2.1
  have hl : lv_has ls 2 [(0, .ref (gg_k g k0)), (1, .int x1)] := hl
  replace hf := h_top hf
  unfold f_J0_charAt_5068e at hf
  refine lv_aload_n hx hb dJ0_charAt_5068e_0 rfl (lv_at hl 0 rfl) ?_
  refine r_VRc (v := 1) (As := []) (rest := []) cx hw (r_srecv cx hw hk0) lk_J0_492 (k_J0_isLatin1_aae02 l g hg k0 hk0 S 1 rfl) ⟨⟨rfl, rfl⟩, Nat.le_of_ble_eq_true rfl, Nat.le_of_ble_eq_true rfl⟩ rfl hl.1 rfl (Nat.le_of_ble_eq_true rfl) dJ0_charAt_5068e_1 ⟨Nat.zero_le _, Nat.zero_le _⟩ (fun H locs hw => ?_)
  refine lv_if_eq hx hb dJ0_charAt_5068e_4 (tgt := 16) rfl (fun hc => absurd hc (by decide)) (fun _ => ?_)
  refine lv_aload_n hx hb dJ0_charAt_5068e_7 rfl (lv_at hl 0 rfl) ?_
  refine r_sval cx hw hk0 dJ0_charAt_5068e_8 ?_
  refine lv_iload_n hx hb dJ0_charAt_5068e_11 rfl (lv_at hl 1 rfl) ?_
  refine r_S_i (As := [.ref (gg_v g k0), .int x1]) (rest := []) cx hw hf lk_J0_495 (fun q1 hq => k_J1_charAt_3b067 l g hg k0 hk0 S x1 q1 hq) ⟨⟨rfl, rfl⟩, Nat.le_of_ble_eq_true rfl, Nat.le_of_ble_eq_true rfl⟩ rfl hl.1 rfl (Nat.le_of_ble_eq_true rfl) dJ0_charAt_5068e_12 ⟨Nat.zero_le _, Nat.zero_le _⟩ (fun q1 H locs hw hf => ?_)
  obtain ⟨hc2, hf⟩ := h_chk hf
  exact r_nret cx hw hr hlk (n_char hc2) hf dJ0_charAt_5068e_15
theorem dJ0_length_8abf5_0 : decode cJ0_length_8abf5 0 = .ok (.aload_n 0, 1) := by decide +kernel
theorem dJ0_length_8abf5_1 : decode cJ0_length_8abf5 1 = .ok (.getfield 9, 3) := by decide +kernel
theorem dJ0_length_8abf5_4 : decode cJ0_length_8abf5 4 = .ok (.arraylength, 1) := by decide +kernel
theorem dJ0_length_8abf5_5 : decode cJ0_length_8abf5 5 = .ok (.aload_n 0, 1) := by decide +kernel
theorem dJ0_length_8abf5_6 : decode cJ0_length_8abf5 6 = .ok (.invokevirtual 335, 3) := by decide +kernel
theorem dJ0_length_8abf5_9 : decode cJ0_length_8abf5 9 = .ok (.ishr, 1) := by decide +kernel
theorem dJ0_length_8abf5_10 : decode cJ0_length_8abf5 10 = .ok (.ireturn, 1) := by decide +kernel
abbrev rm_J0_length_8abf5 : Room := { frames := 1, cells := 0, slots := 0, locals := 20 }
def f_J0_length_8abf5 (k0 : Nat)  : Option (Int32) :=
  some ((Int32.ofNat (sl_C.getD k0 0)) >>> ((0 : Int32) &&& 31))
set_option maxRecDepth 100000 in
set_option maxHeartbeats 4000000 in
theorem k_J0_length_8abf5 (l : Launch) (g : GG) (hg : gd wd_C g) (k0 : Nat) (hk0 : k0 < 9) (S : St)  (q : Int32) (hf : f_J0_length_8abf5 k0   = some q) : Met l yJ0_length_8abf5 (Cond.code yJ0_length_8abf5 cJ0_length_8abf5 1 (some .int) :: gw_tbl) rm_J0_length_8abf5 (va_Pc [.ref (gg_k g k0)] (wI wd_C g S)) (qc_i wd_C g S q) 0 0 (aw g) := by
  refine mt_start (own := RJ0) hg (by decide) rfl (Nat.le_of_ble_eq_true rfl) (fun p e s m args below meth c ls H locs cx hw hr hlk hl => ?_)
  have hx := cx.1
  have hb := cx.2.1
  have hown := cx.2.2.2.1
  have hts := cx.2.2.2.2.1
  have hl : lv_has ls 1 [(0, .ref (gg_k g k0))] := hl
  replace hf := h_top hf
  unfold f_J0_length_8abf5 at hf
  refine lv_aload_n hx hb dJ0_length_8abf5_0 rfl (lv_at hl 0 rfl) ?_
  refine r_sval cx hw hk0 dJ0_length_8abf5_1 ?_
  refine r_slen cx hw hk0 dJ0_length_8abf5_4 ?_
  refine lv_aload_n hx hb dJ0_length_8abf5_5 rfl (lv_at hl 0 rfl) ?_
  refine r_VRc (v := 0) (As := []) (rest := [.int (Int32.ofNat (sl_C.getD k0 0))]) cx hw (r_srecv cx hw hk0) lk_J0_335 (k_J0_coder_7d493 l g hg k0 hk0 S 0 rfl) ⟨⟨rfl, rfl⟩, Nat.le_of_ble_eq_true rfl, Nat.le_of_ble_eq_true rfl⟩ rfl hl.1 rfl (Nat.le_of_ble_eq_true rfl) dJ0_length_8abf5_6 ⟨Nat.zero_le _, Nat.zero_le _⟩ (fun H locs hw => ?_)
  refine lv_ishr hx hb dJ0_length_8abf5_9 ?_
  exact r_iret cx hw hr hlk hf dJ0_length_8abf5_10
theorem dJ1_canEncode_9a6ad_0 : decode cJ1_canEncode_9a6ad 0 = .ok (.iload_n 0, 1) := by decide +kernel
theorem dJ1_canEncode_9a6ad_1 : decode cJ1_canEncode_9a6ad 1 = .ok (.ifCond .lt 14, 3) := by decide +kernel
theorem dJ1_canEncode_9a6ad_4 : decode cJ1_canEncode_9a6ad 4 = .ok (.iload_n 0, 1) := by decide +kernel
theorem dJ1_canEncode_9a6ad_5 : decode cJ1_canEncode_9a6ad 5 = .ok (.sipush 255, 3) := by decide +kernel
theorem dJ1_canEncode_9a6ad_8 : decode cJ1_canEncode_9a6ad 8 = .ok (.if_icmp .gt 7, 3) := by decide +kernel
theorem dJ1_canEncode_9a6ad_11 : decode cJ1_canEncode_9a6ad 11 = .ok (.iconst 1, 1) := by decide +kernel
theorem dJ1_canEncode_9a6ad_12 : decode cJ1_canEncode_9a6ad 12 = .ok (.goto 4, 3) := by decide +kernel
theorem dJ1_canEncode_9a6ad_15 : decode cJ1_canEncode_9a6ad 15 = .ok (.iconst 0, 1) := by decide +kernel
theorem dJ1_canEncode_9a6ad_16 : decode cJ1_canEncode_9a6ad 16 = .ok (.ireturn, 1) := by decide +kernel
abbrev rm_J1_canEncode_9a6ad : Room := { frames := 0, cells := 0, slots := 0, locals := 0 }
def f_J1_canEncode_9a6ad (x0 : Int32) : Option (Int32) :=
  if x0 < 0 then (some (0 : Int32)) else (if (255 : Int32) < x0 then (some (0 : Int32)) else (some (1 : Int32)))
set_option maxRecDepth 100000 in
set_option maxHeartbeats 4000000 in
theorem k_J1_canEncode_9a6ad (l : Launch) (g : GG) (hg : gd wd_C g)  (S : St) (x0 : Int32) (q : Int32) (hf : f_J1_canEncode_9a6ad   x0 = some q) : Met l yJ1_canEncode_9a6ad (Cond.code yJ1_canEncode_9a6ad cJ1_canEncode_9a6ad 1 (some .boolean) :: gw_tbl) rm_J1_canEncode_9a6ad (va_Pc [.int x0] (wI wd_C g S)) (qc_i wd_C g S q) 0 0 (aw g) := by
  refine mt_start (own := RJ1) hg (by decide) rfl (Nat.le_of_ble_eq_true rfl) (fun p e s m args below meth c ls H locs cx hw hr hlk hl => ?_)
  have hx := cx.1
  have hb := cx.2.1
  have hown := cx.2.2.2.1
  have hts := cx.2.2.2.2.1
  have hl : lv_has ls 1 [(0, .int x0)] := hl
  replace hf := h_top hf
  unfold f_J1_canEncode_9a6ad at hf
  refine lv_iload_n hx hb dJ1_canEncode_9a6ad_0 rfl (lv_at hl 0 rfl) ?_
  refine lv_if_lt hx hb dJ1_canEncode_9a6ad_1 (tgt := 15) rfl (fun hc1 => ?_) (fun hc1 => ?_)
  · replace hf := h_pos hc1 hf
    refine lv_iconst (v := 0) hx hb dJ1_canEncode_9a6ad_15 (by decide) ?_
    exact r_zret cx hw hr hlk (Or.inl rfl) hf dJ1_canEncode_9a6ad_16
  replace hf := h_neg hc1 hf
  refine lv_iload_n hx hb dJ1_canEncode_9a6ad_4 rfl (lv_at hl 0 rfl) ?_
  refine lv_sipush (v := 255) hx hb dJ1_canEncode_9a6ad_5 (by decide) ?_
  refine lv_icmp_gt hx hb dJ1_canEncode_9a6ad_8 (tgt := 15) rfl (fun hc2 => ?_) (fun hc2 => ?_)
  · replace hf := h_pos hc2 hf
    refine lv_iconst (v := 0) hx hb dJ1_canEncode_9a6ad_15 (by decide) ?_
    exact r_zret cx hw hr hlk (Or.inl rfl) hf dJ1_canEncode_9a6ad_16
  replace hf := h_neg hc2 hf
  refine lv_iconst (v := 1) hx hb dJ1_canEncode_9a6ad_11 (by decide) ?_
  refine lv_goto hx hb dJ1_canEncode_9a6ad_12 (tgt := 16) rfl ?_
  exact r_zret cx hw hr hlk (Or.inr rfl) hf dJ1_canEncode_9a6ad_16
theorem dJ1_indexOfChar_4cfef_0 : decode cJ1_indexOfChar_4cfef 0 = .ok (.iload_n 1, 1) := by decide +kernel
theorem dJ1_indexOfChar_4cfef_1 : decode cJ1_indexOfChar_4cfef 1 = .ok (.i2b, 1) := by decide +kernel
theorem dJ1_indexOfChar_4cfef_2 : decode cJ1_indexOfChar_4cfef 2 = .ok (.istore 4, 2) := by decide +kernel
theorem dJ1_indexOfChar_4cfef_4 : decode cJ1_indexOfChar_4cfef 4 = .ok (.iload_n 2, 1) := by decide +kernel
theorem dJ1_indexOfChar_4cfef_5 : decode cJ1_indexOfChar_4cfef 5 = .ok (.istore 5, 2) := by decide +kernel
theorem dJ1_indexOfChar_4cfef_7 : decode cJ1_indexOfChar_4cfef 7 = .ok (.iload 5, 2) := by decide +kernel
theorem dJ1_indexOfChar_4cfef_9 : decode cJ1_indexOfChar_4cfef 9 = .ok (.iload_n 3, 1) := by decide +kernel
theorem dJ1_indexOfChar_4cfef_10 : decode cJ1_indexOfChar_4cfef 10 = .ok (.if_icmp .ge 21, 3) := by decide +kernel
theorem dJ1_indexOfChar_4cfef_13 : decode cJ1_indexOfChar_4cfef 13 = .ok (.aload_n 0, 1) := by decide +kernel
theorem dJ1_indexOfChar_4cfef_14 : decode cJ1_indexOfChar_4cfef 14 = .ok (.iload 5, 2) := by decide +kernel
theorem dJ1_indexOfChar_4cfef_16 : decode cJ1_indexOfChar_4cfef 16 = .ok (.baload, 1) := by decide +kernel
theorem dJ1_indexOfChar_4cfef_17 : decode cJ1_indexOfChar_4cfef 17 = .ok (.iload 4, 2) := by decide +kernel
theorem dJ1_indexOfChar_4cfef_19 : decode cJ1_indexOfChar_4cfef 19 = .ok (.if_icmp .ne 6, 3) := by decide +kernel
theorem dJ1_indexOfChar_4cfef_22 : decode cJ1_indexOfChar_4cfef 22 = .ok (.iload 5, 2) := by decide +kernel
theorem dJ1_indexOfChar_4cfef_24 : decode cJ1_indexOfChar_4cfef 24 = .ok (.ireturn, 1) := by decide +kernel
theorem dJ1_indexOfChar_4cfef_25 : decode cJ1_indexOfChar_4cfef 25 = .ok (.iinc 5 1, 3) := by decide +kernel
theorem dJ1_indexOfChar_4cfef_28 : decode cJ1_indexOfChar_4cfef 28 = .ok (.goto (-21), 3) := by decide +kernel
theorem dJ1_indexOfChar_4cfef_31 : decode cJ1_indexOfChar_4cfef 31 = .ok (.iconst (-1), 1) := by decide +kernel
theorem dJ1_indexOfChar_4cfef_32 : decode cJ1_indexOfChar_4cfef 32 = .ok (.ireturn, 1) := by decide +kernel
abbrev rm_J1_indexOfChar_4cfef : Room := { frames := 0, cells := 0, slots := 0, locals := 0 }
def f_J1_indexOfChar_4cfef_L7 (k0 : Nat) (x3 : Int32) (x4 : Int32) (z7 : Int32) : Option ((Int32) ⊕ (Int32)) :=
  if x3 ≤ z7 then (some (.inr (-1 : Int32))) else (chk (ib z7 (sl_C.getD k0 0)) (if ((sb_C.getD k0 []).getD z7.toNatClampNeg 0) = x4 then (some (.inr z7)) else (some (.inl (z7 + 1)))))
def f_J1_indexOfChar_4cfef (k0 : Nat) (x1 : Int32) (x2 : Int32) (x3 : Int32) : Option (Int32) :=
  iter (f_J1_indexOfChar_4cfef_L7 k0  x3 (x1.toInt8.toInt32)) FU x2
set_option maxRecDepth 100000 in
set_option maxHeartbeats 4000000 in
theorem k_J1_indexOfChar_4cfef (l : Launch) (g : GG) (hg : gd wd_C g) (k0 : Nat) (hk0 : k0 < 9) (S : St) (x1 : Int32) (x2 : Int32) (x3 : Int32) (q : Int32) (hf : f_J1_indexOfChar_4cfef k0  x1 x2 x3 = some q) : Met l yJ1_indexOfChar_4cfef (Cond.code yJ1_indexOfChar_4cfef cJ1_indexOfChar_4cfef 6 (some .int) :: gw_tbl) rm_J1_indexOfChar_4cfef (va_Pc [.ref (gg_v g k0), .int x1, .int x2, .int x3] (wI wd_C g S)) (qc_i wd_C g S q) 0 0 (aw g) := by
  refine mt_start (own := RJ1) hg (by decide) rfl (Nat.le_of_ble_eq_true rfl) (fun p e s m args below meth c ls H locs cx hw hr hlk hl => ?_)
  have hx := cx.1
  have hb := cx.2.1
  have hown := cx.2.2.2.1
  have hts := cx.2.2.2.2.1
  have hl : lv_has ls 6 [(0, .ref (gg_v g k0)), (1, .int x1), (2, .int x2), (3, .int x3)] := hl
  replace hf := h_top hf
  unfold f_J1_indexOfChar_4cfef at hf
  refine lv_iload_n hx hb dJ1_indexOfChar_4cfef_0 rfl (lv_at hl 1 rfl) ?_
  refine lv_i2b (v := (x1.toInt8.toInt32)) hx hb dJ1_indexOfChar_4cfef_1 rfl ?_
  refine lv_istore hx hb dJ1_indexOfChar_4cfef_2 hl (by decide) (lv' := [(4, .int (x1.toInt8.toInt32)), (0, .ref (gg_v g k0)), (1, .int x1), (2, .int x2), (3, .int x3)]) rfl (fun ls hl => ?_)
  refine lv_iload_n hx hb dJ1_indexOfChar_4cfef_4 rfl (lv_at hl 3 rfl) ?_
  refine lv_istore hx hb dJ1_indexOfChar_4cfef_5 hl (by decide) (lv' := [(5, .int x2), (4, .int (x1.toInt8.toInt32)), (0, .ref (gg_v g k0)), (1, .int x1), (2, .int x2), (3, .int x3)]) rfl (fun ls hl => ?_)
  have L7 : ∀ (x3 : Int32) (x4 : Int32) (aft7 : Int32 → Option (Int32)), (∀ v : Int32, aft7 v = some q → (some v : Option (Int32)).bind some = some q) → ∀ (n7 : Nat) (ls : Array Slot) (H : Heap) (locs : List Loc) (z7 : Int32), lv_has ls 6 [(0, .ref (gg_v g k0)), (3, .int x3), (4, .int x4), (5, .int z7)] → HH wd_C g s S H locs → (iter (f_J1_indexOfChar_4cfef_L7 k0  x3 x4) n7 z7).bind aft7 = some q → W p l e rm_J1_indexOfChar_4cfef s m args below meth c H locs 0 0 (MQ below (qc_i wd_C g S q) args s 0 0 (aw g)) (F0 m 7 ls []) := by
    intro x3 x4 aft7 hR7 n7
    induction n7 with
    | zero => intro ls H locs z7 hl hw hf; exact h_iter0 hf
    | succ n7 ih7 =>
      intro ls H locs z7 hl hw hf
      replace hf := h_iter hf
      unfold f_J1_indexOfChar_4cfef_L7 at hf
      refine lv_iload hx hb dJ1_indexOfChar_4cfef_7 (lv_at hl 3 rfl) ?_
      refine lv_iload_n hx hb dJ1_indexOfChar_4cfef_9 rfl (lv_at hl 1 rfl) ?_
      refine lv_icmp_ge hx hb dJ1_indexOfChar_4cfef_10 (tgt := 31) rfl (fun hc1 => ?_) (fun hc1 => ?_)
      · replace hf := h_pos hc1 hf
        refine lv_iconst (v := -1) hx hb dJ1_indexOfChar_4cfef_31 (by decide) ?_
        replace hf := hR7 (-1 : Int32) hf
        exact r_iret cx hw hr hlk hf dJ1_indexOfChar_4cfef_32
      replace hf := h_neg hc1 hf
      refine lv_aload_n hx hb dJ1_indexOfChar_4cfef_13 rfl (lv_at hl 0 rfl) ?_
      refine lv_iload hx hb dJ1_indexOfChar_4cfef_14 (lv_at hl 3 rfl) ?_
      refine r_sld cx hw hk0 hf dJ1_indexOfChar_4cfef_16 (fun hf => ?_)
      refine lv_iload hx hb dJ1_indexOfChar_4cfef_17 (lv_at hl 2 rfl) ?_
      refine lv_icmp_ne hx hb dJ1_indexOfChar_4cfef_19 (tgt := 25) rfl (fun hc2 => ?_) (fun hc2 => ?_)
      · replace hf := h_neg hc2 hf
        refine lv_iinc hx hb dJ1_indexOfChar_4cfef_25 hl (k := 3) rfl (congrArg (HAdd.hAdd _) (show Int32.ofInt (1) = 1 by decide)) (by decide) (lv' := [(5, .int (z7 + 1)), (0, .ref (gg_v g k0)), (3, .int x3), (4, .int x4)]) rfl (fun ls hl => ?_)
        refine lv_goto hx hb dJ1_indexOfChar_4cfef_28 (tgt := 7) rfl ?_
        exact ih7 _ _ _ (z7 + 1) (lv_sub hl [1, 2, 3, 0] rfl) hw hf
      replace hf := h_pos hc2 hf
      refine lv_iload hx hb dJ1_indexOfChar_4cfef_22 (lv_at hl 3 rfl) ?_
      replace hf := hR7 z7 hf
      exact r_iret cx hw hr hlk hf dJ1_indexOfChar_4cfef_24
  exact L7 x3 (x1.toInt8.toInt32) some (fun v h => h) FU _ _ _ x2 (lv_sub hl [2, 5, 1, 0] rfl) hw hf
theorem dJ1_indexOf_4cfef_0 : decode cJ1_indexOf_4cfef 0 = .ok (.iload_n 1, 1) := by decide +kernel
theorem dJ1_indexOf_4cfef_1 : decode cJ1_indexOf_4cfef 1 = .ok (.invokestatic 88, 3) := by decide +kernel
theorem dJ1_indexOf_4cfef_4 : decode cJ1_indexOf_4cfef 4 = .ok (.ifCond .ne 5, 3) := by decide +kernel
theorem dJ1_indexOf_4cfef_7 : decode cJ1_indexOf_4cfef 7 = .ok (.iconst (-1), 1) := by decide +kernel
theorem dJ1_indexOf_4cfef_8 : decode cJ1_indexOf_4cfef 8 = .ok (.ireturn, 1) := by decide +kernel
theorem dJ1_indexOf_4cfef_9 : decode cJ1_indexOf_4cfef 9 = .ok (.iload_n 2, 1) := by decide +kernel
theorem dJ1_indexOf_4cfef_10 : decode cJ1_indexOf_4cfef 10 = .ok (.iconst 0, 1) := by decide +kernel
theorem dJ1_indexOf_4cfef_11 : decode cJ1_indexOf_4cfef 11 = .ok (.invokestatic 92, 3) := by decide +kernel
theorem dJ1_indexOf_4cfef_14 : decode cJ1_indexOf_4cfef 14 = .ok (.istore_n 2, 1) := by decide +kernel
theorem dJ1_indexOf_4cfef_15 : decode cJ1_indexOf_4cfef 15 = .ok (.iload_n 3, 1) := by decide +kernel
theorem dJ1_indexOf_4cfef_16 : decode cJ1_indexOf_4cfef 16 = .ok (.aload_n 0, 1) := by decide +kernel
theorem dJ1_indexOf_4cfef_17 : decode cJ1_indexOf_4cfef 17 = .ok (.arraylength, 1) := by decide +kernel
theorem dJ1_indexOf_4cfef_18 : decode cJ1_indexOf_4cfef 18 = .ok (.invokestatic 38, 3) := by decide +kernel
theorem dJ1_indexOf_4cfef_21 : decode cJ1_indexOf_4cfef 21 = .ok (.istore_n 3, 1) := by decide +kernel
theorem dJ1_indexOf_4cfef_22 : decode cJ1_indexOf_4cfef 22 = .ok (.iload_n 2, 1) := by decide +kernel
theorem dJ1_indexOf_4cfef_23 : decode cJ1_indexOf_4cfef 23 = .ok (.iload_n 3, 1) := by decide +kernel
theorem dJ1_indexOf_4cfef_24 : decode cJ1_indexOf_4cfef 24 = .ok (.if_icmp .lt 5, 3) := by decide +kernel
theorem dJ1_indexOf_4cfef_27 : decode cJ1_indexOf_4cfef 27 = .ok (.iconst (-1), 1) := by decide +kernel
theorem dJ1_indexOf_4cfef_28 : decode cJ1_indexOf_4cfef 28 = .ok (.ireturn, 1) := by decide +kernel
theorem dJ1_indexOf_4cfef_29 : decode cJ1_indexOf_4cfef 29 = .ok (.aload_n 0, 1) := by decide +kernel
theorem dJ1_indexOf_4cfef_30 : decode cJ1_indexOf_4cfef 30 = .ok (.iload_n 1, 1) := by decide +kernel
theorem dJ1_indexOf_4cfef_31 : decode cJ1_indexOf_4cfef 31 = .ok (.iload_n 2, 1) := by decide +kernel
theorem dJ1_indexOf_4cfef_32 : decode cJ1_indexOf_4cfef 32 = .ok (.iload_n 3, 1) := by decide +kernel
theorem dJ1_indexOf_4cfef_33 : decode cJ1_indexOf_4cfef 33 = .ok (.invokestatic 95, 3) := by decide +kernel
theorem dJ1_indexOf_4cfef_36 : decode cJ1_indexOf_4cfef 36 = .ok (.ireturn, 1) := by decide +kernel
abbrev rm_J1_indexOf_4cfef : Room := { frames := 1, cells := 0, slots := 0, locals := 30 }
def f_J1_indexOf_4cfef (k0 : Nat) (x1 : Int32) (x2 : Int32) (x3 : Int32) : Option (Int32) :=
  (f_J1_canEncode_9a6ad   x1).bind (fun (q1 : Int32) => if q1 = 0 then (some (-1 : Int32)) else (lt_v (i_min x3 (Int32.ofNat (sl_C.getD k0 0))) (fun (z3 : Int32) => if (i_max x2 (0 : Int32)) < z3 then ((f_J1_indexOfChar_4cfef k0  x1 (i_max x2 (0 : Int32)) z3).bind (fun (q5 : Int32) => some q5)) else (some (-1 : Int32)))))
set_option maxRecDepth 100000 in
set_option maxHeartbeats 4000000 in
theorem k_J1_indexOf_4cfef (l : Launch) (g : GG) (hg : gd wd_C g) (k0 : Nat) (hk0 : k0 < 9) (S : St) (x1 : Int32) (x2 : Int32) (x3 : Int32) (q : Int32) (hf : f_J1_indexOf_4cfef k0  x1 x2 x3 = some q) : Met l yJ1_indexOf_4cfef (Cond.code yJ1_indexOf_4cfef cJ1_indexOf_4cfef 4 (some .int) :: gw_tbl) rm_J1_indexOf_4cfef (va_Pc [.ref (gg_v g k0), .int x1, .int x2, .int x3] (wI wd_C g S)) (qc_i wd_C g S q) 0 0 (aw g) := by
  refine mt_start (own := RJ1) hg (by decide) rfl (Nat.le_of_ble_eq_true rfl) (fun p e s m args below meth c ls H locs cx hw hr hlk hl => ?_)
  have hx := cx.1
  have hb := cx.2.1
  have hown := cx.2.2.2.1
  have hts := cx.2.2.2.2.1
  have hl : lv_has ls 4 [(0, .ref (gg_v g k0)), (1, .int x1), (2, .int x2), (3, .int x3)] := hl
  replace hf := h_top hf
  unfold f_J1_indexOf_4cfef at hf
  refine lv_iload_n hx hb dJ1_indexOf_4cfef_0 rfl (lv_at hl 1 rfl) ?_
  refine r_S_i (As := [.int x1]) (rest := []) cx hw hf lk_J1_88 (fun q1 hq => k_J1_canEncode_9a6ad l g hg   S x1 q1 hq) ⟨⟨rfl, rfl⟩, Nat.le_of_ble_eq_true rfl, Nat.le_of_ble_eq_true rfl⟩ rfl hl.1 rfl (Nat.le_of_ble_eq_true rfl) dJ1_indexOf_4cfef_1 ⟨Nat.zero_le _, Nat.zero_le _⟩ (fun q1 H locs hw hf => ?_)
  refine lv_if_ne hx hb dJ1_indexOf_4cfef_4 (tgt := 9) rfl (fun hc2 => ?_) (fun hc2 => ?_)
  · replace hf := h_neg hc2 hf
    refine lv_iload_n hx hb dJ1_indexOf_4cfef_9 rfl (lv_at hl 2 rfl) ?_
    refine lv_iconst (v := 0) hx hb dJ1_indexOf_4cfef_10 (by decide) ?_
    refine va_mmax hx hb (cx.2.2.1.trans hl.1.symm) hown (hts _ wd_512) (hts _ wd_85) (hts _ wd_7) (hts _ wd_86) (Nat.le_of_ble_eq_true rfl) (Nat.le_of_ble_eq_true rfl) (Nat.zero_le _) (Nat.zero_le _) dJ1_indexOf_4cfef_11 ?_
    refine lv_istore_n hx hb dJ1_indexOf_4cfef_14 rfl hl (by decide) (lv' := [(2, .int (i_max x2 (0 : Int32))), (0, .ref (gg_v g k0)), (1, .int x1), (3, .int x3)]) rfl (fun ls hl => ?_)
    refine lv_iload_n hx hb dJ1_indexOf_4cfef_15 rfl (lv_at hl 3 rfl) ?_
    refine lv_aload_n hx hb dJ1_indexOf_4cfef_16 rfl (lv_at hl 1 rfl) ?_
    refine r_slen cx hw hk0 dJ1_indexOf_4cfef_17 ?_
    refine va_mmin hx hb (cx.2.2.1.trans hl.1.symm) hown (hts _ wd_513) (hts _ wd_344) (hts _ wd_7) (hts _ wd_345) (Nat.le_of_ble_eq_true rfl) (Nat.le_of_ble_eq_true rfl) (Nat.zero_le _) (Nat.zero_le _) dJ1_indexOf_4cfef_18 ?_
    refine r_leti hf (fun z3 hf => ?_)
    refine lv_istore_n hx hb dJ1_indexOf_4cfef_21 rfl hl (by decide) (lv' := [(3, .int z3), (2, .int (i_max x2 (0 : Int32))), (0, .ref (gg_v g k0)), (1, .int x1)]) rfl (fun ls hl => ?_)
    refine lv_iload_n hx hb dJ1_indexOf_4cfef_22 rfl (lv_at hl 1 rfl) ?_
    refine lv_iload_n hx hb dJ1_indexOf_4cfef_23 rfl (lv_at hl 0 rfl) ?_
    refine lv_icmp_lt hx hb dJ1_indexOf_4cfef_24 (tgt := 29) rfl (fun hc4 => ?_) (fun hc4 => ?_)
    · replace hf := h_pos hc4 hf
      refine lv_aload_n hx hb dJ1_indexOf_4cfef_29 rfl (lv_at hl 2 rfl) ?_
      refine lv_iload_n hx hb dJ1_indexOf_4cfef_30 rfl (lv_at hl 3 rfl) ?_
      refine lv_iload_n hx hb dJ1_indexOf_4cfef_31 rfl (lv_at hl 1 rfl) ?_
      refine lv_iload_n hx hb dJ1_indexOf_4cfef_32 rfl (lv_at hl 0 rfl) ?_
      refine r_S_i (As := [.ref (gg_v g k0), .int x1, .int (i_max x2 (0 : Int32)), .int z3]) (rest := []) cx hw hf lk_J1_95 (fun q5 hq => k_J1_indexOfChar_4cfef l g hg k0 hk0 S x1 (i_max x2 (0 : Int32)) z3 q5 hq) ⟨⟨rfl, rfl⟩, Nat.le_of_ble_eq_true rfl, Nat.le_of_ble_eq_true rfl⟩ rfl hl.1 rfl (Nat.le_of_ble_eq_true rfl) dJ1_indexOf_4cfef_33 ⟨Nat.zero_le _, Nat.zero_le _⟩ (fun q5 H locs hw hf => ?_)
      exact r_iret cx hw hr hlk hf dJ1_indexOf_4cfef_36
    replace hf := h_neg hc4 hf
    refine lv_iconst (v := -1) hx hb dJ1_indexOf_4cfef_27 (by decide) ?_
    exact r_iret cx hw hr hlk hf dJ1_indexOf_4cfef_28
  replace hf := h_pos hc2 hf
  refine lv_iconst (v := -1) hx hb dJ1_indexOf_4cfef_7 (by decide) ?_
  exact r_iret cx hw hr hlk hf dJ1_indexOf_4cfef_8
theorem dJ0_indexOf_7cf53_0 : decode cJ0_indexOf_7cf53 0 = .ok (.aload_n 0, 1) := by decide +kernel
theorem dJ0_indexOf_7cf53_1 : decode cJ0_indexOf_7cf53 1 = .ok (.invokevirtual 492, 3) := by decide +kernel
theorem dJ0_indexOf_7cf53_4 : decode cJ0_indexOf_7cf53 4 = .ok (.ifCond .eq 19, 3) := by decide +kernel
theorem dJ0_indexOf_7cf53_7 : decode cJ0_indexOf_7cf53 7 = .ok (.aload_n 0, 1) := by decide +kernel
theorem dJ0_indexOf_7cf53_8 : decode cJ0_indexOf_7cf53 8 = .ok (.getfield 9, 3) := by decide +kernel
theorem dJ0_indexOf_7cf53_11 : decode cJ0_indexOf_7cf53 11 = .ok (.iload_n 1, 1) := by decide +kernel
theorem dJ0_indexOf_7cf53_12 : decode cJ0_indexOf_7cf53 12 = .ok (.iload_n 2, 1) := by decide +kernel
theorem dJ0_indexOf_7cf53_13 : decode cJ0_indexOf_7cf53 13 = .ok (.aload_n 0, 1) := by decide +kernel
theorem dJ0_indexOf_7cf53_14 : decode cJ0_indexOf_7cf53 14 = .ok (.invokevirtual 505, 3) := by decide +kernel
theorem dJ0_indexOf_7cf53_17 : decode cJ0_indexOf_7cf53 17 = .ok (.invokestatic 637, 3) := by decide +kernel
theorem dJ0_indexOf_7cf53_20 : decode cJ0_indexOf_7cf53 20 = .ok (.goto 16, 3) := by decide +kernel
theorem dJ0_indexOf_7cf53_23 : decode cJ0_indexOf_7cf53 23 = .ok (.aload_n 0, 1) := by decide +kernel
theorem dJ0_indexOf_7cf53_24 : decode cJ0_indexOf_7cf53 24 = .ok (.getfield 9, 3) := by decide +kernel
theorem dJ0_indexOf_7cf53_27 : decode cJ0_indexOf_7cf53 27 = .ok (.iload_n 1, 1) := by decide +kernel
theorem dJ0_indexOf_7cf53_28 : decode cJ0_indexOf_7cf53 28 = .ok (.iload_n 2, 1) := by decide +kernel
theorem dJ0_indexOf_7cf53_29 : decode cJ0_indexOf_7cf53 29 = .ok (.aload_n 0, 1) := by decide +kernel
theorem dJ0_indexOf_7cf53_30 : decode cJ0_indexOf_7cf53 30 = .ok (.invokevirtual 505, 3) := by decide +kernel
theorem dJ0_indexOf_7cf53_33 : decode cJ0_indexOf_7cf53 33 = .ok (.invokestatic 640, 3) := by decide +kernel
theorem dJ0_indexOf_7cf53_36 : decode cJ0_indexOf_7cf53 36 = .ok (.ireturn, 1) := by decide +kernel
abbrev rm_J0_indexOf_7cf53 : Room := { frames := 2, cells := 0, slots := 0, locals := 53 }
def f_J0_indexOf_7cf53 (k0 : Nat) (x1 : Int32) (x2 : Int32) : Option (Int32) :=
  (f_J0_length_8abf5 k0 ).bind (fun (q1 : Int32) => (f_J1_indexOf_4cfef k0  x1 x2 q1).bind (fun (q2 : Int32) => some q2))
set_option maxRecDepth 100000 in
set_option maxHeartbeats 4000000 in
theorem k_J0_indexOf_7cf53 (l : Launch) (g : GG) (hg : gd wd_C g) (k0 : Nat) (hk0 : k0 < 9) (S : St) (x1 : Int32) (x2 : Int32) (q : Int32) (hf : f_J0_indexOf_7cf53 k0  x1 x2 = some q) : Met l yJ0_indexOf_7cf53 (Cond.code yJ0_indexOf_7cf53 cJ0_indexOf_7cf53 3 (some .int) :: gw_tbl) rm_J0_indexOf_7cf53 (va_Pc [.ref (gg_k g k0), .int x1, .int x2] (wI wd_C g S)) (qc_i wd_C g S q) 0 0 (aw g) := by
  refine mt_start (own := RJ0) hg (by decide) rfl (Nat.le_of_ble_eq_true rfl) (fun p e s m args below meth c ls H locs cx hw hr hlk hl => ?_)
  have hx := cx.1
  have hb := cx.2.1
  have hown := cx.2.2.2.1
  have hts := cx.2.2.2.2.1
  have hl : lv_has ls 3 [(0, .ref (gg_k g k0)), (1, .int x1), (2, .int x2)] := hl
  replace hf := h_top hf
  unfold f_J0_indexOf_7cf53 at hf
  refine lv_aload_n hx hb dJ0_indexOf_7cf53_0 rfl (lv_at hl 0 rfl) ?_
  refine r_VRc (v := 1) (As := []) (rest := []) cx hw (r_srecv cx hw hk0) lk_J0_492 (k_J0_isLatin1_aae02 l g hg k0 hk0 S 1 rfl) ⟨⟨rfl, rfl⟩, Nat.le_of_ble_eq_true rfl, Nat.le_of_ble_eq_true rfl⟩ rfl hl.1 rfl (Nat.le_of_ble_eq_true rfl) dJ0_indexOf_7cf53_1 ⟨Nat.zero_le _, Nat.zero_le _⟩ (fun H locs hw => ?_)
  refine lv_if_eq hx hb dJ0_indexOf_7cf53_4 (tgt := 23) rfl (fun hc => absurd hc (by decide)) (fun _ => ?_)
  refine lv_aload_n hx hb dJ0_indexOf_7cf53_7 rfl (lv_at hl 0 rfl) ?_
  refine r_sval cx hw hk0 dJ0_indexOf_7cf53_8 ?_
  refine lv_iload_n hx hb dJ0_indexOf_7cf53_11 rfl (lv_at hl 1 rfl) ?_
  refine lv_iload_n hx hb dJ0_indexOf_7cf53_12 rfl (lv_at hl 2 rfl) ?_
  refine lv_aload_n hx hb dJ0_indexOf_7cf53_13 rfl (lv_at hl 0 rfl) ?_
  refine r_VR_i (As := []) (rest := [.int x2, .int x1, .ref (gg_v g k0)]) cx hw hf (r_srecv cx hw hk0) lk_J0_505 (fun q1 hq => k_J0_length_8abf5 l g hg k0 hk0 S  q1 hq) ⟨⟨rfl, rfl⟩, Nat.le_of_ble_eq_true rfl, Nat.le_of_ble_eq_true rfl⟩ rfl hl.1 rfl (Nat.le_of_ble_eq_true rfl) dJ0_indexOf_7cf53_14 ⟨Nat.zero_le _, Nat.zero_le _⟩ (fun q1 H locs hw hf => ?_)
  refine r_S_i (As := [.ref (gg_v g k0), .int x1, .int x2, .int q1]) (rest := []) cx hw hf lk_J0_637 (fun q2 hq => k_J1_indexOf_4cfef l g hg k0 hk0 S x1 x2 q1 q2 hq) ⟨⟨rfl, rfl⟩, Nat.le_of_ble_eq_true rfl, Nat.le_of_ble_eq_true rfl⟩ rfl hl.1 rfl (Nat.le_of_ble_eq_true rfl) dJ0_indexOf_7cf53_17 ⟨Nat.zero_le _, Nat.zero_le _⟩ (fun q2 H locs hw hf => ?_)
  refine lv_goto hx hb dJ0_indexOf_7cf53_20 (tgt := 36) rfl ?_
  exact r_iret cx hw hr hlk hf dJ0_indexOf_7cf53_36
theorem dJ0_indexOf_0f7a4_0 : decode cJ0_indexOf_0f7a4 0 = .ok (.aload_n 0, 1) := by decide +kernel
theorem dJ0_indexOf_0f7a4_1 : decode cJ0_indexOf_0f7a4 1 = .ok (.iload_n 1, 1) := by decide +kernel
theorem dJ0_indexOf_0f7a4_2 : decode cJ0_indexOf_0f7a4 2 = .ok (.iconst 0, 1) := by decide +kernel
theorem dJ0_indexOf_0f7a4_3 : decode cJ0_indexOf_0f7a4 3 = .ok (.invokevirtual 633, 3) := by decide +kernel
theorem dJ0_indexOf_0f7a4_6 : decode cJ0_indexOf_0f7a4 6 = .ok (.ireturn, 1) := by decide +kernel
abbrev rm_J0_indexOf_0f7a4 : Room := { frames := 3, cells := 0, slots := 0, locals := 75 }
def f_J0_indexOf_0f7a4 (k0 : Nat) (x1 : Int32) : Option (Int32) :=
  (f_J0_indexOf_7cf53 k0 x1 (0 : Int32)).bind (fun (q1 : Int32) => some q1)
set_option maxRecDepth 100000 in
set_option maxHeartbeats 4000000 in
theorem k_J0_indexOf_0f7a4 (l : Launch) (g : GG) (hg : gd wd_C g) (k0 : Nat) (hk0 : k0 < 9) (S : St) (x1 : Int32) (q : Int32) (hf : f_J0_indexOf_0f7a4 k0  x1 = some q) : Met l yJ0_indexOf_0f7a4 (Cond.code yJ0_indexOf_0f7a4 cJ0_indexOf_0f7a4 2 (some .int) :: gw_tbl) rm_J0_indexOf_0f7a4 (va_Pc [.ref (gg_k g k0), .int x1] (wI wd_C g S)) (qc_i wd_C g S q) 0 0 (aw g) := by
  refine mt_start (own := RJ0) hg (by decide) rfl (Nat.le_of_ble_eq_true rfl) (fun p e s m args below meth c ls H locs cx hw hr hlk hl => ?_)
  have hx := cx.1
  have hb := cx.2.1
  have hown := cx.2.2.2.1
  have hts := cx.2.2.2.2.1
  have hl : lv_has ls 2 [(0, .ref (gg_k g k0)), (1, .int x1)] := hl
  replace hf := h_top hf
  unfold f_J0_indexOf_0f7a4 at hf
  refine lv_aload_n hx hb dJ0_indexOf_0f7a4_0 rfl (lv_at hl 0 rfl) ?_
  refine lv_iload_n hx hb dJ0_indexOf_0f7a4_1 rfl (lv_at hl 1 rfl) ?_
  refine lv_iconst (v := 0) hx hb dJ0_indexOf_0f7a4_2 (by decide) ?_
  refine r_VR_i (As := [.int x1, .int (0 : Int32)]) (rest := []) cx hw hf (r_srecv cx hw hk0) lk_J0_633 (fun q1 hq => k_J0_indexOf_7cf53 l g hg k0 hk0 S x1 (0 : Int32) q1 hq) ⟨⟨rfl, rfl⟩, Nat.le_of_ble_eq_true rfl, Nat.le_of_ble_eq_true rfl⟩ rfl hl.1 rfl (Nat.le_of_ble_eq_true rfl) dJ0_indexOf_0f7a4_3 ⟨Nat.zero_le _, Nat.zero_le _⟩ (fun q1 H locs hw hf => ?_)
  exact r_iret cx hw hr hlk hf dJ0_indexOf_0f7a4_6
