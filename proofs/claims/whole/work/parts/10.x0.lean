theorem dX5_at_0 : decode cX5_at 0 = .ok (.aload_n 0, 1) := by decide +kernel
theorem dX5_at_1 : decode cX5_at 1 = .ok (.ifnull 19, 3) := by decide +kernel
theorem dX5_at_4 : decode cX5_at 4 = .ok (.iload_n 1, 1) := by decide +kernel
theorem dX5_at_5 : decode cX5_at 5 = .ok (.ifCond .lt 15, 3) := by decide +kernel
theorem dX5_at_8 : decode cX5_at 8 = .ok (.iload_n 1, 1) := by decide +kernel
theorem dX5_at_9 : decode cX5_at 9 = .ok (.aload_n 0, 1) := by decide +kernel
theorem dX5_at_10 : decode cX5_at 10 = .ok (.arraylength, 1) := by decide +kernel
theorem dX5_at_11 : decode cX5_at 11 = .ok (.if_icmp .ge 9, 3) := by decide +kernel
theorem dX5_at_14 : decode cX5_at 14 = .ok (.aload_n 0, 1) := by decide +kernel
theorem dX5_at_15 : decode cX5_at 15 = .ok (.iload_n 1, 1) := by decide +kernel
theorem dX5_at_16 : decode cX5_at 16 = .ok (.iaload, 1) := by decide +kernel
theorem dX5_at_17 : decode cX5_at 17 = .ok (.goto 4, 3) := by decide +kernel
theorem dX5_at_20 : decode cX5_at 20 = .ok (.iconst 0, 1) := by decide +kernel
theorem dX5_at_21 : decode cX5_at 21 = .ok (.ireturn, 1) := by decide +kernel
abbrev rm_X5_at : Room := { frames := 0, cells := 0, slots := 0, locals := 0 }
def f_X5_at (k0 : Nat) (S : St) (x1 : Int32) : Option (Int32) :=
  if x1 < 0 then (some (0 : Int32)) else (if (Int32.ofNat (wk_n wd_C k0)) ≤ x1 then (some (0 : Int32)) else (chk (ib x1 (wk_n wd_C k0)) (some (st_A S k0 x1.toNatClampNeg))))
set_option maxRecDepth 100000 in
set_option maxHeartbeats 4000000 in
theorem k_X5_at (l : Launch) (g : GG) (hg : gd wd_C g) (k0 : Nat) (hk0 : k0 ∈ gg_as g) (S : St) (x1 : Int32) (q : Int32) (hf : f_X5_at k0 S x1 = some q) : Met l yX5_at (Cond.code yX5_at cX5_at 2 (some .int) :: gw_tbl) rm_X5_at (va_Pc [.ref (gg_a g k0), .int x1] (wI wd_C g S)) (qc_i wd_C g S q) 0 0 (aw g) := by
  refine mt_start (own := RX5) hg (by decide) rfl (Nat.le_of_ble_eq_true rfl) (fun p e s m args below meth c ls H locs cx hw hr hlk hl => ?_)
  have hx := cx.1
  have hb := cx.2.1
  have hown := cx.2.2.2.1
  have hts := cx.2.2.2.2.1
  have hl : lv_has ls 2 [(0, .ref (gg_a g k0)), (1, .int x1)] := hl
  replace hf := h_top hf
  unfold f_X5_at at hf
  refine lv_aload_n hx hb dX5_at_0 rfl (lv_at hl 0 rfl) ?_
  refine lv_ifnull hx hb dX5_at_1 ?_
  refine lv_iload_n hx hb dX5_at_4 rfl (lv_at hl 1 rfl) ?_
  refine lv_if_lt hx hb dX5_at_5 (tgt := 20) rfl (fun hc1 => ?_) (fun hc1 => ?_)
  · replace hf := h_pos hc1 hf
    refine lv_iconst (v := 0) hx hb dX5_at_20 (by decide) ?_
    exact r_iret cx hw hr hlk hf dX5_at_21
  replace hf := h_neg hc1 hf
  refine lv_iload_n hx hb dX5_at_8 rfl (lv_at hl 1 rfl) ?_
  refine lv_aload_n hx hb dX5_at_9 rfl (lv_at hl 0 rfl) ?_
  refine r_alen cx hw hk0 dX5_at_10 ?_
  refine lv_icmp_ge hx hb dX5_at_11 (tgt := 20) rfl (fun hc2 => ?_) (fun hc2 => ?_)
  · replace hf := h_pos hc2 hf
    refine lv_iconst (v := 0) hx hb dX5_at_20 (by decide) ?_
    exact r_iret cx hw hr hlk hf dX5_at_21
  replace hf := h_neg hc2 hf
  refine lv_aload_n hx hb dX5_at_14 rfl (lv_at hl 0 rfl) ?_
  refine lv_iload_n hx hb dX5_at_15 rfl (lv_at hl 1 rfl) ?_
  refine r_iald cx hw hk0 rfl rfl hf dX5_at_16 (fun hf => ?_)
  refine lv_goto hx hb dX5_at_17 (tgt := 21) rfl ?_
  exact r_iret cx hw hr hlk hf dX5_at_21
abbrev rm_X5_atT : Room := { frames := 0, cells := 0, slots := 0, locals := 0 }
def f_X5_atT (S : St) (x1 : Int32) : Option (Int32) :=
  if x1 < 0 then (some (0 : Int32)) else (if (8 : Int32) ≤ x1 then (some (0 : Int32)) else (chk (ib x1 8) (some (mo_C.getD x1.toNatClampNeg 0))))
set_option maxRecDepth 100000 in
set_option maxHeartbeats 4000000 in
theorem k_X5_atT (l : Launch) (g : GG) (hg : gd wd_C g) (S : St) (x1 : Int32) (q : Int32) (hf : f_X5_atT  S x1 = some q) : Met l yX5_at (Cond.code yX5_at cX5_at 2 (some .int) :: gw_tbl) rm_X5_atT (va_Pc [.ref (gg_t g), .int x1] (wI wd_C g S)) (qc_i wd_C g S q) 0 0 (aw g) := by
  refine mt_start (own := RX5) hg (by decide) rfl (Nat.le_of_ble_eq_true rfl) (fun p e s m args below meth c ls H locs cx hw hr hlk hl => ?_)
  have hx := cx.1
  have hb := cx.2.1
  have hown := cx.2.2.2.1
  have hts := cx.2.2.2.2.1
  have hl : lv_has ls 2 [(0, .ref (gg_t g)), (1, .int x1)] := hl
  replace hf := h_top hf
  unfold f_X5_atT at hf
  refine lv_aload_n hx hb dX5_at_0 rfl (lv_at hl 0 rfl) ?_
  refine lv_ifnull hx hb dX5_at_1 ?_
  refine lv_iload_n hx hb dX5_at_4 rfl (lv_at hl 1 rfl) ?_
  refine lv_if_lt hx hb dX5_at_5 (tgt := 20) rfl (fun hc1 => ?_) (fun hc1 => ?_)
  · replace hf := h_pos hc1 hf
    refine lv_iconst (v := 0) hx hb dX5_at_20 (by decide) ?_
    exact r_iret cx hw hr hlk hf dX5_at_21
  replace hf := h_neg hc1 hf
  refine lv_iload_n hx hb dX5_at_8 rfl (lv_at hl 1 rfl) ?_
  refine lv_aload_n hx hb dX5_at_9 rfl (lv_at hl 0 rfl) ?_
  refine r_tlen cx hw dX5_at_10 ?_
  refine lv_icmp_ge hx hb dX5_at_11 (tgt := 20) rfl (fun hc2 => ?_) (fun hc2 => ?_)
  · replace hf := h_pos hc2 hf
    refine lv_iconst (v := 0) hx hb dX5_at_20 (by decide) ?_
    exact r_iret cx hw hr hlk hf dX5_at_21
  replace hf := h_neg hc2 hf
  refine lv_aload_n hx hb dX5_at_14 rfl (lv_at hl 0 rfl) ?_
  refine lv_iload_n hx hb dX5_at_15 rfl (lv_at hl 1 rfl) ?_
  refine r_tald cx hw hf dX5_at_16 (fun hf => ?_)
  refine lv_goto hx hb dX5_at_17 (tgt := 21) rfl ?_
  exact r_iret cx hw hr hlk hf dX5_at_21
theorem dX0_menIn_0 : decode cX0_menIn 0 = .ok (.iconst 0, 1) := by decide +kernel
theorem dX0_menIn_1 : decode cX0_menIn 1 = .ok (.istore_n 3, 1) := by decide +kernel
theorem dX0_menIn_2 : decode cX0_menIn 2 = .ok (.iconst 0, 1) := by decide +kernel
theorem dX0_menIn_3 : decode cX0_menIn 3 = .ok (.istore 4, 2) := by decide +kernel
theorem dX0_menIn_5 : decode cX0_menIn 5 = .ok (.iload 4, 2) := by decide +kernel
theorem dX0_menIn_7 : decode cX0_menIn 7 = .ok (.aload_n 0, 1) := by decide +kernel
theorem dX0_menIn_8 : decode cX0_menIn 8 = .ok (.getfield 33, 3) := by decide +kernel
theorem dX0_menIn_11 : decode cX0_menIn 11 = .ok (.getfield 82, 3) := by decide +kernel
theorem dX0_menIn_14 : decode cX0_menIn 14 = .ok (.if_icmp .ge 38, 3) := by decide +kernel
theorem dX0_menIn_17 : decode cX0_menIn 17 = .ok (.iload_n 3, 1) := by decide +kernel
theorem dX0_menIn_18 : decode cX0_menIn 18 = .ok (.aload_n 0, 1) := by decide +kernel
theorem dX0_menIn_19 : decode cX0_menIn 19 = .ok (.getfield 9, 3) := by decide +kernel
theorem dX0_menIn_22 : decode cX0_menIn 22 = .ok (.iload_n 2, 1) := by decide +kernel
theorem dX0_menIn_23 : decode cX0_menIn 23 = .ok (.bipush 6, 2) := by decide +kernel
theorem dX0_menIn_25 : decode cX0_menIn 25 = .ok (.imul, 1) := by decide +kernel
theorem dX0_menIn_26 : decode cX0_menIn 26 = .ok (.iload 4, 2) := by decide +kernel
theorem dX0_menIn_28 : decode cX0_menIn 28 = .ok (.iadd, 1) := by decide +kernel
theorem dX0_menIn_29 : decode cX0_menIn 29 = .ok (.invokestatic 68, 3) := by decide +kernel
theorem dX0_menIn_32 : decode cX0_menIn 32 = .ok (.iload_n 1, 1) := by decide +kernel
theorem dX0_menIn_33 : decode cX0_menIn 33 = .ok (.if_icmp .ne 10, 3) := by decide +kernel
theorem dX0_menIn_36 : decode cX0_menIn 36 = .ok (.iconst 1, 1) := by decide +kernel
theorem dX0_menIn_37 : decode cX0_menIn 37 = .ok (.iload 4, 2) := by decide +kernel
theorem dX0_menIn_39 : decode cX0_menIn 39 = .ok (.ishl, 1) := by decide +kernel
theorem dX0_menIn_40 : decode cX0_menIn 40 = .ok (.goto 4, 3) := by decide +kernel
theorem dX0_menIn_43 : decode cX0_menIn 43 = .ok (.iconst 0, 1) := by decide +kernel
theorem dX0_menIn_44 : decode cX0_menIn 44 = .ok (.ior, 1) := by decide +kernel
theorem dX0_menIn_45 : decode cX0_menIn 45 = .ok (.istore_n 3, 1) := by decide +kernel
theorem dX0_menIn_46 : decode cX0_menIn 46 = .ok (.iinc 4 1, 3) := by decide +kernel
theorem dX0_menIn_49 : decode cX0_menIn 49 = .ok (.goto (-44), 3) := by decide +kernel
theorem dX0_menIn_52 : decode cX0_menIn 52 = .ok (.iload_n 3, 1) := by decide +kernel
theorem dX0_menIn_53 : decode cX0_menIn 53 = .ok (.ireturn, 1) := by decide +kernel
abbrev rm_X0_menIn : Room := { frames := 1, cells := 0, slots := 0, locals := 21 }
def f_X0_menIn_J44 (k0 : Nat) (S : St) (x1 : Int32) (x2 : Int32) (x4 : Int32) (y0 : Int32) (y1 : Int32) : Option ((Int32 × Int32) ⊕ (Int32)) :=
  some (.inl ((y1 ||| y0), (x4 + 1)))
def f_X0_menIn_L5 (k0 : Nat) (S : St) (x1 : Int32) (x2 : Int32) (z5 : Int32 × Int32) : Option ((Int32 × Int32) ⊕ (Int32)) :=
  chk (isT (st_P S (ky k0 0))) (if (st_I S (ky (st_P S (ky k0 0)) 2)) ≤ z5.2 then (some (.inr z5.1)) else ((f_X5_at (ky k0 2) S ((x2 * (6 : Int32)) + z5.2)).bind (fun (q3 : Int32) => if q3 = x1 then (f_X0_menIn_J44 k0 S x1 x2 z5.2 ((1 : Int32) <<< (z5.2 &&& 31)) z5.1) else (f_X0_menIn_J44 k0 S x1 x2 z5.2 (0 : Int32) z5.1))))
def f_X0_menIn (k0 : Nat) (S : St) (x1 : Int32) (x2 : Int32) : Option (Int32) :=
  iter (f_X0_menIn_L5 k0 S x1 x2) FU ((0 : Int32), (0 : Int32))
set_option maxRecDepth 100000 in
set_option maxHeartbeats 4000000 in
theorem k_X0_menIn (l : Launch) (g : GG) (hg : gd wd_C g) (k0 : Nat) (hk0 : hs wd_C g k0 0) (hA : allT g) (S : St) (x1 : Int32) (x2 : Int32) (q : Int32) (hf : f_X0_menIn k0 S x1 x2 = some q) : Met l yX0_menIn (Cond.code yX0_menIn cX0_menIn 5 (some .int) :: gw_tbl) rm_X0_menIn (va_Pc [.ref (gg_o g k0), .int x1, .int x2] (wI wd_C g S)) (qc_i wd_C g S q) 0 0 (aw g) := by
  refine mt_start (own := RX0) hg (by decide) rfl (Nat.le_of_ble_eq_true rfl) (fun p e s m args below meth c ls H locs cx hw hr hlk hl => ?_)
  have hx := cx.1
  have hb := cx.2.1
  have hown := cx.2.2.2.1
  have hts := cx.2.2.2.2.1
  have hl : lv_has ls 5 [(0, .ref (gg_o g k0)), (1, .int x1), (2, .int x2)] := hl
  replace hf := h_top hf
  unfold f_X0_menIn at hf
  refine lv_iconst (v := 0) hx hb dX0_menIn_0 (by decide) ?_
  refine lv_istore_n hx hb dX0_menIn_1 rfl hl (by decide) (lv' := [(3, .int (0 : Int32)), (0, .ref (gg_o g k0)), (1, .int x1), (2, .int x2)]) rfl (fun ls hl => ?_)
  refine lv_iconst (v := 0) hx hb dX0_menIn_2 (by decide) ?_
  refine lv_istore hx hb dX0_menIn_3 hl (by decide) (lv' := [(4, .int (0 : Int32)), (3, .int (0 : Int32)), (0, .ref (gg_o g k0)), (1, .int x1), (2, .int x2)]) rfl (fun ls hl => ?_)
  have L5 : ∀ (x1 : Int32) (x2 : Int32) (aft5 : Int32 → Option (Int32)), (∀ v : Int32, aft5 v = some q → (some v : Option (Int32)).bind some = some q) → ∀ (n5 : Nat) (ls : Array Slot) (H : Heap) (locs : List Loc) (z5 : Int32 × Int32), lv_has ls 5 [(0, .ref (gg_o g k0)), (1, .int x1), (2, .int x2), (3, .int z5.1), (4, .int z5.2)] → HH wd_C g s S H locs → (iter (f_X0_menIn_L5 k0 S x1 x2) n5 z5).bind aft5 = some q → W p l e rm_X0_menIn s m args below meth c H locs 0 0 (MQ below (qc_i wd_C g S q) args s 0 0 (aw g)) (F0 m 5 ls []) := by
    intro x1 x2 aft5 hR5 n5
    induction n5 with
    | zero => intro ls H locs z5 hl hw hf; exact h_iter0 hf
    | succ n5 ih5 =>
      intro ls H locs z5 hl hw hf
      replace hf := h_iter hf
      unfold f_X0_menIn_L5 at hf
      have J44 : ∀ (ls : Array Slot) (H : Heap) (locs : List Loc) (x4 : Int32) (y0 : Int32) (y1 : Int32), lv_has ls 5 [(0, .ref (gg_o g k0)), (1, .int x1), (2, .int x2), (4, .int x4)] → HH wd_C g s S H locs → (f_X0_menIn_J44 k0 S x1 x2 x4 y0 y1).bind (it_K (f_X0_menIn_L5 k0 S x1 x2) n5 aft5) = some q → W p l e rm_X0_menIn s m args below meth c H locs 0 0 (MQ below (qc_i wd_C g S q) args s 0 0 (aw g)) (F0 m 44 ls [.int y0, .int y1]) := by
        intro ls H locs x4 y0 y1 hl hw hf
        unfold f_X0_menIn_J44 at hf
        refine lv_ior hx hb dX0_menIn_44 ?_
        refine lv_istore_n hx hb dX0_menIn_45 rfl hl (by decide) (lv' := [(3, .int (y1 ||| y0)), (0, .ref (gg_o g k0)), (1, .int x1), (2, .int x2), (4, .int x4)]) rfl (fun ls hl => ?_)
        refine lv_iinc hx hb dX0_menIn_46 hl (k := 4) rfl (congrArg (HAdd.hAdd _) (show Int32.ofInt (1) = 1 by decide)) (by decide) (lv' := [(4, .int (x4 + 1)), (3, .int (y1 ||| y0)), (0, .ref (gg_o g k0)), (1, .int x1), (2, .int x2)]) rfl (fun ls hl => ?_)
        refine lv_goto hx hb dX0_menIn_49 (tgt := 5) rfl ?_
        exact ih5 _ _ _ ((y1 ||| y0), (x4 + 1)) (lv_sub hl [2, 3, 4, 1, 0] rfl) hw hf
      refine lv_iload hx hb dX0_menIn_5 (lv_at hl 4 rfl) ?_
      refine lv_aload_n hx hb dX0_menIn_7 rfl (lv_at hl 0 rfl) ?_
      obtain ⟨hc1, hf⟩ := h_chk hf
      refine gf_X0_33 cx hw hk0 dX0_menIn_8 ?_
      refine gf_X0_82 cx hw ((allT_at hA hc1).1) dX0_menIn_11 ?_
      refine lv_icmp_ge hx hb dX0_menIn_14 (tgt := 52) rfl (fun hc2 => ?_) (fun hc2 => ?_)
      · replace hf := h_pos hc2 hf
        refine lv_iload_n hx hb dX0_menIn_52 rfl (lv_at hl 3 rfl) ?_
        replace hf := hR5 z5.1 hf
        exact r_iret cx hw hr hlk hf dX0_menIn_53
      replace hf := h_neg hc2 hf
      refine lv_iload_n hx hb dX0_menIn_17 rfl (lv_at hl 3 rfl) ?_
      refine lv_aload_n hx hb dX0_menIn_18 rfl (lv_at hl 0 rfl) ?_
      refine gf_X0_9 cx hw hk0 dX0_menIn_19 ?_
      refine lv_iload_n hx hb dX0_menIn_22 rfl (lv_at hl 2 rfl) ?_
      refine lv_bipush (v := 6) hx hb dX0_menIn_23 (by decide) ?_
      refine lv_imul hx hb dX0_menIn_25 ?_
      refine lv_iload hx hb dX0_menIn_26 (lv_at hl 4 rfl) ?_
      refine lv_iadd hx hb dX0_menIn_28 ?_
      refine r_SN_i (As := [.ref (gg_a g (ky k0 2)), .int ((x2 * (6 : Int32)) + z5.2)]) (rest := [.int z5.1]) cx hw hf (nw_at cx) lk_X0_68 (fun q3 hq => k_X5_at l g hg (ky k0 2) (hk0.2.2.1 2 rfl) S ((x2 * (6 : Int32)) + z5.2) q3 hq) ⟨⟨rfl, rfl⟩, Nat.le_of_ble_eq_true rfl, Nat.le_of_ble_eq_true rfl⟩ rfl hl.1 rfl (Nat.le_of_ble_eq_true rfl) dX0_menIn_29 ⟨Nat.zero_le _, Nat.zero_le _⟩ (fun q3 H locs hw hf => ?_)
      refine lv_iload_n hx hb dX0_menIn_32 rfl (lv_at hl 1 rfl) ?_
      refine lv_icmp_ne hx hb dX0_menIn_33 (tgt := 43) rfl (fun hc4 => ?_) (fun hc4 => ?_)
      · replace hf := h_neg hc4 hf
        refine lv_iconst (v := 0) hx hb dX0_menIn_43 (by decide) ?_
        exact J44 _ _ _ z5.2 (0 : Int32) z5.1 (lv_sub hl [0, 1, 2, 4] rfl) hw hf
      replace hf := h_pos hc4 hf
      refine lv_iconst (v := 1) hx hb dX0_menIn_36 (by decide) ?_
      refine lv_iload hx hb dX0_menIn_37 (lv_at hl 4 rfl) ?_
      refine lv_ishl hx hb dX0_menIn_39 ?_
      refine lv_goto hx hb dX0_menIn_40 (tgt := 44) rfl ?_
      exact J44 _ _ _ z5.2 ((1 : Int32) <<< (z5.2 &&& 31)) z5.1 (lv_sub hl [0, 1, 2, 4] rfl) hw hf
  exact L5 x1 x2 some (fun v h => h) FU _ _ _ ((0 : Int32), (0 : Int32)) (lv_sub hl [2, 3, 4, 1, 0] rfl) hw hf
theorem dX0_isBroken_0 : decode cX0_isBroken 0 = .ok (.aload_n 0, 1) := by decide +kernel
theorem dX0_isBroken_1 : decode cX0_isBroken 1 = .ok (.getfield 27, 3) := by decide +kernel
theorem dX0_isBroken_4 : decode cX0_isBroken 4 = .ok (.iload_n 1, 1) := by decide +kernel
theorem dX0_isBroken_5 : decode cX0_isBroken 5 = .ok (.invokestatic 68, 3) := by decide +kernel
theorem dX0_isBroken_8 : decode cX0_isBroken 8 = .ok (.iload_n 2, 1) := by decide +kernel
theorem dX0_isBroken_9 : decode cX0_isBroken 9 = .ok (.if_icmp .gt 7, 3) := by decide +kernel
theorem dX0_isBroken_12 : decode cX0_isBroken 12 = .ok (.iconst 1, 1) := by decide +kernel
theorem dX0_isBroken_13 : decode cX0_isBroken 13 = .ok (.goto 4, 3) := by decide +kernel
theorem dX0_isBroken_16 : decode cX0_isBroken 16 = .ok (.iconst 0, 1) := by decide +kernel
theorem dX0_isBroken_17 : decode cX0_isBroken 17 = .ok (.ireturn, 1) := by decide +kernel
abbrev rm_X0_isBroken : Room := { frames := 1, cells := 0, slots := 0, locals := 21 }
def f_X0_isBroken (k0 : Nat) (S : St) (x1 : Int32) (x2 : Int32) : Option (Int32) :=
  (f_X5_at (ky k0 7) S x1).bind (fun (q1 : Int32) => if x2 < q1 then (some (0 : Int32)) else (some (1 : Int32)))
set_option maxRecDepth 100000 in
set_option maxHeartbeats 4000000 in
theorem k_X0_isBroken (l : Launch) (g : GG) (hg : gd wd_C g) (k0 : Nat) (hk0 : hs wd_C g k0 0) (hA : allT g) (S : St) (x1 : Int32) (x2 : Int32) (q : Int32) (hf : f_X0_isBroken k0 S x1 x2 = some q) : Met l yX0_isBroken (Cond.code yX0_isBroken cX0_isBroken 3 (some .boolean) :: gw_tbl) rm_X0_isBroken (va_Pc [.ref (gg_o g k0), .int x1, .int x2] (wI wd_C g S)) (qc_i wd_C g S q) 0 0 (aw g) := by
  refine mt_start (own := RX0) hg (by decide) rfl (Nat.le_of_ble_eq_true rfl) (fun p e s m args below meth c ls H locs cx hw hr hlk hl => ?_)
  have hx := cx.1
  have hb := cx.2.1
  have hown := cx.2.2.2.1
  have hts := cx.2.2.2.2.1
  have hl : lv_has ls 3 [(0, .ref (gg_o g k0)), (1, .int x1), (2, .int x2)] := hl
  replace hf := h_top hf
  unfold f_X0_isBroken at hf
  refine lv_aload_n hx hb dX0_isBroken_0 rfl (lv_at hl 0 rfl) ?_
  refine gf_X0_27 cx hw hk0 dX0_isBroken_1 ?_
  refine lv_iload_n hx hb dX0_isBroken_4 rfl (lv_at hl 1 rfl) ?_
  refine r_SN_i (As := [.ref (gg_a g (ky k0 7)), .int x1]) (rest := []) cx hw hf (nw_at cx) lk_X0_68 (fun q1 hq => k_X5_at l g hg (ky k0 7) (hk0.2.2.1 7 rfl) S x1 q1 hq) ⟨⟨rfl, rfl⟩, Nat.le_of_ble_eq_true rfl, Nat.le_of_ble_eq_true rfl⟩ rfl hl.1 rfl (Nat.le_of_ble_eq_true rfl) dX0_isBroken_5 ⟨Nat.zero_le _, Nat.zero_le _⟩ (fun q1 H locs hw hf => ?_)
  refine lv_iload_n hx hb dX0_isBroken_8 rfl (lv_at hl 2 rfl) ?_
  refine lv_icmp_gt hx hb dX0_isBroken_9 (tgt := 16) rfl (fun hc2 => ?_) (fun hc2 => ?_)
  · replace hf := h_pos hc2 hf
    refine lv_iconst (v := 0) hx hb dX0_isBroken_16 (by decide) ?_
    exact r_zret cx hw hr hlk (Or.inl rfl) hf dX0_isBroken_17
  replace hf := h_neg hc2 hf
  refine lv_iconst (v := 1) hx hb dX0_isBroken_12 (by decide) ?_
  refine lv_goto hx hb dX0_isBroken_13 (tgt := 17) rfl ?_
  exact r_zret cx hw hr hlk (Or.inr rfl) hf dX0_isBroken_17
theorem dX0_lateOf_0 : decode cX0_lateOf 0 = .ok (.aload_n 0, 1) := by decide +kernel
theorem dX0_lateOf_1 : decode cX0_lateOf 1 = .ok (.getfield 21, 3) := by decide +kernel
theorem dX0_lateOf_4 : decode cX0_lateOf 4 = .ok (.iload_n 2, 1) := by decide +kernel
theorem dX0_lateOf_5 : decode cX0_lateOf 5 = .ok (.bipush 8, 2) := by decide +kernel
theorem dX0_lateOf_7 : decode cX0_lateOf 7 = .ok (.imul, 1) := by decide +kernel
theorem dX0_lateOf_8 : decode cX0_lateOf 8 = .ok (.iload_n 1, 1) := by decide +kernel
theorem dX0_lateOf_9 : decode cX0_lateOf 9 = .ok (.iadd, 1) := by decide +kernel
theorem dX0_lateOf_10 : decode cX0_lateOf 10 = .ok (.invokestatic 68, 3) := by decide +kernel
theorem dX0_lateOf_13 : decode cX0_lateOf 13 = .ok (.ireturn, 1) := by decide +kernel
abbrev rm_X0_lateOf : Room := { frames := 1, cells := 0, slots := 0, locals := 21 }
def f_X0_lateOf (k0 : Nat) (S : St) (x1 : Int32) (x2 : Int32) : Option (Int32) :=
  (f_X5_at (ky k0 5) S ((x2 * (8 : Int32)) + x1)).bind (fun (q1 : Int32) => some q1)
set_option maxRecDepth 100000 in
set_option maxHeartbeats 4000000 in
theorem k_X0_lateOf (l : Launch) (g : GG) (hg : gd wd_C g) (k0 : Nat) (hk0 : hs wd_C g k0 0) (hA : allT g) (S : St) (x1 : Int32) (x2 : Int32) (q : Int32) (hf : f_X0_lateOf k0 S x1 x2 = some q) : Met l yX0_lateOf (Cond.code yX0_lateOf cX0_lateOf 3 (some .int) :: gw_tbl) rm_X0_lateOf (va_Pc [.ref (gg_o g k0), .int x1, .int x2] (wI wd_C g S)) (qc_i wd_C g S q) 0 0 (aw g) := by
  refine mt_start (own := RX0) hg (by decide) rfl (Nat.le_of_ble_eq_true rfl) (fun p e s m args below meth c ls H locs cx hw hr hlk hl => ?_)
  have hx := cx.1
  have hb := cx.2.1
  have hown := cx.2.2.2.1
  have hts := cx.2.2.2.2.1
  have hl : lv_has ls 3 [(0, .ref (gg_o g k0)), (1, .int x1), (2, .int x2)] := hl
  replace hf := h_top hf
  unfold f_X0_lateOf at hf
  refine lv_aload_n hx hb dX0_lateOf_0 rfl (lv_at hl 0 rfl) ?_
  refine gf_X0_21 cx hw hk0 dX0_lateOf_1 ?_
  refine lv_iload_n hx hb dX0_lateOf_4 rfl (lv_at hl 2 rfl) ?_
  refine lv_bipush (v := 8) hx hb dX0_lateOf_5 (by decide) ?_
  refine lv_imul hx hb dX0_lateOf_7 ?_
  refine lv_iload_n hx hb dX0_lateOf_8 rfl (lv_at hl 1 rfl) ?_
  refine lv_iadd hx hb dX0_lateOf_9 ?_
  refine r_SN_i (As := [.ref (gg_a g (ky k0 5)), .int ((x2 * (8 : Int32)) + x1)]) (rest := []) cx hw hf (nw_at cx) lk_X0_68 (fun q1 hq => k_X5_at l g hg (ky k0 5) (hk0.2.2.1 5 rfl) S ((x2 * (8 : Int32)) + x1) q1 hq) ⟨⟨rfl, rfl⟩, Nat.le_of_ble_eq_true rfl, Nat.le_of_ble_eq_true rfl⟩ rfl hl.1 rfl (Nat.le_of_ble_eq_true rfl) dX0_lateOf_10 ⟨Nat.zero_le _, Nat.zero_le _⟩ (fun q1 H locs hw hf => ?_)
  exact r_iret cx hw hr hlk hf dX0_lateOf_13
theorem dX5_has_0 : decode cX5_has 0 = .ok (.iload_n 1, 1) := by decide +kernel
theorem dX5_has_1 : decode cX5_has 1 = .ok (.ifCond .lt 22, 3) := by decide +kernel
theorem dX5_has_4 : decode cX5_has 4 = .ok (.iload_n 1, 1) := by decide +kernel
theorem dX5_has_5 : decode cX5_has 5 = .ok (.bipush 32, 2) := by decide +kernel
theorem dX5_has_7 : decode cX5_has 7 = .ok (.if_icmp .ge 16, 3) := by decide +kernel
theorem dX5_has_10 : decode cX5_has 10 = .ok (.iload_n 0, 1) := by decide +kernel
theorem dX5_has_11 : decode cX5_has 11 = .ok (.iload_n 1, 1) := by decide +kernel
theorem dX5_has_12 : decode cX5_has 12 = .ok (.iushr, 1) := by decide +kernel
theorem dX5_has_13 : decode cX5_has 13 = .ok (.iconst 1, 1) := by decide +kernel
theorem dX5_has_14 : decode cX5_has 14 = .ok (.iand, 1) := by decide +kernel
theorem dX5_has_15 : decode cX5_has 15 = .ok (.iconst 1, 1) := by decide +kernel
theorem dX5_has_16 : decode cX5_has 16 = .ok (.if_icmp .ne 7, 3) := by decide +kernel
theorem dX5_has_19 : decode cX5_has 19 = .ok (.iconst 1, 1) := by decide +kernel
theorem dX5_has_20 : decode cX5_has 20 = .ok (.goto 4, 3) := by decide +kernel
theorem dX5_has_23 : decode cX5_has 23 = .ok (.iconst 0, 1) := by decide +kernel
theorem dX5_has_24 : decode cX5_has 24 = .ok (.ireturn, 1) := by decide +kernel
abbrev rm_X5_has : Room := { frames := 0, cells := 0, slots := 0, locals := 0 }
def f_X5_has (x0 : Int32) (x1 : Int32) : Option (Int32) :=
  if x1 < 0 then (some (0 : Int32)) else (if (32 : Int32) ≤ x1 then (some (0 : Int32)) else (if ((i_ushr x0 x1) &&& (1 : Int32)) = (1 : Int32) then (some (1 : Int32)) else (some (0 : Int32))))
set_option maxRecDepth 100000 in
set_option maxHeartbeats 4000000 in
theorem k_X5_has (l : Launch) (g : GG) (hg : gd wd_C g) (S : St) (x0 : Int32) (x1 : Int32) (q : Int32) (hf : f_X5_has   x0 x1 = some q) : Met l yX5_has (Cond.code yX5_has cX5_has 2 (some .boolean) :: gw_tbl) rm_X5_has (va_Pc [.int x0, .int x1] (wI wd_C g S)) (qc_i wd_C g S q) 0 0 (aw g) := by
  refine mt_start (own := RX5) hg (by decide) rfl (Nat.le_of_ble_eq_true rfl) (fun p e s m args below meth c ls H locs cx hw hr hlk hl => ?_)
  have hx := cx.1
  have hb := cx.2.1
  have hown := cx.2.2.2.1
  have hts := cx.2.2.2.2.1
  have hl : lv_has ls 2 [(0, .int x0), (1, .int x1)] := hl
  replace hf := h_top hf
  unfold f_X5_has at hf
  refine lv_iload_n hx hb dX5_has_0 rfl (lv_at hl 1 rfl) ?_
  refine lv_if_lt hx hb dX5_has_1 (tgt := 23) rfl (fun hc1 => ?_) (fun hc1 => ?_)
  · replace hf := h_pos hc1 hf
    refine lv_iconst (v := 0) hx hb dX5_has_23 (by decide) ?_
    exact r_zret cx hw hr hlk (Or.inl rfl) hf dX5_has_24
  replace hf := h_neg hc1 hf
  refine lv_iload_n hx hb dX5_has_4 rfl (lv_at hl 1 rfl) ?_
  refine lv_bipush (v := 32) hx hb dX5_has_5 (by decide) ?_
  refine lv_icmp_ge hx hb dX5_has_7 (tgt := 23) rfl (fun hc2 => ?_) (fun hc2 => ?_)
  · replace hf := h_pos hc2 hf
    refine lv_iconst (v := 0) hx hb dX5_has_23 (by decide) ?_
    exact r_zret cx hw hr hlk (Or.inl rfl) hf dX5_has_24
  replace hf := h_neg hc2 hf
  refine lv_iload_n hx hb dX5_has_10 rfl (lv_at hl 0 rfl) ?_
  refine lv_iload_n hx hb dX5_has_11 rfl (lv_at hl 1 rfl) ?_
  refine lv_iushr (v := i_ushr x0 x1) hx hb dX5_has_12 rfl ?_
  refine lv_iconst (v := 1) hx hb dX5_has_13 (by decide) ?_
  refine lv_iand hx hb dX5_has_14 ?_
  refine lv_iconst (v := 1) hx hb dX5_has_15 (by decide) ?_
  refine lv_icmp_ne hx hb dX5_has_16 (tgt := 23) rfl (fun hc3 => ?_) (fun hc3 => ?_)
  · replace hf := h_neg hc3 hf
    refine lv_iconst (v := 0) hx hb dX5_has_23 (by decide) ?_
    exact r_zret cx hw hr hlk (Or.inl rfl) hf dX5_has_24
  replace hf := h_pos hc3 hf
  refine lv_iconst (v := 1) hx hb dX5_has_19 (by decide) ?_
  refine lv_goto hx hb dX5_has_20 (tgt := 24) rfl ?_
  exact r_zret cx hw hr hlk (Or.inr rfl) hf dX5_has_24
theorem dX0_isTurned_0 : decode cX0_isTurned 0 = .ok (.aload_n 0, 1) := by decide +kernel
theorem dX0_isTurned_1 : decode cX0_isTurned 1 = .ok (.getfield 24, 3) := by decide +kernel
theorem dX0_isTurned_4 : decode cX0_isTurned 4 = .ok (.iload_n 2, 1) := by decide +kernel
theorem dX0_isTurned_5 : decode cX0_isTurned 5 = .ok (.invokestatic 68, 3) := by decide +kernel
theorem dX0_isTurned_8 : decode cX0_isTurned 8 = .ok (.iload_n 1, 1) := by decide +kernel
theorem dX0_isTurned_9 : decode cX0_isTurned 9 = .ok (.invokestatic 72, 3) := by decide +kernel
theorem dX0_isTurned_12 : decode cX0_isTurned 12 = .ok (.ireturn, 1) := by decide +kernel
abbrev rm_X0_isTurned : Room := { frames := 1, cells := 0, slots := 0, locals := 21 }
def f_X0_isTurned (k0 : Nat) (S : St) (x1 : Int32) (x2 : Int32) : Option (Int32) :=
  (f_X5_at (ky k0 6) S x2).bind (fun (q1 : Int32) => (f_X5_has   q1 x1).bind (fun (q2 : Int32) => chk (isb q2) (some q2)))
set_option maxRecDepth 100000 in
set_option maxHeartbeats 4000000 in
theorem k_X0_isTurned (l : Launch) (g : GG) (hg : gd wd_C g) (k0 : Nat) (hk0 : hs wd_C g k0 0) (hA : allT g) (S : St) (x1 : Int32) (x2 : Int32) (q : Int32) (hf : f_X0_isTurned k0 S x1 x2 = some q) : Met l yX0_isTurned (Cond.code yX0_isTurned cX0_isTurned 3 (some .boolean) :: gw_tbl) rm_X0_isTurned (va_Pc [.ref (gg_o g k0), .int x1, .int x2] (wI wd_C g S)) (qc_i wd_C g S q) 0 0 (aw g) := by
  refine mt_start (own := RX0) hg (by decide) rfl (Nat.le_of_ble_eq_true rfl) (fun p e s m args below meth c ls H locs cx hw hr hlk hl => ?_)
  have hx := cx.1
  have hb := cx.2.1
  have hown := cx.2.2.2.1
  have hts := cx.2.2.2.2.1
  have hl : lv_has ls 3 [(0, .ref (gg_o g k0)), (1, .int x1), (2, .int x2)] := hl
  replace hf := h_top hf
  unfold f_X0_isTurned at hf
  refine lv_aload_n hx hb dX0_isTurned_0 rfl (lv_at hl 0 rfl) ?_
  refine gf_X0_24 cx hw hk0 dX0_isTurned_1 ?_
  refine lv_iload_n hx hb dX0_isTurned_4 rfl (lv_at hl 2 rfl) ?_
  refine r_SN_i (As := [.ref (gg_a g (ky k0 6)), .int x2]) (rest := []) cx hw hf (nw_at cx) lk_X0_68 (fun q1 hq => k_X5_at l g hg (ky k0 6) (hk0.2.2.1 6 rfl) S x2 q1 hq) ⟨⟨rfl, rfl⟩, Nat.le_of_ble_eq_true rfl, Nat.le_of_ble_eq_true rfl⟩ rfl hl.1 rfl (Nat.le_of_ble_eq_true rfl) dX0_isTurned_5 ⟨Nat.zero_le _, Nat.zero_le _⟩ (fun q1 H locs hw hf => ?_)
  refine lv_iload_n hx hb dX0_isTurned_8 rfl (lv_at hl 1 rfl) ?_
  refine r_SN_i (As := [.int q1, .int x1]) (rest := []) cx hw hf (nw_at cx) lk_X0_72 (fun q2 hq => k_X5_has l g hg   S q1 x1 q2 hq) ⟨⟨rfl, rfl⟩, Nat.le_of_ble_eq_true rfl, Nat.le_of_ble_eq_true rfl⟩ rfl hl.1 rfl (Nat.le_of_ble_eq_true rfl) dX0_isTurned_9 ⟨Nat.zero_le _, Nat.zero_le _⟩ (fun q2 H locs hw hf => ?_)
  obtain ⟨hc3, hf⟩ := h_chk hf
  exact r_zret cx hw hr hlk hc3 hf dX0_isTurned_12
theorem dX0_showing_0 : decode cX0_showing 0 = .ok (.aload_n 0, 1) := by decide +kernel
theorem dX0_showing_1 : decode cX0_showing 1 = .ok (.iload_n 1, 1) := by decide +kernel
theorem dX0_showing_2 : decode cX0_showing 2 = .ok (.iload_n 2, 1) := by decide +kernel
theorem dX0_showing_3 : decode cX0_showing 3 = .ok (.invokevirtual 79, 3) := by decide +kernel
theorem dX0_showing_6 : decode cX0_showing 6 = .ok (.ifCond .eq 14, 3) := by decide +kernel
theorem dX0_showing_9 : decode cX0_showing 9 = .ok (.aload_n 0, 1) := by decide +kernel
theorem dX0_showing_10 : decode cX0_showing 10 = .ok (.getfield 30, 3) := by decide +kernel
theorem dX0_showing_13 : decode cX0_showing 13 = .ok (.iload_n 1, 1) := by decide +kernel
theorem dX0_showing_14 : decode cX0_showing 14 = .ok (.invokestatic 68, 3) := by decide +kernel
theorem dX0_showing_17 : decode cX0_showing 17 = .ok (.goto 11, 3) := by decide +kernel
theorem dX0_showing_20 : decode cX0_showing 20 = .ok (.iload_n 2, 1) := by decide +kernel
theorem dX0_showing_21 : decode cX0_showing 21 = .ok (.aload_n 0, 1) := by decide +kernel
theorem dX0_showing_22 : decode cX0_showing 22 = .ok (.iload_n 1, 1) := by decide +kernel
theorem dX0_showing_23 : decode cX0_showing 23 = .ok (.iload_n 2, 1) := by decide +kernel
theorem dX0_showing_24 : decode cX0_showing 24 = .ok (.invokevirtual 85, 3) := by decide +kernel
theorem dX0_showing_27 : decode cX0_showing 27 = .ok (.isub, 1) := by decide +kernel
theorem dX0_showing_28 : decode cX0_showing 28 = .ok (.istore_n 3, 1) := by decide +kernel
theorem dX0_showing_29 : decode cX0_showing 29 = .ok (.iload_n 3, 1) := by decide +kernel
theorem dX0_showing_30 : decode cX0_showing 30 = .ok (.ifCond .lt 21, 3) := by decide +kernel
theorem dX0_showing_33 : decode cX0_showing 33 = .ok (.aload_n 0, 1) := by decide +kernel
theorem dX0_showing_34 : decode cX0_showing 34 = .ok (.iload_n 1, 1) := by decide +kernel
theorem dX0_showing_35 : decode cX0_showing 35 = .ok (.iload_n 2, 1) := by decide +kernel
theorem dX0_showing_36 : decode cX0_showing 36 = .ok (.invokevirtual 89, 3) := by decide +kernel
theorem dX0_showing_39 : decode cX0_showing 39 = .ok (.ifCond .ne 12, 3) := by decide +kernel
theorem dX0_showing_42 : decode cX0_showing 42 = .ok (.aload_n 0, 1) := by decide +kernel
theorem dX0_showing_43 : decode cX0_showing 43 = .ok (.iload_n 1, 1) := by decide +kernel
theorem dX0_showing_44 : decode cX0_showing 44 = .ok (.iload_n 3, 1) := by decide +kernel
theorem dX0_showing_45 : decode cX0_showing 45 = .ok (.invokevirtual 89, 3) := by decide +kernel
theorem dX0_showing_48 : decode cX0_showing 48 = .ok (.ifCond .eq 6, 3) := by decide +kernel
theorem dX0_showing_51 : decode cX0_showing 51 = .ok (.bipush (-2), 2) := by decide +kernel
theorem dX0_showing_53 : decode cX0_showing 53 = .ok (.ireturn, 1) := by decide +kernel
theorem dX0_showing_54 : decode cX0_showing 54 = .ok (.iload_n 3, 1) := by decide +kernel
theorem dX0_showing_55 : decode cX0_showing 55 = .ok (.ireturn, 1) := by decide +kernel
abbrev rm_X0_showing : Room := { frames := 2, cells := 0, slots := 0, locals := 43 }
def f_X0_showing_J28 (k0 : Nat) (S : St) (x1 : Int32) (x2 : Int32) (y0 : Int32) : Option (Int32) :=
  if y0 < 0 then (some (-2 : Int32)) else ((f_X0_isTurned k0 S x1 x2).bind (fun (q5 : Int32) => if q5 = 0 then ((f_X0_isTurned k0 S x1 y0).bind (fun (q7 : Int32) => if q7 = 0 then (some y0) else (some (-2 : Int32)))) else (some (-2 : Int32))))
def f_X0_showing (k0 : Nat) (S : St) (x1 : Int32) (x2 : Int32) : Option (Int32) :=
  (f_X0_isBroken k0 S x1 x2).bind (fun (q1 : Int32) => if q1 = 0 then ((f_X0_lateOf k0 S x1 x2).bind (fun (q3 : Int32) => f_X0_showing_J28 k0 S x1 x2 (x2 - q3))) else ((f_X5_at (ky k0 8) S x1).bind (fun (q9 : Int32) => f_X0_showing_J28 k0 S x1 x2 q9)))
set_option maxRecDepth 100000 in
set_option maxHeartbeats 4000000 in
theorem k_X0_showing (l : Launch) (g : GG) (hg : gd wd_C g) (k0 : Nat) (hk0 : hs wd_C g k0 0) (hA : allT g) (S : St) (x1 : Int32) (x2 : Int32) (q : Int32) (hf : f_X0_showing k0 S x1 x2 = some q) : Met l yX0_showing (Cond.code yX0_showing cX0_showing 4 (some .int) :: gw_tbl) rm_X0_showing (va_Pc [.ref (gg_o g k0), .int x1, .int x2] (wI wd_C g S)) (qc_i wd_C g S q) 0 0 (aw g) := by
  refine mt_start (own := RX0) hg (by decide) rfl (Nat.le_of_ble_eq_true rfl) (fun p e s m args below meth c ls H locs cx hw hr hlk hl => ?_)
  have hx := cx.1
  have hb := cx.2.1
  have hown := cx.2.2.2.1
  have hts := cx.2.2.2.2.1
  have hl : lv_has ls 4 [(0, .ref (gg_o g k0)), (1, .int x1), (2, .int x2)] := hl
  replace hf := h_top hf
  unfold f_X0_showing at hf
  have J28 : ∀ (ls : Array Slot) (H : Heap) (locs : List Loc) (x1 : Int32) (x2 : Int32) (y0 : Int32), lv_has ls 4 [(0, .ref (gg_o g k0)), (1, .int x1), (2, .int x2)] → HH wd_C g s S H locs → (f_X0_showing_J28 k0 S x1 x2 y0).bind some = some q → W p l e rm_X0_showing s m args below meth c H locs 0 0 (MQ below (qc_i wd_C g S q) args s 0 0 (aw g)) (F0 m 28 ls [.int y0]) := by
    intro ls H locs x1 x2 y0 hl hw hf
    unfold f_X0_showing_J28 at hf
    refine lv_istore_n hx hb dX0_showing_28 rfl hl (by decide) (lv' := [(3, .int y0), (0, .ref (gg_o g k0)), (1, .int x1), (2, .int x2)]) rfl (fun ls hl => ?_)
    refine lv_iload_n hx hb dX0_showing_29 rfl (lv_at hl 0 rfl) ?_
    refine lv_if_lt hx hb dX0_showing_30 (tgt := 51) rfl (fun hc4 => ?_) (fun hc4 => ?_)
    · replace hf := h_pos hc4 hf
      refine lv_bipush (v := -2) hx hb dX0_showing_51 (by decide) ?_
      exact r_iret cx hw hr hlk hf dX0_showing_53
    replace hf := h_neg hc4 hf
    refine lv_aload_n hx hb dX0_showing_33 rfl (lv_at hl 1 rfl) ?_
    refine lv_iload_n hx hb dX0_showing_34 rfl (lv_at hl 2 rfl) ?_
    refine lv_iload_n hx hb dX0_showing_35 rfl (lv_at hl 3 rfl) ?_
    refine r_V_i (As := [.int x1, .int x2]) (rest := []) cx hw hf hk0.2.1 (by rw [hk0.1]; rfl) lk_X0_89 (fun q5 hq => k_X0_isTurned l g hg k0 hk0 hA S x1 x2 q5 hq) ⟨⟨rfl, rfl⟩, Nat.le_of_ble_eq_true rfl, Nat.le_of_ble_eq_true rfl⟩ rfl hl.1 rfl (Nat.le_of_ble_eq_true rfl) dX0_showing_36 ⟨Nat.zero_le _, Nat.zero_le _⟩ (fun q5 H locs hw hf => ?_)
    refine lv_if_ne hx hb dX0_showing_39 (tgt := 51) rfl (fun hc6 => ?_) (fun hc6 => ?_)
    · replace hf := h_neg hc6 hf
      refine lv_bipush (v := -2) hx hb dX0_showing_51 (by decide) ?_
      exact r_iret cx hw hr hlk hf dX0_showing_53
    replace hf := h_pos hc6 hf
    refine lv_aload_n hx hb dX0_showing_42 rfl (lv_at hl 1 rfl) ?_
    refine lv_iload_n hx hb dX0_showing_43 rfl (lv_at hl 2 rfl) ?_
    refine lv_iload_n hx hb dX0_showing_44 rfl (lv_at hl 0 rfl) ?_
    refine r_V_i (As := [.int x1, .int y0]) (rest := []) cx hw hf hk0.2.1 (by rw [hk0.1]; rfl) lk_X0_89 (fun q7 hq => k_X0_isTurned l g hg k0 hk0 hA S x1 y0 q7 hq) ⟨⟨rfl, rfl⟩, Nat.le_of_ble_eq_true rfl, Nat.le_of_ble_eq_true rfl⟩ rfl hl.1 rfl (Nat.le_of_ble_eq_true rfl) dX0_showing_45 ⟨Nat.zero_le _, Nat.zero_le _⟩ (fun q7 H locs hw hf => ?_)
    refine lv_if_eq hx hb dX0_showing_48 (tgt := 54) rfl (fun hc8 => ?_) (fun hc8 => ?_)
    · replace hf := h_pos hc8 hf
      refine lv_iload_n hx hb dX0_showing_54 rfl (lv_at hl 0 rfl) ?_
      exact r_iret cx hw hr hlk hf dX0_showing_55
    replace hf := h_neg hc8 hf
    refine lv_bipush (v := -2) hx hb dX0_showing_51 (by decide) ?_
    exact r_iret cx hw hr hlk hf dX0_showing_53
  refine lv_aload_n hx hb dX0_showing_0 rfl (lv_at hl 0 rfl) ?_
  refine lv_iload_n hx hb dX0_showing_1 rfl (lv_at hl 1 rfl) ?_
  refine lv_iload_n hx hb dX0_showing_2 rfl (lv_at hl 2 rfl) ?_
  refine r_V_i (As := [.int x1, .int x2]) (rest := []) cx hw hf hk0.2.1 (by rw [hk0.1]; rfl) lk_X0_79 (fun q1 hq => k_X0_isBroken l g hg k0 hk0 hA S x1 x2 q1 hq) ⟨⟨rfl, rfl⟩, Nat.le_of_ble_eq_true rfl, Nat.le_of_ble_eq_true rfl⟩ rfl hl.1 rfl (Nat.le_of_ble_eq_true rfl) dX0_showing_3 ⟨Nat.zero_le _, Nat.zero_le _⟩ (fun q1 H locs hw hf => ?_)
  refine lv_if_eq hx hb dX0_showing_6 (tgt := 20) rfl (fun hc2 => ?_) (fun hc2 => ?_)
  · replace hf := h_pos hc2 hf
    refine lv_iload_n hx hb dX0_showing_20 rfl (lv_at hl 2 rfl) ?_
    refine lv_aload_n hx hb dX0_showing_21 rfl (lv_at hl 0 rfl) ?_
    refine lv_iload_n hx hb dX0_showing_22 rfl (lv_at hl 1 rfl) ?_
    refine lv_iload_n hx hb dX0_showing_23 rfl (lv_at hl 2 rfl) ?_
    refine r_V_i (As := [.int x1, .int x2]) (rest := [.int x2]) cx hw hf hk0.2.1 (by rw [hk0.1]; rfl) lk_X0_85 (fun q3 hq => k_X0_lateOf l g hg k0 hk0 hA S x1 x2 q3 hq) ⟨⟨rfl, rfl⟩, Nat.le_of_ble_eq_true rfl, Nat.le_of_ble_eq_true rfl⟩ rfl hl.1 rfl (Nat.le_of_ble_eq_true rfl) dX0_showing_24 ⟨Nat.zero_le _, Nat.zero_le _⟩ (fun q3 H locs hw hf => ?_)
    refine lv_isub hx hb dX0_showing_27 ?_
    exact J28 _ _ _ x1 x2 (x2 - q3) (lv_sub hl [0, 1, 2] rfl) hw hf
  replace hf := h_neg hc2 hf
  refine lv_aload_n hx hb dX0_showing_9 rfl (lv_at hl 0 rfl) ?_
  refine gf_X0_30 cx hw hk0 dX0_showing_10 ?_
  refine lv_iload_n hx hb dX0_showing_13 rfl (lv_at hl 1 rfl) ?_
  refine r_SN_i (As := [.ref (gg_a g (ky k0 8)), .int x1]) (rest := []) cx hw hf (nw_at cx) lk_X0_68 (fun q9 hq => k_X5_at l g hg (ky k0 8) (hk0.2.2.1 8 rfl) S x1 q9 hq) ⟨⟨rfl, rfl⟩, Nat.le_of_ble_eq_true rfl, Nat.le_of_ble_eq_true rfl⟩ rfl hl.1 rfl (Nat.le_of_ble_eq_true rfl) dX0_showing_14 ⟨Nat.zero_le _, Nat.zero_le _⟩ (fun q9 H locs hw hf => ?_)
  refine lv_goto hx hb dX0_showing_17 (tgt := 28) rfl ?_
  exact J28 _ _ _ x1 x2 q9 (lv_sub hl [0, 1, 2] rfl) hw hf
theorem dX5_copy_0 : decode cX5_copy 0 = .ok (.aload_n 0, 1) := by decide +kernel
theorem dX5_copy_1 : decode cX5_copy 1 = .ok (.ifnull 20, 3) := by decide +kernel
theorem dX5_copy_4 : decode cX5_copy 4 = .ok (.aload_n 2, 1) := by decide +kernel
theorem dX5_copy_5 : decode cX5_copy 5 = .ok (.ifnull 16, 3) := by decide +kernel
theorem dX5_copy_8 : decode cX5_copy 8 = .ok (.iload_n 1, 1) := by decide +kernel
theorem dX5_copy_9 : decode cX5_copy 9 = .ok (.ifCond .lt 12, 3) := by decide +kernel
theorem dX5_copy_12 : decode cX5_copy 12 = .ok (.iload_n 3, 1) := by decide +kernel
theorem dX5_copy_13 : decode cX5_copy 13 = .ok (.ifCond .lt 8, 3) := by decide +kernel
theorem dX5_copy_16 : decode cX5_copy 16 = .ok (.iload 4, 2) := by decide +kernel
theorem dX5_copy_18 : decode cX5_copy 18 = .ok (.ifCond .ge 4, 3) := by decide +kernel
theorem dX5_copy_21 : decode cX5_copy 21 = .ok (.return_, 1) := by decide +kernel
theorem dX5_copy_22 : decode cX5_copy 22 = .ok (.iload_n 1, 1) := by decide +kernel
theorem dX5_copy_23 : decode cX5_copy 23 = .ok (.aload_n 0, 1) := by decide +kernel
theorem dX5_copy_24 : decode cX5_copy 24 = .ok (.arraylength, 1) := by decide +kernel
theorem dX5_copy_25 : decode cX5_copy 25 = .ok (.iload 4, 2) := by decide +kernel
theorem dX5_copy_27 : decode cX5_copy 27 = .ok (.isub, 1) := by decide +kernel
theorem dX5_copy_28 : decode cX5_copy 28 = .ok (.if_icmp .gt 21, 3) := by decide +kernel
theorem dX5_copy_31 : decode cX5_copy 31 = .ok (.iload_n 3, 1) := by decide +kernel
theorem dX5_copy_32 : decode cX5_copy 32 = .ok (.aload_n 2, 1) := by decide +kernel
theorem dX5_copy_33 : decode cX5_copy 33 = .ok (.arraylength, 1) := by decide +kernel
theorem dX5_copy_34 : decode cX5_copy 34 = .ok (.iload 4, 2) := by decide +kernel
theorem dX5_copy_36 : decode cX5_copy 36 = .ok (.isub, 1) := by decide +kernel
theorem dX5_copy_37 : decode cX5_copy 37 = .ok (.if_icmp .gt 12, 3) := by decide +kernel
theorem dX5_copy_40 : decode cX5_copy 40 = .ok (.aload_n 0, 1) := by decide +kernel
theorem dX5_copy_41 : decode cX5_copy 41 = .ok (.iload_n 1, 1) := by decide +kernel
theorem dX5_copy_42 : decode cX5_copy 42 = .ok (.aload_n 2, 1) := by decide +kernel
theorem dX5_copy_43 : decode cX5_copy 43 = .ok (.iload_n 3, 1) := by decide +kernel
theorem dX5_copy_44 : decode cX5_copy 44 = .ok (.iload 4, 2) := by decide +kernel
theorem dX5_copy_46 : decode cX5_copy 46 = .ok (.invokestatic 311, 3) := by decide +kernel
theorem dX5_copy_49 : decode cX5_copy 49 = .ok (.return_, 1) := by decide +kernel
abbrev rm_X5_copy : Room := { frames := 1, cells := 0, slots := 0, locals := 120 }
def f_X5_copy (k0 : Nat) (k2 : Nat) (S : St) (x1 : Int32) (x3 : Int32) (x4 : Int32) : Option (St) :=
  if x1 < 0 then (some S) else (if x3 < 0 then (some S) else (if 0 ≤ x4 then (if ((Int32.ofNat (wk_n wd_C k0)) - x4) < x1 then (some S) else (if ((Int32.ofNat (wk_n wd_C k2)) - x4) < x3 then (some S) else (chk (cpok x1 x3 x4 (wk_n wd_C k0) (wk_n wd_C k2)) (lt_v (up_A S k2 (va_cpy (st_A S k0) (st_A S k2) x1.toNatClampNeg x3.toNatClampNeg x4.toNatClampNeg)) (fun (S6 : St) => some S6))))) else (some S)))
set_option maxRecDepth 100000 in
set_option maxHeartbeats 4000000 in
theorem k_X5_copy (l : Launch) (g : GG) (hg : gd wd_C g) (k0 : Nat) (k2 : Nat) (hk0 : k0 ∈ gg_as g) (hk2 : k2 ∈ gg_as g) (S : St) (x1 : Int32) (x3 : Int32) (x4 : Int32) (q : St) (hf : f_X5_copy k0 k2 S x1 x3 x4 = some q) : Met l yX5_copy (Cond.code yX5_copy cX5_copy 5 none :: gw_tbl) rm_X5_copy (va_Pc [.ref (gg_a g k0), .int x1, .ref (gg_a g k2), .int x3, .int x4] (wI wd_C g S)) (qc_v wd_C g q) 0 0 (aw g) := by
  refine mt_start (own := RX5) hg (by decide) rfl (Nat.le_of_ble_eq_true rfl) (fun p e s m args below meth c ls H locs cx hw hr hlk hl => ?_)
  have hx := cx.1
  have hb := cx.2.1
  have hown := cx.2.2.2.1
  have hts := cx.2.2.2.2.1
  have hl : lv_has ls 5 [(0, .ref (gg_a g k0)), (1, .int x1), (2, .ref (gg_a g k2)), (3, .int x3), (4, .int x4)] := hl
  replace hf := h_top hf
  unfold f_X5_copy at hf
  refine lv_aload_n hx hb dX5_copy_0 rfl (lv_at hl 0 rfl) ?_
  refine lv_ifnull hx hb dX5_copy_1 ?_
  refine lv_aload_n hx hb dX5_copy_4 rfl (lv_at hl 2 rfl) ?_
  refine lv_ifnull hx hb dX5_copy_5 ?_
  refine lv_iload_n hx hb dX5_copy_8 rfl (lv_at hl 1 rfl) ?_
  refine lv_if_lt hx hb dX5_copy_9 (tgt := 21) rfl (fun hc1 => ?_) (fun hc1 => ?_)
  · replace hf := h_pos hc1 hf
    exact r_vret cx hw hr hlk hf dX5_copy_21
  replace hf := h_neg hc1 hf
  refine lv_iload_n hx hb dX5_copy_12 rfl (lv_at hl 3 rfl) ?_
  refine lv_if_lt hx hb dX5_copy_13 (tgt := 21) rfl (fun hc2 => ?_) (fun hc2 => ?_)
  · replace hf := h_pos hc2 hf
    exact r_vret cx hw hr hlk hf dX5_copy_21
  replace hf := h_neg hc2 hf
  refine lv_iload hx hb dX5_copy_16 (lv_at hl 4 rfl) ?_
  refine lv_if_ge hx hb dX5_copy_18 (tgt := 22) rfl (fun hc3 => ?_) (fun hc3 => ?_)
  · replace hf := h_pos hc3 hf
    refine lv_iload_n hx hb dX5_copy_22 rfl (lv_at hl 1 rfl) ?_
    refine lv_aload_n hx hb dX5_copy_23 rfl (lv_at hl 0 rfl) ?_
    refine r_alen cx hw hk0 dX5_copy_24 ?_
    refine lv_iload hx hb dX5_copy_25 (lv_at hl 4 rfl) ?_
    refine lv_isub hx hb dX5_copy_27 ?_
    refine lv_icmp_gt hx hb dX5_copy_28 (tgt := 49) rfl (fun hc4 => ?_) (fun hc4 => ?_)
    · replace hf := h_pos hc4 hf
      exact r_vret cx hw hr hlk hf dX5_copy_49
    replace hf := h_neg hc4 hf
    refine lv_iload_n hx hb dX5_copy_31 rfl (lv_at hl 3 rfl) ?_
    refine lv_aload_n hx hb dX5_copy_32 rfl (lv_at hl 2 rfl) ?_
    refine r_alen cx hw hk2 dX5_copy_33 ?_
    refine lv_iload hx hb dX5_copy_34 (lv_at hl 4 rfl) ?_
    refine lv_isub hx hb dX5_copy_36 ?_
    refine lv_icmp_gt hx hb dX5_copy_37 (tgt := 49) rfl (fun hc5 => ?_) (fun hc5 => ?_)
    · replace hf := h_pos hc5 hf
      exact r_vret cx hw hr hlk hf dX5_copy_49
    replace hf := h_neg hc5 hf
    refine lv_aload_n hx hb dX5_copy_40 rfl (lv_at hl 0 rfl) ?_
    refine lv_iload_n hx hb dX5_copy_41 rfl (lv_at hl 1 rfl) ?_
    refine lv_aload_n hx hb dX5_copy_42 rfl (lv_at hl 2 rfl) ?_
    refine lv_iload_n hx hb dX5_copy_43 rfl (lv_at hl 3 rfl) ?_
    refine lv_iload hx hb dX5_copy_44 (lv_at hl 4 rfl) ?_
    refine r_copyi cx hw hl.1 hk0 hk2 rfl rfl rfl rfl hf wd_287 wd_289 wd_288 wd_11 (Nat.le_of_ble_eq_true rfl) (by decide +kernel) dX5_copy_46 (fun S6 H locs hw hf => ?_)
    exact r_vret cx hw hr hlk hf dX5_copy_49
  replace hf := h_neg hc3 hf
  exact r_vret cx hw hr hlk hf dX5_copy_21
theorem dX4_ownerOf_0 : decode cX4_ownerOf 0 = .ok (.aload_n 0, 1) := by decide +kernel
theorem dX4_ownerOf_1 : decode cX4_ownerOf 1 = .ok (.getfield 27, 3) := by decide +kernel
theorem dX4_ownerOf_4 : decode cX4_ownerOf 4 = .ok (.iload_n 1, 1) := by decide +kernel
theorem dX4_ownerOf_5 : decode cX4_ownerOf 5 = .ok (.invokestatic 91, 3) := by decide +kernel
theorem dX4_ownerOf_8 : decode cX4_ownerOf 8 = .ok (.ireturn, 1) := by decide +kernel
abbrev rm_X4_ownerOf : Room := { frames := 1, cells := 0, slots := 0, locals := 21 }
def f_X4_ownerOf (k0 : Nat) (S : St) (x1 : Int32) : Option (Int32) :=
  (f_X5_at (ky k0 12) S x1).bind (fun (q1 : Int32) => some q1)
set_option maxRecDepth 100000 in
set_option maxHeartbeats 4000000 in
theorem k_X4_ownerOf (l : Launch) (g : GG) (hg : gd wd_C g) (k0 : Nat) (hk0 : hT g k0) (S : St) (x1 : Int32) (q : Int32) (hf : f_X4_ownerOf k0 S x1 = some q) : Met l yX4_ownerOf (Cond.code yX4_ownerOf cX4_ownerOf 2 (some .int) :: gw_tbl) rm_X4_ownerOf (va_Pc [.ref (gg_o g k0), .int x1] (wI wd_C g S)) (qc_i wd_C g S q) 0 0 (aw g) := by
  refine mt_start (own := RX4) hg (by decide) rfl (Nat.le_of_ble_eq_true rfl) (fun p e s m args below meth c ls H locs cx hw hr hlk hl => ?_)
  have hx := cx.1
  have hb := cx.2.1
  have hown := cx.2.2.2.1
  have hts := cx.2.2.2.2.1
  have hl : lv_has ls 2 [(0, .ref (gg_o g k0)), (1, .int x1)] := hl
  replace hf := h_top hf
  unfold f_X4_ownerOf at hf
  refine lv_aload_n hx hb dX4_ownerOf_0 rfl (lv_at hl 0 rfl) ?_
  refine gf_X4_27 cx hw hk0.1 dX4_ownerOf_1 ?_
  refine lv_iload_n hx hb dX4_ownerOf_4 rfl (lv_at hl 1 rfl) ?_
  refine r_SN_i (As := [.ref (gg_a g (ky k0 12)), .int x1]) (rest := []) cx hw hf (nw_at cx) lk_X4_91 (fun q1 hq => k_X5_at l g hg (ky k0 12) (hk0.1.2.2.1 12 rfl) S x1 q1 hq) ⟨⟨rfl, rfl⟩, Nat.le_of_ble_eq_true rfl, Nat.le_of_ble_eq_true rfl⟩ rfl hl.1 rfl (Nat.le_of_ble_eq_true rfl) dX4_ownerOf_5 ⟨Nat.zero_le _, Nat.zero_le _⟩ (fun q1 H locs hw hf => ?_)
  exact r_iret cx hw hr hlk hf dX4_ownerOf_8
theorem dX0_rankOf_0 : decode cX0_rankOf 0 = .ok (.aload_n 0, 1) := by decide +kernel
theorem dX0_rankOf_1 : decode cX0_rankOf 1 = .ok (.getfield 15, 3) := by decide +kernel
theorem dX0_rankOf_4 : decode cX0_rankOf 4 = .ok (.iload_n 2, 1) := by decide +kernel
theorem dX0_rankOf_5 : decode cX0_rankOf 5 = .ok (.bipush 6, 2) := by decide +kernel
theorem dX0_rankOf_7 : decode cX0_rankOf 7 = .ok (.imul, 1) := by decide +kernel
theorem dX0_rankOf_8 : decode cX0_rankOf 8 = .ok (.iload_n 1, 1) := by decide +kernel
theorem dX0_rankOf_9 : decode cX0_rankOf 9 = .ok (.iadd, 1) := by decide +kernel
theorem dX0_rankOf_10 : decode cX0_rankOf 10 = .ok (.invokestatic 68, 3) := by decide +kernel
theorem dX0_rankOf_13 : decode cX0_rankOf 13 = .ok (.ireturn, 1) := by decide +kernel
abbrev rm_X0_rankOf : Room := { frames := 1, cells := 0, slots := 0, locals := 21 }
def f_X0_rankOf (k0 : Nat) (S : St) (x1 : Int32) (x2 : Int32) : Option (Int32) :=
  (f_X5_at (ky k0 3) S ((x2 * (6 : Int32)) + x1)).bind (fun (q1 : Int32) => some q1)
set_option maxRecDepth 100000 in
set_option maxHeartbeats 4000000 in
theorem k_X0_rankOf (l : Launch) (g : GG) (hg : gd wd_C g) (k0 : Nat) (hk0 : hs wd_C g k0 0) (hA : allT g) (S : St) (x1 : Int32) (x2 : Int32) (q : Int32) (hf : f_X0_rankOf k0 S x1 x2 = some q) : Met l yX0_rankOf (Cond.code yX0_rankOf cX0_rankOf 3 (some .int) :: gw_tbl) rm_X0_rankOf (va_Pc [.ref (gg_o g k0), .int x1, .int x2] (wI wd_C g S)) (qc_i wd_C g S q) 0 0 (aw g) := by
  refine mt_start (own := RX0) hg (by decide) rfl (Nat.le_of_ble_eq_true rfl) (fun p e s m args below meth c ls H locs cx hw hr hlk hl => ?_)
  have hx := cx.1
  have hb := cx.2.1
  have hown := cx.2.2.2.1
  have hts := cx.2.2.2.2.1
  have hl : lv_has ls 3 [(0, .ref (gg_o g k0)), (1, .int x1), (2, .int x2)] := hl
  replace hf := h_top hf
  unfold f_X0_rankOf at hf
  refine lv_aload_n hx hb dX0_rankOf_0 rfl (lv_at hl 0 rfl) ?_
  refine gf_X0_15 cx hw hk0 dX0_rankOf_1 ?_
  refine lv_iload_n hx hb dX0_rankOf_4 rfl (lv_at hl 2 rfl) ?_
  refine lv_bipush (v := 6) hx hb dX0_rankOf_5 (by decide) ?_
  refine lv_imul hx hb dX0_rankOf_7 ?_
  refine lv_iload_n hx hb dX0_rankOf_8 rfl (lv_at hl 1 rfl) ?_
  refine lv_iadd hx hb dX0_rankOf_9 ?_
  refine r_SN_i (As := [.ref (gg_a g (ky k0 3)), .int ((x2 * (6 : Int32)) + x1)]) (rest := []) cx hw hf (nw_at cx) lk_X0_68 (fun q1 hq => k_X5_at l g hg (ky k0 3) (hk0.2.2.1 3 rfl) S ((x2 * (6 : Int32)) + x1) q1 hq) ⟨⟨rfl, rfl⟩, Nat.le_of_ble_eq_true rfl, Nat.le_of_ble_eq_true rfl⟩ rfl hl.1 rfl (Nat.le_of_ble_eq_true rfl) dX0_rankOf_10 ⟨Nat.zero_le _, Nat.zero_le _⟩ (fun q1 H locs hw hf => ?_)
  exact r_iret cx hw hr hlk hf dX0_rankOf_13
theorem dX0_hangOf_0 : decode cX0_hangOf 0 = .ok (.aload_n 0, 1) := by decide +kernel
theorem dX0_hangOf_1 : decode cX0_hangOf 1 = .ok (.getfield 18, 3) := by decide +kernel
theorem dX0_hangOf_4 : decode cX0_hangOf 4 = .ok (.iload_n 2, 1) := by decide +kernel
theorem dX0_hangOf_5 : decode cX0_hangOf 5 = .ok (.bipush 8, 2) := by decide +kernel
theorem dX0_hangOf_7 : decode cX0_hangOf 7 = .ok (.imul, 1) := by decide +kernel
theorem dX0_hangOf_8 : decode cX0_hangOf 8 = .ok (.iload_n 1, 1) := by decide +kernel
theorem dX0_hangOf_9 : decode cX0_hangOf 9 = .ok (.iadd, 1) := by decide +kernel
theorem dX0_hangOf_10 : decode cX0_hangOf 10 = .ok (.invokestatic 68, 3) := by decide +kernel
theorem dX0_hangOf_13 : decode cX0_hangOf 13 = .ok (.ireturn, 1) := by decide +kernel
abbrev rm_X0_hangOf : Room := { frames := 1, cells := 0, slots := 0, locals := 21 }
def f_X0_hangOf (k0 : Nat) (S : St) (x1 : Int32) (x2 : Int32) : Option (Int32) :=
  (f_X5_at (ky k0 4) S ((x2 * (8 : Int32)) + x1)).bind (fun (q1 : Int32) => some q1)
set_option maxRecDepth 100000 in
set_option maxHeartbeats 4000000 in
theorem k_X0_hangOf (l : Launch) (g : GG) (hg : gd wd_C g) (k0 : Nat) (hk0 : hs wd_C g k0 0) (hA : allT g) (S : St) (x1 : Int32) (x2 : Int32) (q : Int32) (hf : f_X0_hangOf k0 S x1 x2 = some q) : Met l yX0_hangOf (Cond.code yX0_hangOf cX0_hangOf 3 (some .int) :: gw_tbl) rm_X0_hangOf (va_Pc [.ref (gg_o g k0), .int x1, .int x2] (wI wd_C g S)) (qc_i wd_C g S q) 0 0 (aw g) := by
  refine mt_start (own := RX0) hg (by decide) rfl (Nat.le_of_ble_eq_true rfl) (fun p e s m args below meth c ls H locs cx hw hr hlk hl => ?_)
  have hx := cx.1
  have hb := cx.2.1
  have hown := cx.2.2.2.1
  have hts := cx.2.2.2.2.1
  have hl : lv_has ls 3 [(0, .ref (gg_o g k0)), (1, .int x1), (2, .int x2)] := hl
  replace hf := h_top hf
  unfold f_X0_hangOf at hf
  refine lv_aload_n hx hb dX0_hangOf_0 rfl (lv_at hl 0 rfl) ?_
  refine gf_X0_18 cx hw hk0 dX0_hangOf_1 ?_
  refine lv_iload_n hx hb dX0_hangOf_4 rfl (lv_at hl 2 rfl) ?_
  refine lv_bipush (v := 8) hx hb dX0_hangOf_5 (by decide) ?_
  refine lv_imul hx hb dX0_hangOf_7 ?_
  refine lv_iload_n hx hb dX0_hangOf_8 rfl (lv_at hl 1 rfl) ?_
  refine lv_iadd hx hb dX0_hangOf_9 ?_
  refine r_SN_i (As := [.ref (gg_a g (ky k0 4)), .int ((x2 * (8 : Int32)) + x1)]) (rest := []) cx hw hf (nw_at cx) lk_X0_68 (fun q1 hq => k_X5_at l g hg (ky k0 4) (hk0.2.2.1 4 rfl) S ((x2 * (8 : Int32)) + x1) q1 hq) ⟨⟨rfl, rfl⟩, Nat.le_of_ble_eq_true rfl, Nat.le_of_ble_eq_true rfl⟩ rfl hl.1 rfl (Nat.le_of_ble_eq_true rfl) dX0_hangOf_10 ⟨Nat.zero_le _, Nat.zero_le _⟩ (fun q1 H locs hw hf => ?_)
  exact r_iret cx hw hr hlk hf dX0_hangOf_13
theorem dJ6_bitCount_0f7a4_0 : decode cJ6_bitCount_0f7a4 0 = .ok (.iload_n 0, 1) := by decide +kernel
theorem dJ6_bitCount_0f7a4_1 : decode cJ6_bitCount_0f7a4 1 = .ok (.iload_n 0, 1) := by decide +kernel
theorem dJ6_bitCount_0f7a4_2 : decode cJ6_bitCount_0f7a4 2 = .ok (.iconst 1, 1) := by decide +kernel
theorem dJ6_bitCount_0f7a4_3 : decode cJ6_bitCount_0f7a4 3 = .ok (.iushr, 1) := by decide +kernel
theorem dJ6_bitCount_0f7a4_4 : decode cJ6_bitCount_0f7a4 4 = .ok (.ldc_w 265, 3) := by decide +kernel
theorem dJ6_bitCount_0f7a4_7 : decode cJ6_bitCount_0f7a4 7 = .ok (.iand, 1) := by decide +kernel
theorem dJ6_bitCount_0f7a4_8 : decode cJ6_bitCount_0f7a4 8 = .ok (.isub, 1) := by decide +kernel
theorem dJ6_bitCount_0f7a4_9 : decode cJ6_bitCount_0f7a4 9 = .ok (.istore_n 0, 1) := by decide +kernel
theorem dJ6_bitCount_0f7a4_10 : decode cJ6_bitCount_0f7a4 10 = .ok (.iload_n 0, 1) := by decide +kernel
theorem dJ6_bitCount_0f7a4_11 : decode cJ6_bitCount_0f7a4 11 = .ok (.ldc_w 266, 3) := by decide +kernel
theorem dJ6_bitCount_0f7a4_14 : decode cJ6_bitCount_0f7a4 14 = .ok (.iand, 1) := by decide +kernel
theorem dJ6_bitCount_0f7a4_15 : decode cJ6_bitCount_0f7a4 15 = .ok (.iload_n 0, 1) := by decide +kernel
theorem dJ6_bitCount_0f7a4_16 : decode cJ6_bitCount_0f7a4 16 = .ok (.iconst 2, 1) := by decide +kernel
theorem dJ6_bitCount_0f7a4_17 : decode cJ6_bitCount_0f7a4 17 = .ok (.iushr, 1) := by decide +kernel
theorem dJ6_bitCount_0f7a4_18 : decode cJ6_bitCount_0f7a4 18 = .ok (.ldc_w 266, 3) := by decide +kernel
theorem dJ6_bitCount_0f7a4_21 : decode cJ6_bitCount_0f7a4 21 = .ok (.iand, 1) := by decide +kernel
theorem dJ6_bitCount_0f7a4_22 : decode cJ6_bitCount_0f7a4 22 = .ok (.iadd, 1) := by decide +kernel
theorem dJ6_bitCount_0f7a4_23 : decode cJ6_bitCount_0f7a4 23 = .ok (.istore_n 0, 1) := by decide +kernel
theorem dJ6_bitCount_0f7a4_24 : decode cJ6_bitCount_0f7a4 24 = .ok (.iload_n 0, 1) := by decide +kernel
theorem dJ6_bitCount_0f7a4_25 : decode cJ6_bitCount_0f7a4 25 = .ok (.iload_n 0, 1) := by decide +kernel
theorem dJ6_bitCount_0f7a4_26 : decode cJ6_bitCount_0f7a4 26 = .ok (.iconst 4, 1) := by decide +kernel
theorem dJ6_bitCount_0f7a4_27 : decode cJ6_bitCount_0f7a4 27 = .ok (.iushr, 1) := by decide +kernel
theorem dJ6_bitCount_0f7a4_28 : decode cJ6_bitCount_0f7a4 28 = .ok (.iadd, 1) := by decide +kernel
theorem dJ6_bitCount_0f7a4_29 : decode cJ6_bitCount_0f7a4 29 = .ok (.ldc_w 267, 3) := by decide +kernel
theorem dJ6_bitCount_0f7a4_32 : decode cJ6_bitCount_0f7a4 32 = .ok (.iand, 1) := by decide +kernel
theorem dJ6_bitCount_0f7a4_33 : decode cJ6_bitCount_0f7a4 33 = .ok (.istore_n 0, 1) := by decide +kernel
theorem dJ6_bitCount_0f7a4_34 : decode cJ6_bitCount_0f7a4 34 = .ok (.iload_n 0, 1) := by decide +kernel
theorem dJ6_bitCount_0f7a4_35 : decode cJ6_bitCount_0f7a4 35 = .ok (.iload_n 0, 1) := by decide +kernel
theorem dJ6_bitCount_0f7a4_36 : decode cJ6_bitCount_0f7a4 36 = .ok (.bipush 8, 2) := by decide +kernel
theorem dJ6_bitCount_0f7a4_38 : decode cJ6_bitCount_0f7a4 38 = .ok (.iushr, 1) := by decide +kernel
theorem dJ6_bitCount_0f7a4_39 : decode cJ6_bitCount_0f7a4 39 = .ok (.iadd, 1) := by decide +kernel
theorem dJ6_bitCount_0f7a4_40 : decode cJ6_bitCount_0f7a4 40 = .ok (.istore_n 0, 1) := by decide +kernel
theorem dJ6_bitCount_0f7a4_41 : decode cJ6_bitCount_0f7a4 41 = .ok (.iload_n 0, 1) := by decide +kernel
theorem dJ6_bitCount_0f7a4_42 : decode cJ6_bitCount_0f7a4 42 = .ok (.iload_n 0, 1) := by decide +kernel
theorem dJ6_bitCount_0f7a4_43 : decode cJ6_bitCount_0f7a4 43 = .ok (.bipush 16, 2) := by decide +kernel
theorem dJ6_bitCount_0f7a4_45 : decode cJ6_bitCount_0f7a4 45 = .ok (.iushr, 1) := by decide +kernel
theorem dJ6_bitCount_0f7a4_46 : decode cJ6_bitCount_0f7a4 46 = .ok (.iadd, 1) := by decide +kernel
theorem dJ6_bitCount_0f7a4_47 : decode cJ6_bitCount_0f7a4 47 = .ok (.istore_n 0, 1) := by decide +kernel
theorem dJ6_bitCount_0f7a4_48 : decode cJ6_bitCount_0f7a4 48 = .ok (.iload_n 0, 1) := by decide +kernel
theorem dJ6_bitCount_0f7a4_49 : decode cJ6_bitCount_0f7a4 49 = .ok (.bipush 63, 2) := by decide +kernel
theorem dJ6_bitCount_0f7a4_51 : decode cJ6_bitCount_0f7a4 51 = .ok (.iand, 1) := by decide +kernel
theorem dJ6_bitCount_0f7a4_52 : decode cJ6_bitCount_0f7a4 52 = .ok (.ireturn, 1) := by decide +kernel
abbrev rm_J6_bitCount_0f7a4 : Room := { frames := 0, cells := 0, slots := 0, locals := 0 }
def f_J6_bitCount_0f7a4 (x0 : Int32) : Option (Int32) :=
  lt_v (x0 - ((i_ushr x0 (1 : Int32)) &&& (1431655765 : Int32))) (fun (z1 : Int32) => lt_v ((z1 &&& (858993459 : Int32)) + ((i_ushr z1 (2 : Int32)) &&& (858993459 : Int32))) (fun (z2 : Int32) => lt_v ((z2 + (i_ushr z2 (4 : Int32))) &&& (252645135 : Int32)) (fun (z3 : Int32) => lt_v ((z3 + (i_ushr z3 (8 : Int32))) + (i_ushr (z3 + (i_ushr z3 (8 : Int32))) (16 : Int32))) (fun (z4 : Int32) => some (z4 &&& (63 : Int32))))))
set_option maxRecDepth 100000 in
set_option maxHeartbeats 4000000 in
theorem k_J6_bitCount_0f7a4 (l : Launch) (w : WD) (g : GG) (hg : gd w g) (S : St) (x0 : Int32) (q : Int32) (hf : f_J6_bitCount_0f7a4   x0 = some q) : Met l yJ6_bitCount_0f7a4 (Cond.code yJ6_bitCount_0f7a4 cJ6_bitCount_0f7a4 1 (some .int) :: gw_tbl) rm_J6_bitCount_0f7a4 (va_Pc [.int x0] (wI w g S)) (qc_i w g S q) 0 0 (aw g) := by
  refine mt_start (own := RJ6) hg (by decide) rfl (Nat.le_of_ble_eq_true rfl) (fun p e s m args below meth c ls H locs cx hw hr hlk hl => ?_)
  have hx := cx.1
  have hb := cx.2.1
  have hown := cx.2.2.2.1
  have hts := cx.2.2.2.2.1
  have hl : lv_has ls 1 [(0, .int x0)] := hl
  replace hf := h_top hf
  unfold f_J6_bitCount_0f7a4 at hf
  refine lv_iload_n hx hb dJ6_bitCount_0f7a4_0 rfl (lv_at hl 0 rfl) ?_
  refine lv_iload_n hx hb dJ6_bitCount_0f7a4_1 rfl (lv_at hl 0 rfl) ?_
  refine lv_iconst (v := 1) hx hb dJ6_bitCount_0f7a4_2 (by decide) ?_
  refine lv_iushr (v := i_ushr x0 (1 : Int32)) hx hb dJ6_bitCount_0f7a4_3 rfl ?_
  refine lv_ldcw hx hb hown (hts _ wd_323) dJ6_bitCount_0f7a4_4 ?_
  refine lv_iand hx hb dJ6_bitCount_0f7a4_7 ?_
  refine lv_isub hx hb dJ6_bitCount_0f7a4_8 ?_
  refine r_leti hf (fun z1 hf => ?_)
  refine lv_istore_n hx hb dJ6_bitCount_0f7a4_9 rfl hl (by decide) (lv' := [(0, .int z1)]) rfl (fun ls hl => ?_)
  refine lv_iload_n hx hb dJ6_bitCount_0f7a4_10 rfl (lv_at hl 0 rfl) ?_
  refine lv_ldcw hx hb hown (hts _ wd_324) dJ6_bitCount_0f7a4_11 ?_
  refine lv_iand hx hb dJ6_bitCount_0f7a4_14 ?_
  refine lv_iload_n hx hb dJ6_bitCount_0f7a4_15 rfl (lv_at hl 0 rfl) ?_
  refine lv_iconst (v := 2) hx hb dJ6_bitCount_0f7a4_16 (by decide) ?_
  refine lv_iushr (v := i_ushr z1 (2 : Int32)) hx hb dJ6_bitCount_0f7a4_17 rfl ?_
  refine lv_ldcw hx hb hown (hts _ wd_324) dJ6_bitCount_0f7a4_18 ?_
  refine lv_iand hx hb dJ6_bitCount_0f7a4_21 ?_
  refine lv_iadd hx hb dJ6_bitCount_0f7a4_22 ?_
  refine r_leti hf (fun z2 hf => ?_)
  refine lv_istore_n hx hb dJ6_bitCount_0f7a4_23 rfl hl (by decide) (lv' := [(0, .int z2)]) rfl (fun ls hl => ?_)
  refine lv_iload_n hx hb dJ6_bitCount_0f7a4_24 rfl (lv_at hl 0 rfl) ?_
  refine lv_iload_n hx hb dJ6_bitCount_0f7a4_25 rfl (lv_at hl 0 rfl) ?_
  refine lv_iconst (v := 4) hx hb dJ6_bitCount_0f7a4_26 (by decide) ?_
  refine lv_iushr (v := i_ushr z2 (4 : Int32)) hx hb dJ6_bitCount_0f7a4_27 rfl ?_
  refine lv_iadd hx hb dJ6_bitCount_0f7a4_28 ?_
  refine lv_ldcw hx hb hown (hts _ wd_325) dJ6_bitCount_0f7a4_29 ?_
  refine lv_iand hx hb dJ6_bitCount_0f7a4_32 ?_
  refine r_leti hf (fun z3 hf => ?_)
  refine lv_istore_n hx hb dJ6_bitCount_0f7a4_33 rfl hl (by decide) (lv' := [(0, .int z3)]) rfl (fun ls hl => ?_)
  refine lv_iload_n hx hb dJ6_bitCount_0f7a4_34 rfl (lv_at hl 0 rfl) ?_
  refine lv_iload_n hx hb dJ6_bitCount_0f7a4_35 rfl (lv_at hl 0 rfl) ?_
  refine lv_bipush (v := 8) hx hb dJ6_bitCount_0f7a4_36 (by decide) ?_
  refine lv_iushr (v := i_ushr z3 (8 : Int32)) hx hb dJ6_bitCount_0f7a4_38 rfl ?_
  refine lv_iadd hx hb dJ6_bitCount_0f7a4_39 ?_
  refine lv_istore_n hx hb dJ6_bitCount_0f7a4_40 rfl hl (by decide) (lv' := [(0, .int (z3 + (i_ushr z3 (8 : Int32))))]) rfl (fun ls hl => ?_)
  refine lv_iload_n hx hb dJ6_bitCount_0f7a4_41 rfl (lv_at hl 0 rfl) ?_
  refine lv_iload_n hx hb dJ6_bitCount_0f7a4_42 rfl (lv_at hl 0 rfl) ?_
  refine lv_bipush (v := 16) hx hb dJ6_bitCount_0f7a4_43 (by decide) ?_
  refine lv_iushr (v := i_ushr (z3 + (i_ushr z3 (8 : Int32))) (16 : Int32)) hx hb dJ6_bitCount_0f7a4_45 rfl ?_
  refine lv_iadd hx hb dJ6_bitCount_0f7a4_46 ?_
  refine r_leti hf (fun z4 hf => ?_)
  refine lv_istore_n hx hb dJ6_bitCount_0f7a4_47 rfl hl (by decide) (lv' := [(0, .int z4)]) rfl (fun ls hl => ?_)
  refine lv_iload_n hx hb dJ6_bitCount_0f7a4_48 rfl (lv_at hl 0 rfl) ?_
  refine lv_bipush (v := 63) hx hb dJ6_bitCount_0f7a4_49 (by decide) ?_
  refine lv_iand hx hb dJ6_bitCount_0f7a4_51 ?_
  exact r_iret cx hw hr hlk hf dJ6_bitCount_0f7a4_52
theorem dX4_waysOf_0 : decode cX4_waysOf 0 = .ok (.iconst 0, 1) := by decide +kernel
theorem dX4_waysOf_1 : decode cX4_waysOf 1 = .ok (.istore_n 2, 1) := by decide +kernel
theorem dX4_waysOf_2 : decode cX4_waysOf 2 = .ok (.iconst 0, 1) := by decide +kernel
theorem dX4_waysOf_3 : decode cX4_waysOf 3 = .ok (.istore_n 3, 1) := by decide +kernel
theorem dX4_waysOf_4 : decode cX4_waysOf 4 = .ok (.iload_n 3, 1) := by decide +kernel
theorem dX4_waysOf_5 : decode cX4_waysOf 5 = .ok (.aload_n 0, 1) := by decide +kernel
theorem dX4_waysOf_6 : decode cX4_waysOf 6 = .ok (.getfield 54, 3) := by decide +kernel
theorem dX4_waysOf_9 : decode cX4_waysOf 9 = .ok (.if_icmp .ge 42, 3) := by decide +kernel
theorem dX4_waysOf_12 : decode cX4_waysOf 12 = .ok (.aload_n 0, 1) := by decide +kernel
theorem dX4_waysOf_13 : decode cX4_waysOf 13 = .ok (.getfield 9, 3) := by decide +kernel
theorem dX4_waysOf_16 : decode cX4_waysOf 16 = .ok (.iload_n 3, 1) := by decide +kernel
theorem dX4_waysOf_17 : decode cX4_waysOf 17 = .ok (.iconst 2, 1) := by decide +kernel
theorem dX4_waysOf_18 : decode cX4_waysOf 18 = .ok (.imul, 1) := by decide +kernel
theorem dX4_waysOf_19 : decode cX4_waysOf 19 = .ok (.invokestatic 91, 3) := by decide +kernel
theorem dX4_waysOf_22 : decode cX4_waysOf 22 = .ok (.iload_n 1, 1) := by decide +kernel
theorem dX4_waysOf_23 : decode cX4_waysOf 23 = .ok (.if_icmp .eq 19, 3) := by decide +kernel
theorem dX4_waysOf_26 : decode cX4_waysOf 26 = .ok (.aload_n 0, 1) := by decide +kernel
theorem dX4_waysOf_27 : decode cX4_waysOf 27 = .ok (.getfield 9, 3) := by decide +kernel
theorem dX4_waysOf_30 : decode cX4_waysOf 30 = .ok (.iload_n 3, 1) := by decide +kernel
theorem dX4_waysOf_31 : decode cX4_waysOf 31 = .ok (.iconst 2, 1) := by decide +kernel
theorem dX4_waysOf_32 : decode cX4_waysOf 32 = .ok (.imul, 1) := by decide +kernel
theorem dX4_waysOf_33 : decode cX4_waysOf 33 = .ok (.iconst 1, 1) := by decide +kernel
theorem dX4_waysOf_34 : decode cX4_waysOf 34 = .ok (.iadd, 1) := by decide +kernel
theorem dX4_waysOf_35 : decode cX4_waysOf 35 = .ok (.invokestatic 91, 3) := by decide +kernel
theorem dX4_waysOf_38 : decode cX4_waysOf 38 = .ok (.iload_n 1, 1) := by decide +kernel
theorem dX4_waysOf_39 : decode cX4_waysOf 39 = .ok (.if_icmp .ne 6, 3) := by decide +kernel
theorem dX4_waysOf_42 : decode cX4_waysOf 42 = .ok (.iinc 2 1, 3) := by decide +kernel
theorem dX4_waysOf_45 : decode cX4_waysOf 45 = .ok (.iinc 3 1, 3) := by decide +kernel
theorem dX4_waysOf_48 : decode cX4_waysOf 48 = .ok (.goto (-44), 3) := by decide +kernel
theorem dX4_waysOf_51 : decode cX4_waysOf 51 = .ok (.iload_n 2, 1) := by decide +kernel
theorem dX4_waysOf_52 : decode cX4_waysOf 52 = .ok (.ireturn, 1) := by decide +kernel
abbrev rm_X4_waysOf : Room := { frames := 1, cells := 0, slots := 0, locals := 21 }
def f_X4_waysOf_L4 (k0 : Nat) (S : St) (x1 : Int32) (z4 : Int32 × Int32) : Option ((Int32 × Int32) ⊕ (Int32)) :=
  if (st_I S (ky k0 1)) ≤ z4.2 then (some (.inr z4.1)) else ((f_X5_at (ky k0 7) S (z4.2 * (2 : Int32))).bind (fun (q2 : Int32) => if q2 = x1 then (some (.inl ((z4.1 + 1), (z4.2 + 1)))) else ((f_X5_at (ky k0 7) S ((z4.2 * (2 : Int32)) + (1 : Int32))).bind (fun (q4 : Int32) => if q4 = x1 then (some (.inl ((z4.1 + 1), (z4.2 + 1)))) else (some (.inl (z4.1, (z4.2 + 1))))))))
def f_X4_waysOf (k0 : Nat) (S : St) (x1 : Int32) : Option (Int32) :=
  iter (f_X4_waysOf_L4 k0 S x1) FU ((0 : Int32), (0 : Int32))
set_option maxRecDepth 100000 in
set_option maxHeartbeats 4000000 in
theorem k_X4_waysOf (l : Launch) (g : GG) (hg : gd wd_C g) (k0 : Nat) (hk0 : hT g k0) (S : St) (x1 : Int32) (q : Int32) (hf : f_X4_waysOf k0 S x1 = some q) : Met l yX4_waysOf (Cond.code yX4_waysOf cX4_waysOf 4 (some .int) :: gw_tbl) rm_X4_waysOf (va_Pc [.ref (gg_o g k0), .int x1] (wI wd_C g S)) (qc_i wd_C g S q) 0 0 (aw g) := by
  refine mt_start (own := RX4) hg (by decide) rfl (Nat.le_of_ble_eq_true rfl) (fun p e s m args below meth c ls H locs cx hw hr hlk hl => ?_)
  have hx := cx.1
  have hb := cx.2.1
  have hown := cx.2.2.2.1
  have hts := cx.2.2.2.2.1
  have hl : lv_has ls 4 [(0, .ref (gg_o g k0)), (1, .int x1)] := hl
  replace hf := h_top hf
  unfold f_X4_waysOf at hf
  refine lv_iconst (v := 0) hx hb dX4_waysOf_0 (by decide) ?_
  refine lv_istore_n hx hb dX4_waysOf_1 rfl hl (by decide) (lv' := [(2, .int (0 : Int32)), (0, .ref (gg_o g k0)), (1, .int x1)]) rfl (fun ls hl => ?_)
  refine lv_iconst (v := 0) hx hb dX4_waysOf_2 (by decide) ?_
  refine lv_istore_n hx hb dX4_waysOf_3 rfl hl (by decide) (lv' := [(3, .int (0 : Int32)), (2, .int (0 : Int32)), (0, .ref (gg_o g k0)), (1, .int x1)]) rfl (fun ls hl => ?_)
  have L4 : ∀ (x1 : Int32) (aft4 : Int32 → Option (Int32)), (∀ v : Int32, aft4 v = some q → (some v : Option (Int32)).bind some = some q) → ∀ (n4 : Nat) (ls : Array Slot) (H : Heap) (locs : List Loc) (z4 : Int32 × Int32), lv_has ls 4 [(0, .ref (gg_o g k0)), (1, .int x1), (2, .int z4.1), (3, .int z4.2)] → HH wd_C g s S H locs → (iter (f_X4_waysOf_L4 k0 S x1) n4 z4).bind aft4 = some q → W p l e rm_X4_waysOf s m args below meth c H locs 0 0 (MQ below (qc_i wd_C g S q) args s 0 0 (aw g)) (F0 m 4 ls []) := by
    intro x1 aft4 hR4 n4
    induction n4 with
    | zero => intro ls H locs z4 hl hw hf; exact h_iter0 hf
    | succ n4 ih4 =>
      intro ls H locs z4 hl hw hf
      replace hf := h_iter hf
      unfold f_X4_waysOf_L4 at hf
      refine lv_iload_n hx hb dX4_waysOf_4 rfl (lv_at hl 3 rfl) ?_
      refine lv_aload_n hx hb dX4_waysOf_5 rfl (lv_at hl 0 rfl) ?_
      refine gf_X4_54 cx hw hk0.1 dX4_waysOf_6 ?_
      refine lv_icmp_ge hx hb dX4_waysOf_9 (tgt := 51) rfl (fun hc1 => ?_) (fun hc1 => ?_)
      · replace hf := h_pos hc1 hf
        refine lv_iload_n hx hb dX4_waysOf_51 rfl (lv_at hl 2 rfl) ?_
        replace hf := hR4 z4.1 hf
        exact r_iret cx hw hr hlk hf dX4_waysOf_52
      replace hf := h_neg hc1 hf
      refine lv_aload_n hx hb dX4_waysOf_12 rfl (lv_at hl 0 rfl) ?_
      refine gf_X4_9 cx hw hk0.1 dX4_waysOf_13 ?_
      refine lv_iload_n hx hb dX4_waysOf_16 rfl (lv_at hl 3 rfl) ?_
      refine lv_iconst (v := 2) hx hb dX4_waysOf_17 (by decide) ?_
      refine lv_imul hx hb dX4_waysOf_18 ?_
      refine r_SN_i (As := [.ref (gg_a g (ky k0 7)), .int (z4.2 * (2 : Int32))]) (rest := []) cx hw hf (nw_at cx) lk_X4_91 (fun q2 hq => k_X5_at l g hg (ky k0 7) (hk0.1.2.2.1 7 rfl) S (z4.2 * (2 : Int32)) q2 hq) ⟨⟨rfl, rfl⟩, Nat.le_of_ble_eq_true rfl, Nat.le_of_ble_eq_true rfl⟩ rfl hl.1 rfl (Nat.le_of_ble_eq_true rfl) dX4_waysOf_19 ⟨Nat.zero_le _, Nat.zero_le _⟩ (fun q2 H locs hw hf => ?_)
      refine lv_iload_n hx hb dX4_waysOf_22 rfl (lv_at hl 1 rfl) ?_
      refine lv_icmp_eq hx hb dX4_waysOf_23 (tgt := 42) rfl (fun hc3 => ?_) (fun hc3 => ?_)
      · replace hf := h_pos hc3 hf
        refine lv_iinc hx hb dX4_waysOf_42 hl (k := 2) rfl (congrArg (HAdd.hAdd _) (show Int32.ofInt (1) = 1 by decide)) (by decide) (lv' := [(2, .int (z4.1 + 1)), (0, .ref (gg_o g k0)), (1, .int x1), (3, .int z4.2)]) rfl (fun ls hl => ?_)
        refine lv_iinc hx hb dX4_waysOf_45 hl (k := 3) rfl (congrArg (HAdd.hAdd _) (show Int32.ofInt (1) = 1 by decide)) (by decide) (lv' := [(3, .int (z4.2 + 1)), (2, .int (z4.1 + 1)), (0, .ref (gg_o g k0)), (1, .int x1)]) rfl (fun ls hl => ?_)
        refine lv_goto hx hb dX4_waysOf_48 (tgt := 4) rfl ?_
        exact ih4 _ _ _ ((z4.1 + 1), (z4.2 + 1)) (lv_sub hl [2, 3, 1, 0] rfl) hw hf
      replace hf := h_neg hc3 hf
      refine lv_aload_n hx hb dX4_waysOf_26 rfl (lv_at hl 0 rfl) ?_
      refine gf_X4_9 cx hw hk0.1 dX4_waysOf_27 ?_
      refine lv_iload_n hx hb dX4_waysOf_30 rfl (lv_at hl 3 rfl) ?_
      refine lv_iconst (v := 2) hx hb dX4_waysOf_31 (by decide) ?_
      refine lv_imul hx hb dX4_waysOf_32 ?_
      refine lv_iconst (v := 1) hx hb dX4_waysOf_33 (by decide) ?_
      refine lv_iadd hx hb dX4_waysOf_34 ?_
      refine r_SN_i (As := [.ref (gg_a g (ky k0 7)), .int ((z4.2 * (2 : Int32)) + (1 : Int32))]) (rest := []) cx hw hf (nw_at cx) lk_X4_91 (fun q4 hq => k_X5_at l g hg (ky k0 7) (hk0.1.2.2.1 7 rfl) S ((z4.2 * (2 : Int32)) + (1 : Int32)) q4 hq) ⟨⟨rfl, rfl⟩, Nat.le_of_ble_eq_true rfl, Nat.le_of_ble_eq_true rfl⟩ rfl hl.1 rfl (Nat.le_of_ble_eq_true rfl) dX4_waysOf_35 ⟨Nat.zero_le _, Nat.zero_le _⟩ (fun q4 H locs hw hf => ?_)
      refine lv_iload_n hx hb dX4_waysOf_38 rfl (lv_at hl 1 rfl) ?_
      refine lv_icmp_ne hx hb dX4_waysOf_39 (tgt := 45) rfl (fun hc5 => ?_) (fun hc5 => ?_)
      · replace hf := h_neg hc5 hf
        refine lv_iinc hx hb dX4_waysOf_45 hl (k := 3) rfl (congrArg (HAdd.hAdd _) (show Int32.ofInt (1) = 1 by decide)) (by decide) (lv' := [(3, .int (z4.2 + 1)), (0, .ref (gg_o g k0)), (1, .int x1), (2, .int z4.1)]) rfl (fun ls hl => ?_)
        refine lv_goto hx hb dX4_waysOf_48 (tgt := 4) rfl ?_
        exact ih4 _ _ _ (z4.1, (z4.2 + 1)) (lv_sub hl [1, 2, 3, 0] rfl) hw hf
      replace hf := h_pos hc5 hf
      refine lv_iinc hx hb dX4_waysOf_42 hl (k := 2) rfl (congrArg (HAdd.hAdd _) (show Int32.ofInt (1) = 1 by decide)) (by decide) (lv' := [(2, .int (z4.1 + 1)), (0, .ref (gg_o g k0)), (1, .int x1), (3, .int z4.2)]) rfl (fun ls hl => ?_)
      refine lv_iinc hx hb dX4_waysOf_45 hl (k := 3) rfl (congrArg (HAdd.hAdd _) (show Int32.ofInt (1) = 1 by decide)) (by decide) (lv' := [(3, .int (z4.2 + 1)), (2, .int (z4.1 + 1)), (0, .ref (gg_o g k0)), (1, .int x1)]) rfl (fun ls hl => ?_)
      refine lv_goto hx hb dX4_waysOf_48 (tgt := 4) rfl ?_
      exact ih4 _ _ _ ((z4.1 + 1), (z4.2 + 1)) (lv_sub hl [2, 3, 1, 0] rfl) hw hf
  exact L4 x1 some (fun v h => h) FU _ _ _ ((0 : Int32), (0 : Int32)) (lv_sub hl [2, 3, 1, 0] rfl) hw hf
theorem dX5_put_0 : decode cX5_put 0 = .ok (.aload_n 0, 1) := by decide +kernel
theorem dX5_put_1 : decode cX5_put 1 = .ok (.ifnull 17, 3) := by decide +kernel
theorem dX5_put_4 : decode cX5_put 4 = .ok (.iload_n 1, 1) := by decide +kernel
theorem dX5_put_5 : decode cX5_put 5 = .ok (.ifCond .lt 13, 3) := by decide +kernel
theorem dX5_put_8 : decode cX5_put 8 = .ok (.iload_n 1, 1) := by decide +kernel
theorem dX5_put_9 : decode cX5_put 9 = .ok (.aload_n 0, 1) := by decide +kernel
theorem dX5_put_10 : decode cX5_put 10 = .ok (.arraylength, 1) := by decide +kernel
theorem dX5_put_11 : decode cX5_put 11 = .ok (.if_icmp .ge 7, 3) := by decide +kernel
theorem dX5_put_14 : decode cX5_put 14 = .ok (.aload_n 0, 1) := by decide +kernel
theorem dX5_put_15 : decode cX5_put 15 = .ok (.iload_n 1, 1) := by decide +kernel
theorem dX5_put_16 : decode cX5_put 16 = .ok (.iload_n 2, 1) := by decide +kernel
theorem dX5_put_17 : decode cX5_put 17 = .ok (.iastore, 1) := by decide +kernel
theorem dX5_put_18 : decode cX5_put 18 = .ok (.return_, 1) := by decide +kernel
abbrev rm_X5_put : Room := { frames := 0, cells := 0, slots := 0, locals := 0 }
def f_X5_put (k0 : Nat) (S : St) (x1 : Int32) (x2 : Int32) : Option (St) :=
  if x1 < 0 then (some S) else (if (Int32.ofNat (wk_n wd_C k0)) ≤ x1 then (some S) else (chk (ib x1 (wk_n wd_C k0)) (lt_v (up_A S k0 (upd (st_A S k0) x1.toNatClampNeg x2)) (fun (S3 : St) => some S3))))
set_option maxRecDepth 100000 in
set_option maxHeartbeats 4000000 in
theorem k_X5_put (l : Launch) (g : GG) (hg : gd wd_C g) (k0 : Nat) (hk0 : k0 ∈ gg_as g) (S : St) (x1 : Int32) (x2 : Int32) (q : St) (hf : f_X5_put k0 S x1 x2 = some q) : Met l yX5_put (Cond.code yX5_put cX5_put 3 none :: gw_tbl) rm_X5_put (va_Pc [.ref (gg_a g k0), .int x1, .int x2] (wI wd_C g S)) (qc_v wd_C g q) 0 0 (aw g) := by
  refine mt_start (own := RX5) hg (by decide) rfl (Nat.le_of_ble_eq_true rfl) (fun p e s m args below meth c ls H locs cx hw hr hlk hl => ?_)
  have hx := cx.1
  have hb := cx.2.1
  have hown := cx.2.2.2.1
  have hts := cx.2.2.2.2.1
  have hl : lv_has ls 3 [(0, .ref (gg_a g k0)), (1, .int x1), (2, .int x2)] := hl
  replace hf := h_top hf
  unfold f_X5_put at hf
  refine lv_aload_n hx hb dX5_put_0 rfl (lv_at hl 0 rfl) ?_
  refine lv_ifnull hx hb dX5_put_1 ?_
  refine lv_iload_n hx hb dX5_put_4 rfl (lv_at hl 1 rfl) ?_
  refine lv_if_lt hx hb dX5_put_5 (tgt := 18) rfl (fun hc1 => ?_) (fun hc1 => ?_)
  · replace hf := h_pos hc1 hf
    exact r_vret cx hw hr hlk hf dX5_put_18
  replace hf := h_neg hc1 hf
  refine lv_iload_n hx hb dX5_put_8 rfl (lv_at hl 1 rfl) ?_
  refine lv_aload_n hx hb dX5_put_9 rfl (lv_at hl 0 rfl) ?_
  refine r_alen cx hw hk0 dX5_put_10 ?_
  refine lv_icmp_ge hx hb dX5_put_11 (tgt := 18) rfl (fun hc2 => ?_) (fun hc2 => ?_)
  · replace hf := h_pos hc2 hf
    exact r_vret cx hw hr hlk hf dX5_put_18
  replace hf := h_neg hc2 hf
  refine lv_aload_n hx hb dX5_put_14 rfl (lv_at hl 0 rfl) ?_
  refine lv_iload_n hx hb dX5_put_15 rfl (lv_at hl 1 rfl) ?_
  refine lv_iload_n hx hb dX5_put_16 rfl (lv_at hl 2 rfl) ?_
  refine r_iast cx hw hk0 rfl rfl hf dX5_put_17 (fun S3 H locs hw hf => ?_)
  exact r_vret cx hw hr hlk hf dX5_put_18
theorem dX1_setVars_0 : decode cX1_setVars 0 = .ok (.aload_n 0, 1) := by decide +kernel
theorem dX1_setVars_1 : decode cX1_setVars 1 = .ok (.getfield 22, 3) := by decide +kernel
theorem dX1_setVars_4 : decode cX1_setVars 4 = .ok (.iconst 0, 1) := by decide +kernel
theorem dX1_setVars_5 : decode cX1_setVars 5 = .ok (.iload_n 1, 1) := by decide +kernel
theorem dX1_setVars_6 : decode cX1_setVars 6 = .ok (.invokestatic 33, 3) := by decide +kernel
theorem dX1_setVars_9 : decode cX1_setVars 9 = .ok (.aload_n 0, 1) := by decide +kernel
theorem dX1_setVars_10 : decode cX1_setVars 10 = .ok (.getfield 22, 3) := by decide +kernel
theorem dX1_setVars_13 : decode cX1_setVars 13 = .ok (.iconst 1, 1) := by decide +kernel
theorem dX1_setVars_14 : decode cX1_setVars 14 = .ok (.iload_n 2, 1) := by decide +kernel
theorem dX1_setVars_15 : decode cX1_setVars 15 = .ok (.invokestatic 33, 3) := by decide +kernel
theorem dX1_setVars_18 : decode cX1_setVars 18 = .ok (.aload_n 0, 1) := by decide +kernel
theorem dX1_setVars_19 : decode cX1_setVars 19 = .ok (.getfield 22, 3) := by decide +kernel
theorem dX1_setVars_22 : decode cX1_setVars 22 = .ok (.iconst 2, 1) := by decide +kernel
theorem dX1_setVars_23 : decode cX1_setVars 23 = .ok (.iload_n 3, 1) := by decide +kernel
theorem dX1_setVars_24 : decode cX1_setVars 24 = .ok (.invokestatic 33, 3) := by decide +kernel
theorem dX1_setVars_27 : decode cX1_setVars 27 = .ok (.aload_n 0, 1) := by decide +kernel
theorem dX1_setVars_28 : decode cX1_setVars 28 = .ok (.getfield 22, 3) := by decide +kernel
theorem dX1_setVars_31 : decode cX1_setVars 31 = .ok (.iconst 3, 1) := by decide +kernel
theorem dX1_setVars_32 : decode cX1_setVars 32 = .ok (.iload 4, 2) := by decide +kernel
theorem dX1_setVars_34 : decode cX1_setVars 34 = .ok (.invokestatic 33, 3) := by decide +kernel
theorem dX1_setVars_37 : decode cX1_setVars 37 = .ok (.aload_n 0, 1) := by decide +kernel
theorem dX1_setVars_38 : decode cX1_setVars 38 = .ok (.getfield 22, 3) := by decide +kernel
theorem dX1_setVars_41 : decode cX1_setVars 41 = .ok (.iconst 4, 1) := by decide +kernel
theorem dX1_setVars_42 : decode cX1_setVars 42 = .ok (.iload 5, 2) := by decide +kernel
theorem dX1_setVars_44 : decode cX1_setVars 44 = .ok (.invokestatic 33, 3) := by decide +kernel
theorem dX1_setVars_47 : decode cX1_setVars 47 = .ok (.aload_n 0, 1) := by decide +kernel
theorem dX1_setVars_48 : decode cX1_setVars 48 = .ok (.getfield 22, 3) := by decide +kernel
theorem dX1_setVars_51 : decode cX1_setVars 51 = .ok (.iconst 5, 1) := by decide +kernel
theorem dX1_setVars_52 : decode cX1_setVars 52 = .ok (.iload 6, 2) := by decide +kernel
theorem dX1_setVars_54 : decode cX1_setVars 54 = .ok (.invokestatic 33, 3) := by decide +kernel
theorem dX1_setVars_57 : decode cX1_setVars 57 = .ok (.return_, 1) := by decide +kernel
abbrev rm_X1_setVars : Room := { frames := 1, cells := 0, slots := 0, locals := 22 }
def f_X1_setVars (k0 : Nat) (S : St) (x1 : Int32) (x2 : Int32) (x3 : Int32) (x4 : Int32) (x5 : Int32) (x6 : Int32) : Option (St) :=
  (f_X5_put (ky k0 6) S (0 : Int32) x1).bind (fun (q1 : St) => (f_X5_put (ky k0 6) q1 (1 : Int32) x2).bind (fun (q2 : St) => (f_X5_put (ky k0 6) q2 (2 : Int32) x3).bind (fun (q3 : St) => (f_X5_put (ky k0 6) q3 (3 : Int32) x4).bind (fun (q4 : St) => (f_X5_put (ky k0 6) q4 (4 : Int32) x5).bind (fun (q5 : St) => (f_X5_put (ky k0 6) q5 (5 : Int32) x6).bind (fun (q6 : St) => some q6))))))
set_option maxRecDepth 100000 in
set_option maxHeartbeats 4000000 in
theorem k_X1_setVars (l : Launch) (g : GG) (hg : gd wd_C g) (k0 : Nat) (hk0 : hs wd_C g k0 1) (S : St) (x1 : Int32) (x2 : Int32) (x3 : Int32) (x4 : Int32) (x5 : Int32) (x6 : Int32) (q : St) (hf : f_X1_setVars k0 S x1 x2 x3 x4 x5 x6 = some q) : Met l yX1_setVars (Cond.code yX1_setVars cX1_setVars 7 none :: gw_tbl) rm_X1_setVars (va_Pc [.ref (gg_o g k0), .int x1, .int x2, .int x3, .int x4, .int x5, .int x6] (wI wd_C g S)) (qc_v wd_C g q) 0 0 (aw g) := by
  refine mt_start (own := RX1) hg (by decide) rfl (Nat.le_of_ble_eq_true rfl) (fun p e s m args below meth c ls H locs cx hw hr hlk hl => ?_)
  have hx := cx.1
  have hb := cx.2.1
  have hown := cx.2.2.2.1
  have hts := cx.2.2.2.2.1
  have hl : lv_has ls 7 [(0, .ref (gg_o g k0)), (1, .int x1), (2, .int x2), (3, .int x3), (4, .int x4), (5, .int x5), (6, .int x6)] := hl
  replace hf := h_top hf
  unfold f_X1_setVars at hf
  refine lv_aload_n hx hb dX1_setVars_0 rfl (lv_at hl 0 rfl) ?_
  refine gf_X1_22 cx hw hk0 dX1_setVars_1 ?_
  refine lv_iconst (v := 0) hx hb dX1_setVars_4 (by decide) ?_
  refine lv_iload_n hx hb dX1_setVars_5 rfl (lv_at hl 1 rfl) ?_
  refine r_SN_v (As := [.ref (gg_a g (ky k0 6)), .int (0 : Int32), .int x1]) (rest := []) cx hw hf (nw_at cx) lk_X1_33 (fun q1 hq => k_X5_put l g hg (ky k0 6) (hk0.2.2.1 6 rfl) S (0 : Int32) x1 q1 hq) ⟨⟨rfl, rfl⟩, Nat.le_of_ble_eq_true rfl, Nat.le_of_ble_eq_true rfl⟩ rfl hl.1 rfl (Nat.le_of_ble_eq_true rfl) dX1_setVars_6 ⟨Nat.zero_le _, Nat.zero_le _⟩ (fun q1 H locs hw hf => ?_)
  refine lv_aload_n hx hb dX1_setVars_9 rfl (lv_at hl 0 rfl) ?_
  refine gf_X1_22 cx hw hk0 dX1_setVars_10 ?_
  refine lv_iconst (v := 1) hx hb dX1_setVars_13 (by decide) ?_
  refine lv_iload_n hx hb dX1_setVars_14 rfl (lv_at hl 2 rfl) ?_
  refine r_SN_v (As := [.ref (gg_a g (ky k0 6)), .int (1 : Int32), .int x2]) (rest := []) cx hw hf (nw_at cx) lk_X1_33 (fun q2 hq => k_X5_put l g hg (ky k0 6) (hk0.2.2.1 6 rfl) q1 (1 : Int32) x2 q2 hq) ⟨⟨rfl, rfl⟩, Nat.le_of_ble_eq_true rfl, Nat.le_of_ble_eq_true rfl⟩ rfl hl.1 rfl (Nat.le_of_ble_eq_true rfl) dX1_setVars_15 ⟨Nat.zero_le _, Nat.zero_le _⟩ (fun q2 H locs hw hf => ?_)
  refine lv_aload_n hx hb dX1_setVars_18 rfl (lv_at hl 0 rfl) ?_
  refine gf_X1_22 cx hw hk0 dX1_setVars_19 ?_
  refine lv_iconst (v := 2) hx hb dX1_setVars_22 (by decide) ?_
  refine lv_iload_n hx hb dX1_setVars_23 rfl (lv_at hl 3 rfl) ?_
  refine r_SN_v (As := [.ref (gg_a g (ky k0 6)), .int (2 : Int32), .int x3]) (rest := []) cx hw hf (nw_at cx) lk_X1_33 (fun q3 hq => k_X5_put l g hg (ky k0 6) (hk0.2.2.1 6 rfl) q2 (2 : Int32) x3 q3 hq) ⟨⟨rfl, rfl⟩, Nat.le_of_ble_eq_true rfl, Nat.le_of_ble_eq_true rfl⟩ rfl hl.1 rfl (Nat.le_of_ble_eq_true rfl) dX1_setVars_24 ⟨Nat.zero_le _, Nat.zero_le _⟩ (fun q3 H locs hw hf => ?_)
  refine lv_aload_n hx hb dX1_setVars_27 rfl (lv_at hl 0 rfl) ?_
  refine gf_X1_22 cx hw hk0 dX1_setVars_28 ?_
  refine lv_iconst (v := 3) hx hb dX1_setVars_31 (by decide) ?_
  refine lv_iload hx hb dX1_setVars_32 (lv_at hl 4 rfl) ?_
  refine r_SN_v (As := [.ref (gg_a g (ky k0 6)), .int (3 : Int32), .int x4]) (rest := []) cx hw hf (nw_at cx) lk_X1_33 (fun q4 hq => k_X5_put l g hg (ky k0 6) (hk0.2.2.1 6 rfl) q3 (3 : Int32) x4 q4 hq) ⟨⟨rfl, rfl⟩, Nat.le_of_ble_eq_true rfl, Nat.le_of_ble_eq_true rfl⟩ rfl hl.1 rfl (Nat.le_of_ble_eq_true rfl) dX1_setVars_34 ⟨Nat.zero_le _, Nat.zero_le _⟩ (fun q4 H locs hw hf => ?_)
  refine lv_aload_n hx hb dX1_setVars_37 rfl (lv_at hl 0 rfl) ?_
  refine gf_X1_22 cx hw hk0 dX1_setVars_38 ?_
  refine lv_iconst (v := 4) hx hb dX1_setVars_41 (by decide) ?_
  refine lv_iload hx hb dX1_setVars_42 (lv_at hl 5 rfl) ?_
  refine r_SN_v (As := [.ref (gg_a g (ky k0 6)), .int (4 : Int32), .int x5]) (rest := []) cx hw hf (nw_at cx) lk_X1_33 (fun q5 hq => k_X5_put l g hg (ky k0 6) (hk0.2.2.1 6 rfl) q4 (4 : Int32) x5 q5 hq) ⟨⟨rfl, rfl⟩, Nat.le_of_ble_eq_true rfl, Nat.le_of_ble_eq_true rfl⟩ rfl hl.1 rfl (Nat.le_of_ble_eq_true rfl) dX1_setVars_44 ⟨Nat.zero_le _, Nat.zero_le _⟩ (fun q5 H locs hw hf => ?_)
  refine lv_aload_n hx hb dX1_setVars_47 rfl (lv_at hl 0 rfl) ?_
  refine gf_X1_22 cx hw hk0 dX1_setVars_48 ?_
  refine lv_iconst (v := 5) hx hb dX1_setVars_51 (by decide) ?_
  refine lv_iload hx hb dX1_setVars_52 (lv_at hl 6 rfl) ?_
  refine r_SN_v (As := [.ref (gg_a g (ky k0 6)), .int (5 : Int32), .int x6]) (rest := []) cx hw hf (nw_at cx) lk_X1_33 (fun q6 hq => k_X5_put l g hg (ky k0 6) (hk0.2.2.1 6 rfl) q5 (5 : Int32) x6 q6 hq) ⟨⟨rfl, rfl⟩, Nat.le_of_ble_eq_true rfl, Nat.le_of_ble_eq_true rfl⟩ rfl hl.1 rfl (Nat.le_of_ble_eq_true rfl) dX1_setVars_54 ⟨Nat.zero_le _, Nat.zero_le _⟩ (fun q6 H locs hw hf => ?_)
  exact r_vret cx hw hr hlk hf dX1_setVars_57
theorem dX1_reckon_0 : decode cX1_reckon 0 = .ok (.iload_n 0, 1) := by decide +kernel
theorem dX1_reckon_1 : decode cX1_reckon 1 = .ok (.tableswitch 43 42 45 #[39, 31, 43, 35], 31) := by decide +kernel
theorem dX1_reckon_32 : decode cX1_reckon 32 = .ok (.iload_n 1, 1) := by decide +kernel
theorem dX1_reckon_33 : decode cX1_reckon 33 = .ok (.iload_n 2, 1) := by decide +kernel
theorem dX1_reckon_34 : decode cX1_reckon 34 = .ok (.iadd, 1) := by decide +kernel
theorem dX1_reckon_35 : decode cX1_reckon 35 = .ok (.ireturn, 1) := by decide +kernel
theorem dX1_reckon_36 : decode cX1_reckon 36 = .ok (.iload_n 1, 1) := by decide +kernel
theorem dX1_reckon_37 : decode cX1_reckon 37 = .ok (.iload_n 2, 1) := by decide +kernel
theorem dX1_reckon_38 : decode cX1_reckon 38 = .ok (.isub, 1) := by decide +kernel
theorem dX1_reckon_39 : decode cX1_reckon 39 = .ok (.ireturn, 1) := by decide +kernel
theorem dX1_reckon_40 : decode cX1_reckon 40 = .ok (.iload_n 1, 1) := by decide +kernel
theorem dX1_reckon_41 : decode cX1_reckon 41 = .ok (.iload_n 2, 1) := by decide +kernel
theorem dX1_reckon_42 : decode cX1_reckon 42 = .ok (.imul, 1) := by decide +kernel
theorem dX1_reckon_43 : decode cX1_reckon 43 = .ok (.ireturn, 1) := by decide +kernel
theorem dX1_reckon_44 : decode cX1_reckon 44 = .ok (.iload_n 2, 1) := by decide +kernel
theorem dX1_reckon_45 : decode cX1_reckon 45 = .ok (.ifCond .ne 7, 3) := by decide +kernel
theorem dX1_reckon_48 : decode cX1_reckon 48 = .ok (.iconst 0, 1) := by decide +kernel
theorem dX1_reckon_49 : decode cX1_reckon 49 = .ok (.goto 6, 3) := by decide +kernel
theorem dX1_reckon_52 : decode cX1_reckon 52 = .ok (.iload_n 1, 1) := by decide +kernel
theorem dX1_reckon_53 : decode cX1_reckon 53 = .ok (.iload_n 2, 1) := by decide +kernel
theorem dX1_reckon_54 : decode cX1_reckon 54 = .ok (.idiv, 1) := by decide +kernel
theorem dX1_reckon_55 : decode cX1_reckon 55 = .ok (.ireturn, 1) := by decide +kernel
abbrev rm_X1_reckon : Room := { frames := 0, cells := 0, slots := 0, locals := 0 }
def f_X1_reckon (x0 : Int32) (x1 : Int32) (x2 : Int32) : Option (Int32) :=
  if x0 = 42 then (some (x1 * x2)) else (if x0 = 43 then (some (x1 + x2)) else (if x0 = 45 then (some (x1 - x2)) else (if x2 = 0 then (some (0 : Int32)) else (chk (¬ x2 = 0) (some (x1 / x2))))))
set_option maxRecDepth 100000 in
set_option maxHeartbeats 4000000 in
theorem k_X1_reckon (l : Launch) (g : GG) (hg : gd wd_C g) (S : St) (x0 : Int32) (x1 : Int32) (x2 : Int32) (q : Int32) (hf : f_X1_reckon   x0 x1 x2 = some q) : Met l yX1_reckon (Cond.code yX1_reckon cX1_reckon 3 (some .int) :: gw_tbl) rm_X1_reckon (va_Pc [.int x0, .int x1, .int x2] (wI wd_C g S)) (qc_i wd_C g S q) 0 0 (aw g) := by
  refine mt_start (own := RX1) hg (by decide) rfl (Nat.le_of_ble_eq_true rfl) (fun p e s m args below meth c ls H locs cx hw hr hlk hl => ?_)
  have hx := cx.1
  have hb := cx.2.1
  have hown := cx.2.2.2.1
  have hts := cx.2.2.2.2.1
  have hl : lv_has ls 3 [(0, .int x0), (1, .int x1), (2, .int x2)] := hl
  replace hf := h_top hf
  unfold f_X1_reckon at hf
  refine lv_iload_n hx hb dX1_reckon_0 rfl (lv_at hl 0 rfl) ?_
  by_cases hc1_42 : x0 = 42
  · replace hf := h_pos hc1_42 hf
    refine lv_tableIn hx hb dX1_reckon_1 (by rw [hc1_42]; decide) (by rw [hc1_42]; decide) (off := 39) (by rw [hc1_42]; rfl) (tgt := 40) rfl ?_
    refine lv_iload_n hx hb dX1_reckon_40 rfl (lv_at hl 1 rfl) ?_
    refine lv_iload_n hx hb dX1_reckon_41 rfl (lv_at hl 2 rfl) ?_
    refine lv_imul hx hb dX1_reckon_42 ?_
    exact r_iret cx hw hr hlk hf dX1_reckon_43
  replace hf := h_neg hc1_42 hf
  by_cases hc1_43 : x0 = 43
  · replace hf := h_pos hc1_43 hf
    refine lv_tableIn hx hb dX1_reckon_1 (by rw [hc1_43]; decide) (by rw [hc1_43]; decide) (off := 31) (by rw [hc1_43]; rfl) (tgt := 32) rfl ?_
    refine lv_iload_n hx hb dX1_reckon_32 rfl (lv_at hl 1 rfl) ?_
    refine lv_iload_n hx hb dX1_reckon_33 rfl (lv_at hl 2 rfl) ?_
    refine lv_iadd hx hb dX1_reckon_34 ?_
    exact r_iret cx hw hr hlk hf dX1_reckon_35
  replace hf := h_neg hc1_43 hf
  by_cases hc1_45 : x0 = 45
  · replace hf := h_pos hc1_45 hf
    refine lv_tableIn hx hb dX1_reckon_1 (by rw [hc1_45]; decide) (by rw [hc1_45]; decide) (off := 35) (by rw [hc1_45]; rfl) (tgt := 36) rfl ?_
    refine lv_iload_n hx hb dX1_reckon_36 rfl (lv_at hl 1 rfl) ?_
    refine lv_iload_n hx hb dX1_reckon_37 rfl (lv_at hl 2 rfl) ?_
    refine lv_isub hx hb dX1_reckon_38 ?_
    exact r_iret cx hw hr hlk hf dX1_reckon_39
  replace hf := h_neg hc1_45 hf
  have hD1 : W p l e rm_X1_reckon s m args below meth c H locs 0 0 (MQ below (qc_i wd_C g S q) args s 0 0 (aw g)) (F0 m 44 ls []) := by
    refine lv_iload_n hx hb dX1_reckon_44 rfl (lv_at hl 2 rfl) ?_
    refine lv_if_ne hx hb dX1_reckon_45 (tgt := 52) rfl (fun hc2 => ?_) (fun hc2 => ?_)
    · replace hf := h_neg hc2 hf
      refine lv_iload_n hx hb dX1_reckon_52 rfl (lv_at hl 1 rfl) ?_
      refine lv_iload_n hx hb dX1_reckon_53 rfl (lv_at hl 2 rfl) ?_
      obtain ⟨hc3, hf⟩ := h_chk hf
      refine lv_idiv hx hb dX1_reckon_54 hc3 ?_
      exact r_iret cx hw hr hlk hf dX1_reckon_55
    replace hf := h_pos hc2 hf
    refine lv_iconst (v := 0) hx hb dX1_reckon_48 (by decide) ?_
    refine lv_goto hx hb dX1_reckon_49 (tgt := 55) rfl ?_
    exact r_iret cx hw hr hlk hf dX1_reckon_55
  by_cases hc1_44 : x0 = 44
  · exact lv_tableIn hx hb dX1_reckon_1 (by rw [hc1_44]; decide) (by rw [hc1_44]; decide) (off := 43) (by rw [hc1_44]; rfl) (tgt := 44) rfl hD1
  refine lv_tableOut hx hb dX1_reckon_1 (ts_out (lo := 42) (hi := 45) (by decide) (by decide) (fun i h1 h2 => ?_)) (tgt := 44) rfl hD1
  rcases (show i = 42 ∨ i = 43 ∨ i = 44 ∨ i = 45 by omega) with rfl | rfl | rfl | rfl
  · exact hc1_42
  · exact hc1_43
  · exact hc1_44
  · exact hc1_45
theorem dX1_valueOf_0 : decode cX1_valueOf 0 = .ok (.iconst 0, 1) := by decide +kernel
theorem dX1_valueOf_1 : decode cX1_valueOf 1 = .ok (.istore_n 2, 1) := by decide +kernel
theorem dX1_valueOf_2 : decode cX1_valueOf 2 = .ok (.iload_n 1, 1) := by decide +kernel
theorem dX1_valueOf_3 : decode cX1_valueOf 3 = .ok (.istore_n 3, 1) := by decide +kernel
theorem dX1_valueOf_4 : decode cX1_valueOf 4 = .ok (.iload_n 3, 1) := by decide +kernel
theorem dX1_valueOf_5 : decode cX1_valueOf 5 = .ok (.aload_n 0, 1) := by decide +kernel
theorem dX1_valueOf_6 : decode cX1_valueOf 6 = .ok (.getfield 25, 3) := by decide +kernel
theorem dX1_valueOf_9 : decode cX1_valueOf 9 = .ok (.if_icmp .ge 182, 3) := by decide +kernel
theorem dX1_valueOf_12 : decode cX1_valueOf 12 = .ok (.aload_n 0, 1) := by decide +kernel
theorem dX1_valueOf_13 : decode cX1_valueOf 13 = .ok (.getfield 9, 3) := by decide +kernel
theorem dX1_valueOf_16 : decode cX1_valueOf 16 = .ok (.iload_n 3, 1) := by decide +kernel
theorem dX1_valueOf_17 : decode cX1_valueOf 17 = .ok (.invokestatic 48, 3) := by decide +kernel
theorem dX1_valueOf_20 : decode cX1_valueOf 20 = .ok (.istore 4, 2) := by decide +kernel
theorem dX1_valueOf_22 : decode cX1_valueOf 22 = .ok (.aload_n 0, 1) := by decide +kernel
theorem dX1_valueOf_23 : decode cX1_valueOf 23 = .ok (.getfield 13, 3) := by decide +kernel
theorem dX1_valueOf_26 : decode cX1_valueOf 26 = .ok (.iload_n 3, 1) := by decide +kernel
theorem dX1_valueOf_27 : decode cX1_valueOf 27 = .ok (.invokestatic 48, 3) := by decide +kernel
theorem dX1_valueOf_30 : decode cX1_valueOf 30 = .ok (.istore 5, 2) := by decide +kernel
theorem dX1_valueOf_32 : decode cX1_valueOf 32 = .ok (.iload 4, 2) := by decide +kernel
theorem dX1_valueOf_34 : decode cX1_valueOf 34 = .ok (.iconst 3, 1) := by decide +kernel
theorem dX1_valueOf_35 : decode cX1_valueOf 35 = .ok (.if_icmp .ne 14, 3) := by decide +kernel
theorem dX1_valueOf_38 : decode cX1_valueOf 38 = .ok (.aload_n 0, 1) := by decide +kernel
theorem dX1_valueOf_39 : decode cX1_valueOf 39 = .ok (.getfield 19, 3) := by decide +kernel
theorem dX1_valueOf_42 : decode cX1_valueOf 42 = .ok (.iload_n 2, 1) := by decide +kernel
theorem dX1_valueOf_43 : decode cX1_valueOf 43 = .ok (.iconst 1, 1) := by decide +kernel
theorem dX1_valueOf_44 : decode cX1_valueOf 44 = .ok (.isub, 1) := by decide +kernel
theorem dX1_valueOf_45 : decode cX1_valueOf 45 = .ok (.invokestatic 48, 3) := by decide +kernel
theorem dX1_valueOf_48 : decode cX1_valueOf 48 = .ok (.ireturn, 1) := by decide +kernel
theorem dX1_valueOf_49 : decode cX1_valueOf 49 = .ok (.iload 4, 2) := by decide +kernel
theorem dX1_valueOf_51 : decode cX1_valueOf 51 = .ok (.ifCond .eq 9, 3) := by decide +kernel
theorem dX1_valueOf_54 : decode cX1_valueOf 54 = .ok (.iload 4, 2) := by decide +kernel
theorem dX1_valueOf_56 : decode cX1_valueOf 56 = .ok (.iconst 1, 1) := by decide +kernel
theorem dX1_valueOf_57 : decode cX1_valueOf 57 = .ok (.if_icmp .ne 36, 3) := by decide +kernel
theorem dX1_valueOf_60 : decode cX1_valueOf 60 = .ok (.aload_n 0, 1) := by decide +kernel
theorem dX1_valueOf_61 : decode cX1_valueOf 61 = .ok (.getfield 19, 3) := by decide +kernel
theorem dX1_valueOf_64 : decode cX1_valueOf 64 = .ok (.iload_n 2, 1) := by decide +kernel
theorem dX1_valueOf_65 : decode cX1_valueOf 65 = .ok (.iload 4, 2) := by decide +kernel
theorem dX1_valueOf_67 : decode cX1_valueOf 67 = .ok (.ifCond .ne 8, 3) := by decide +kernel
theorem dX1_valueOf_70 : decode cX1_valueOf 70 = .ok (.iload 5, 2) := by decide +kernel
theorem dX1_valueOf_72 : decode cX1_valueOf 72 = .ok (.goto 12, 3) := by decide +kernel
theorem dX1_valueOf_75 : decode cX1_valueOf 75 = .ok (.aload_n 0, 1) := by decide +kernel
theorem dX1_valueOf_76 : decode cX1_valueOf 76 = .ok (.getfield 22, 3) := by decide +kernel
theorem dX1_valueOf_79 : decode cX1_valueOf 79 = .ok (.iload 5, 2) := by decide +kernel
theorem dX1_valueOf_81 : decode cX1_valueOf 81 = .ok (.invokestatic 48, 3) := by decide +kernel
theorem dX1_valueOf_84 : decode cX1_valueOf 84 = .ok (.invokestatic 33, 3) := by decide +kernel
theorem dX1_valueOf_87 : decode cX1_valueOf 87 = .ok (.iinc 2 1, 3) := by decide +kernel
theorem dX1_valueOf_90 : decode cX1_valueOf 90 = .ok (.goto 95, 3) := by decide +kernel
theorem dX1_valueOf_93 : decode cX1_valueOf 93 = .ok (.aload_n 0, 1) := by decide +kernel
theorem dX1_valueOf_94 : decode cX1_valueOf 94 = .ok (.getfield 19, 3) := by decide +kernel
theorem dX1_valueOf_97 : decode cX1_valueOf 97 = .ok (.iload_n 2, 1) := by decide +kernel
theorem dX1_valueOf_98 : decode cX1_valueOf 98 = .ok (.iconst 1, 1) := by decide +kernel
theorem dX1_valueOf_99 : decode cX1_valueOf 99 = .ok (.isub, 1) := by decide +kernel
theorem dX1_valueOf_100 : decode cX1_valueOf 100 = .ok (.invokestatic 48, 3) := by decide +kernel
theorem dX1_valueOf_103 : decode cX1_valueOf 103 = .ok (.istore 6, 2) := by decide +kernel
theorem dX1_valueOf_105 : decode cX1_valueOf 105 = .ok (.aload_n 0, 1) := by decide +kernel
theorem dX1_valueOf_106 : decode cX1_valueOf 106 = .ok (.getfield 19, 3) := by decide +kernel
theorem dX1_valueOf_109 : decode cX1_valueOf 109 = .ok (.iload_n 2, 1) := by decide +kernel
theorem dX1_valueOf_110 : decode cX1_valueOf 110 = .ok (.iconst 2, 1) := by decide +kernel
theorem dX1_valueOf_111 : decode cX1_valueOf 111 = .ok (.isub, 1) := by decide +kernel
theorem dX1_valueOf_112 : decode cX1_valueOf 112 = .ok (.invokestatic 48, 3) := by decide +kernel
theorem dX1_valueOf_115 : decode cX1_valueOf 115 = .ok (.istore 7, 2) := by decide +kernel
theorem dX1_valueOf_117 : decode cX1_valueOf 117 = .ok (.iload 4, 2) := by decide +kernel
theorem dX1_valueOf_119 : decode cX1_valueOf 119 = .ok (.iconst 2, 1) := by decide +kernel
theorem dX1_valueOf_120 : decode cX1_valueOf 120 = .ok (.if_icmp .ne 29, 3) := by decide +kernel
theorem dX1_valueOf_123 : decode cX1_valueOf 123 = .ok (.iinc 2 (-2), 3) := by decide +kernel
theorem dX1_valueOf_126 : decode cX1_valueOf 126 = .ok (.iload 7, 2) := by decide +kernel
theorem dX1_valueOf_128 : decode cX1_valueOf 128 = .ok (.iload 6, 2) := by decide +kernel
theorem dX1_valueOf_130 : decode cX1_valueOf 130 = .ok (.if_icmp .ge 7, 3) := by decide +kernel
theorem dX1_valueOf_133 : decode cX1_valueOf 133 = .ok (.iload_n 3, 1) := by decide +kernel
theorem dX1_valueOf_134 : decode cX1_valueOf 134 = .ok (.goto 11, 3) := by decide +kernel
theorem dX1_valueOf_137 : decode cX1_valueOf 137 = .ok (.iload_n 3, 1) := by decide +kernel
theorem dX1_valueOf_138 : decode cX1_valueOf 138 = .ok (.iload 5, 2) := by decide +kernel
theorem dX1_valueOf_140 : decode cX1_valueOf 140 = .ok (.iconst 1, 1) := by decide +kernel
theorem dX1_valueOf_141 : decode cX1_valueOf 141 = .ok (.isub, 1) := by decide +kernel
theorem dX1_valueOf_142 : decode cX1_valueOf 142 = .ok (.invokestatic 79, 3) := by decide +kernel
theorem dX1_valueOf_145 : decode cX1_valueOf 145 = .ok (.istore_n 3, 1) := by decide +kernel
theorem dX1_valueOf_146 : decode cX1_valueOf 146 = .ok (.goto 39, 3) := by decide +kernel
theorem dX1_valueOf_149 : decode cX1_valueOf 149 = .ok (.iload 4, 2) := by decide +kernel
theorem dX1_valueOf_151 : decode cX1_valueOf 151 = .ok (.bipush 47, 2) := by decide +kernel
theorem dX1_valueOf_153 : decode cX1_valueOf 153 = .ok (.if_icmp .ne 10, 3) := by decide +kernel
theorem dX1_valueOf_156 : decode cX1_valueOf 156 = .ok (.iload 6, 2) := by decide +kernel
theorem dX1_valueOf_158 : decode cX1_valueOf 158 = .ok (.ifCond .ne 5, 3) := by decide +kernel
theorem dX1_valueOf_161 : decode cX1_valueOf 161 = .ok (.iconst 0, 1) := by decide +kernel
theorem dX1_valueOf_162 : decode cX1_valueOf 162 = .ok (.ireturn, 1) := by decide +kernel
theorem dX1_valueOf_163 : decode cX1_valueOf 163 = .ok (.iinc 2 (-1), 3) := by decide +kernel
theorem dX1_valueOf_166 : decode cX1_valueOf 166 = .ok (.aload_n 0, 1) := by decide +kernel
theorem dX1_valueOf_167 : decode cX1_valueOf 167 = .ok (.getfield 19, 3) := by decide +kernel
theorem dX1_valueOf_170 : decode cX1_valueOf 170 = .ok (.iload_n 2, 1) := by decide +kernel
theorem dX1_valueOf_171 : decode cX1_valueOf 171 = .ok (.iconst 1, 1) := by decide +kernel
theorem dX1_valueOf_172 : decode cX1_valueOf 172 = .ok (.isub, 1) := by decide +kernel
theorem dX1_valueOf_173 : decode cX1_valueOf 173 = .ok (.iload 4, 2) := by decide +kernel
theorem dX1_valueOf_175 : decode cX1_valueOf 175 = .ok (.iload 7, 2) := by decide +kernel
theorem dX1_valueOf_177 : decode cX1_valueOf 177 = .ok (.iload 6, 2) := by decide +kernel
theorem dX1_valueOf_179 : decode cX1_valueOf 179 = .ok (.invokestatic 84, 3) := by decide +kernel
theorem dX1_valueOf_182 : decode cX1_valueOf 182 = .ok (.invokestatic 33, 3) := by decide +kernel
theorem dX1_valueOf_185 : decode cX1_valueOf 185 = .ok (.iinc 3 1, 3) := by decide +kernel
theorem dX1_valueOf_188 : decode cX1_valueOf 188 = .ok (.goto (-184), 3) := by decide +kernel
theorem dX1_valueOf_191 : decode cX1_valueOf 191 = .ok (.iconst 0, 1) := by decide +kernel
theorem dX1_valueOf_192 : decode cX1_valueOf 192 = .ok (.ireturn, 1) := by decide +kernel
abbrev rm_X1_valueOf : Room := { frames := 1, cells := 0, slots := 0, locals := 30 }
def f_X1_valueOf_J84 (k0 : Nat) (S : St) (x2 : Int32) (x3 : Int32) (y0 : Int32) (y1 : Int32) : Option ((Int32 × Int32 × St) ⊕ ((Int32 × St) ⊕ (Int32 × St))) :=
  (f_X5_put (ky k0 5) S y1 y0).bind (fun (q8 : St) => some (.inl ((x2 + 1), (x3 + 1), q8)))
def f_X1_valueOf_J60 (k0 : Nat) (S : St) (x2 : Int32) (x3 : Int32) (x4 : Int32) (x5 : Int32) : Option ((Int32 × Int32 × St) ⊕ ((Int32 × St) ⊕ (Int32 × St))) :=
  if x4 = 0 then (f_X1_valueOf_J84 k0 S x2 x3 x5 x2) else ((f_X5_at (ky k0 6) S x5).bind (fun (q7 : Int32) => f_X1_valueOf_J84 k0 S x2 x3 q7 x2))
def f_X1_valueOf_J163 (k0 : Nat) (S : St) (x2 : Int32) (x3 : Int32) (x4 : Int32) (x6 : Int32) (x7 : Int32) : Option ((Int32 × Int32 × St) ⊕ ((Int32 × St) ⊕ (Int32 × St))) :=
  (f_X1_reckon   x4 x7 x6).bind (fun (q14 : Int32) => (f_X5_put (ky k0 5) S ((x2 + (-1)) - (1 : Int32)) q14).bind (fun (q15 : St) => some (.inl ((x2 + (-1)), (x3 + 1), q15))))
def f_X1_valueOf_L4 (k0 : Nat)  (z4 : Int32 × Int32 × St) : Option ((Int32 × Int32 × St) ⊕ ((Int32 × St) ⊕ (Int32 × St))) :=
  if (st_I z4.2.2 (ky k0 2)) ≤ z4.2.1 then (some (.inr (.inr ((0 : Int32), z4.2.2)))) else ((f_X5_at (ky k0 0) z4.2.2 z4.2.1).bind (fun (q2 : Int32) => (f_X5_at (ky k0 1) z4.2.2 z4.2.1).bind (fun (q3 : Int32) => if q2 = (3 : Int32) then (some (.inr (.inl (z4.1, z4.2.2)))) else (if q2 = 0 then (f_X1_valueOf_J60 k0 z4.2.2 z4.1 z4.2.1 q2 q3) else (if q2 = (1 : Int32) then (f_X1_valueOf_J60 k0 z4.2.2 z4.1 z4.2.1 q2 q3) else ((f_X5_at (ky k0 5) z4.2.2 (z4.1 - (1 : Int32))).bind (fun (q10 : Int32) => (f_X5_at (ky k0 5) z4.2.2 (z4.1 - (2 : Int32))).bind (fun (q11 : Int32) => if q2 = (2 : Int32) then (if q10 ≤ q11 then (some (.inl ((z4.1 + (-2)), ((i_max z4.2.1 (q3 - (1 : Int32))) + 1), z4.2.2))) else (some (.inl ((z4.1 + (-2)), (z4.2.1 + 1), z4.2.2)))) else (if q2 = (47 : Int32) then (if q10 = 0 then (some (.inr (.inr ((0 : Int32), z4.2.2)))) else (f_X1_valueOf_J163 k0 z4.2.2 z4.1 z4.2.1 q2 q10 q11)) else (f_X1_valueOf_J163 k0 z4.2.2 z4.1 z4.2.1 q2 q10 q11))))))))))
def f_X1_valueOf (k0 : Nat) (S : St) (x1 : Int32) : Option (Int32 × St) :=
  (iter (f_X1_valueOf_L4 k0  ) FU ((0 : Int32), x1, S)).bind fun z => match z with | .inl z => (fun (z21 : Int32 × St) => (fun (e18 : Int32) (S19 : St) => (f_X5_at (ky k0 5) S19 (e18 - (1 : Int32))).bind (fun (q20 : Int32) => some (q20, S19))) z21.1 z21.2) z | .inr v22 => some v22
set_option maxRecDepth 100000 in
set_option maxHeartbeats 4000000 in
theorem k_X1_valueOf (l : Launch) (g : GG) (hg : gd wd_C g) (k0 : Nat) (hk0 : hs wd_C g k0 1) (S : St) (x1 : Int32) (q : Int32 × St) (hf : f_X1_valueOf k0 S x1 = some q) : Met l yX1_valueOf (Cond.code yX1_valueOf cX1_valueOf 8 (some .int) :: gw_tbl) rm_X1_valueOf (va_Pc [.ref (gg_o g k0), .int x1] (wI wd_C g S)) (qc_w wd_C g q) 0 0 (aw g) := by
  refine mt_start (own := RX1) hg (by decide) rfl (Nat.le_of_ble_eq_true rfl) (fun p e s m args below meth c ls H locs cx hw hr hlk hl => ?_)
  have hx := cx.1
  have hb := cx.2.1
  have hown := cx.2.2.2.1
  have hts := cx.2.2.2.2.1
  have hl : lv_has ls 8 [(0, .ref (gg_o g k0)), (1, .int x1)] := hl
  replace hf := h_top hf
  unfold f_X1_valueOf at hf
  refine lv_iconst (v := 0) hx hb dX1_valueOf_0 (by decide) ?_
  refine lv_istore_n hx hb dX1_valueOf_1 rfl hl (by decide) (lv' := [(2, .int (0 : Int32)), (0, .ref (gg_o g k0)), (1, .int x1)]) rfl (fun ls hl => ?_)
  refine lv_iload_n hx hb dX1_valueOf_2 rfl (lv_at hl 2 rfl) ?_
  refine lv_istore_n hx hb dX1_valueOf_3 rfl hl (by decide) (lv' := [(3, .int x1), (2, .int (0 : Int32)), (0, .ref (gg_o g k0)), (1, .int x1)]) rfl (fun ls hl => ?_)
  have L4 : ∀  (aft4 : ((Int32 × St) ⊕ (Int32 × St)) → Option (Int32 × St)), (∀ (ls : Array Slot) (H : Heap) (locs : List Loc) (e2 : Int32) (S1 : St), lv_has ls 8 [(0, .ref (gg_o g k0)), (2, .int e2)] → HH wd_C g s S1 H locs → aft4 (.inl (e2, S1)) = some q → W p l e rm_X1_valueOf s m args below meth c H locs 0 0 (MQ below (qc_w wd_C g q) args s 0 0 (aw g)) (F0 m 38 ls [])) → (∀ v : Int32 × St, aft4 (.inr v) = some q → (some v : Option (Int32 × St)).bind some = some q) → ∀ (n4 : Nat) (ls : Array Slot) (H : Heap) (locs : List Loc) (z4 : Int32 × Int32 × St), lv_has ls 8 [(0, .ref (gg_o g k0)), (2, .int z4.1), (3, .int z4.2.1)] → HH wd_C g s z4.2.2 H locs → (iter (f_X1_valueOf_L4 k0  ) n4 z4).bind aft4 = some q → W p l e rm_X1_valueOf s m args below meth c H locs 0 0 (MQ below (qc_w wd_C g q) args s 0 0 (aw g)) (F0 m 4 ls []) := by
    intro aft4 hX4 hR4 n4
    induction n4 with
    | zero => intro ls H locs z4 hl hw hf; exact h_iter0 hf
    | succ n4 ih4 =>
      intro ls H locs z4 hl hw hf
      replace hf := h_iter hf
      unfold f_X1_valueOf_L4 at hf
      have J84 : ∀ (ls : Array Slot) (H : Heap) (locs : List Loc) (S : St) (x2 : Int32) (x3 : Int32) (y0 : Int32) (y1 : Int32), lv_has ls 8 [(0, .ref (gg_o g k0)), (2, .int x2), (3, .int x3)] → HH wd_C g s S H locs → (f_X1_valueOf_J84 k0 S x2 x3 y0 y1).bind (it_K (f_X1_valueOf_L4 k0  ) n4 aft4) = some q → W p l e rm_X1_valueOf s m args below meth c H locs 0 0 (MQ below (qc_w wd_C g q) args s 0 0 (aw g)) (F0 m 84 ls [.int y0, .int y1, .ref (gg_a g (ky k0 5))]) := by
        intro ls H locs S x2 x3 y0 y1 hl hw hf
        unfold f_X1_valueOf_J84 at hf
        refine r_SN_v (As := [.ref (gg_a g (ky k0 5)), .int y1, .int y0]) (rest := []) cx hw hf (nw_at cx) lk_X1_33 (fun q8 hq => k_X5_put l g hg (ky k0 5) (hk0.2.2.1 5 rfl) S y1 y0 q8 hq) ⟨⟨rfl, rfl⟩, Nat.le_of_ble_eq_true rfl, Nat.le_of_ble_eq_true rfl⟩ rfl hl.1 rfl (Nat.le_of_ble_eq_true rfl) dX1_valueOf_84 ⟨Nat.zero_le _, Nat.zero_le _⟩ (fun q8 H locs hw hf => ?_)
        refine lv_iinc hx hb dX1_valueOf_87 hl (k := 1) rfl (congrArg (HAdd.hAdd _) (show Int32.ofInt (1) = 1 by decide)) (by decide) (lv' := [(2, .int (x2 + 1)), (0, .ref (gg_o g k0)), (3, .int x3)]) rfl (fun ls hl => ?_)
        refine lv_goto hx hb dX1_valueOf_90 (tgt := 185) rfl ?_
        refine lv_iinc hx hb dX1_valueOf_185 hl (k := 2) rfl (congrArg (HAdd.hAdd _) (show Int32.ofInt (1) = 1 by decide)) (by decide) (lv' := [(3, .int (x3 + 1)), (2, .int (x2 + 1)), (0, .ref (gg_o g k0))]) rfl (fun ls hl => ?_)
        refine lv_goto hx hb dX1_valueOf_188 (tgt := 4) rfl ?_
        exact ih4 _ _ _ ((x2 + 1), (x3 + 1), q8) (lv_sub hl [2, 1, 0] rfl) hw hf
      have J60 : ∀ (ls : Array Slot) (H : Heap) (locs : List Loc) (S : St) (x2 : Int32) (x3 : Int32) (x4 : Int32) (x5 : Int32), lv_has ls 8 [(0, .ref (gg_o g k0)), (2, .int x2), (3, .int x3), (4, .int x4), (5, .int x5)] → HH wd_C g s S H locs → (f_X1_valueOf_J60 k0 S x2 x3 x4 x5).bind (it_K (f_X1_valueOf_L4 k0  ) n4 aft4) = some q → W p l e rm_X1_valueOf s m args below meth c H locs 0 0 (MQ below (qc_w wd_C g q) args s 0 0 (aw g)) (F0 m 60 ls []) := by
        intro ls H locs S x2 x3 x4 x5 hl hw hf
        unfold f_X1_valueOf_J60 at hf
        refine lv_aload_n hx hb dX1_valueOf_60 rfl (lv_at hl 0 rfl) ?_
        refine gf_X1_19 cx hw hk0 dX1_valueOf_61 ?_
        refine lv_iload_n hx hb dX1_valueOf_64 rfl (lv_at hl 1 rfl) ?_
        refine lv_iload hx hb dX1_valueOf_65 (lv_at hl 3 rfl) ?_
        refine lv_if_ne hx hb dX1_valueOf_67 (tgt := 75) rfl (fun hc6 => ?_) (fun hc6 => ?_)
        · replace hf := h_neg hc6 hf
          refine lv_aload_n hx hb dX1_valueOf_75 rfl (lv_at hl 0 rfl) ?_
          refine gf_X1_22 cx hw hk0 dX1_valueOf_76 ?_
          refine lv_iload hx hb dX1_valueOf_79 (lv_at hl 4 rfl) ?_
          refine r_SN_i (As := [.ref (gg_a g (ky k0 6)), .int x5]) (rest := [.int x2, .ref (gg_a g (ky k0 5))]) cx hw hf (nw_at cx) lk_X1_48 (fun q7 hq => k_X5_at l g hg (ky k0 6) (hk0.2.2.1 6 rfl) S x5 q7 hq) ⟨⟨rfl, rfl⟩, Nat.le_of_ble_eq_true rfl, Nat.le_of_ble_eq_true rfl⟩ rfl hl.1 rfl (Nat.le_of_ble_eq_true rfl) dX1_valueOf_81 ⟨Nat.zero_le _, Nat.zero_le _⟩ (fun q7 H locs hw hf => ?_)
          exact J84 _ _ _ S x2 x3 q7 x2 (lv_sub hl [0, 1, 2] rfl) hw hf
        replace hf := h_pos hc6 hf
        refine lv_iload hx hb dX1_valueOf_70 (lv_at hl 4 rfl) ?_
        refine lv_goto hx hb dX1_valueOf_72 (tgt := 84) rfl ?_
        exact J84 _ _ _ S x2 x3 x5 x2 (lv_sub hl [0, 1, 2] rfl) hw hf
      have J163 : ∀ (ls : Array Slot) (H : Heap) (locs : List Loc) (S : St) (x2 : Int32) (x3 : Int32) (x4 : Int32) (x6 : Int32) (x7 : Int32), lv_has ls 8 [(0, .ref (gg_o g k0)), (2, .int x2), (3, .int x3), (4, .int x4), (6, .int x6), (7, .int x7)] → HH wd_C g s S H locs → (f_X1_valueOf_J163 k0 S x2 x3 x4 x6 x7).bind (it_K (f_X1_valueOf_L4 k0  ) n4 aft4) = some q → W p l e rm_X1_valueOf s m args below meth c H locs 0 0 (MQ below (qc_w wd_C g q) args s 0 0 (aw g)) (F0 m 163 ls []) := by
        intro ls H locs S x2 x3 x4 x6 x7 hl hw hf
        unfold f_X1_valueOf_J163 at hf
        refine lv_iinc hx hb dX1_valueOf_163 hl (k := 1) rfl (congrArg (HAdd.hAdd _) (show Int32.ofInt (-1) = -1 by decide)) (by decide) (lv' := [(2, .int (x2 + (-1))), (0, .ref (gg_o g k0)), (3, .int x3), (4, .int x4), (6, .int x6), (7, .int x7)]) rfl (fun ls hl => ?_)
        refine lv_aload_n hx hb dX1_valueOf_166 rfl (lv_at hl 1 rfl) ?_
        refine gf_X1_19 cx hw hk0 dX1_valueOf_167 ?_
        refine lv_iload_n hx hb dX1_valueOf_170 rfl (lv_at hl 0 rfl) ?_
        refine lv_iconst (v := 1) hx hb dX1_valueOf_171 (by decide) ?_
        refine lv_isub hx hb dX1_valueOf_172 ?_
        refine lv_iload hx hb dX1_valueOf_173 (lv_at hl 3 rfl) ?_
        refine lv_iload hx hb dX1_valueOf_175 (lv_at hl 5 rfl) ?_
        refine lv_iload hx hb dX1_valueOf_177 (lv_at hl 4 rfl) ?_
        refine r_S_i (As := [.int x4, .int x7, .int x6]) (rest := [.int ((x2 + (-1)) - (1 : Int32)), .ref (gg_a g (ky k0 5))]) cx hw hf lk_X1_84 (fun q14 hq => k_X1_reckon l g hg   S x4 x7 x6 q14 hq) ⟨⟨rfl, rfl⟩, Nat.le_of_ble_eq_true rfl, Nat.le_of_ble_eq_true rfl⟩ rfl hl.1 rfl (Nat.le_of_ble_eq_true rfl) dX1_valueOf_179 ⟨Nat.zero_le _, Nat.zero_le _⟩ (fun q14 H locs hw hf => ?_)
        refine r_SN_v (As := [.ref (gg_a g (ky k0 5)), .int ((x2 + (-1)) - (1 : Int32)), .int q14]) (rest := []) cx hw hf (nw_at cx) lk_X1_33 (fun q15 hq => k_X5_put l g hg (ky k0 5) (hk0.2.2.1 5 rfl) S ((x2 + (-1)) - (1 : Int32)) q14 q15 hq) ⟨⟨rfl, rfl⟩, Nat.le_of_ble_eq_true rfl, Nat.le_of_ble_eq_true rfl⟩ rfl hl.1 rfl (Nat.le_of_ble_eq_true rfl) dX1_valueOf_182 ⟨Nat.zero_le _, Nat.zero_le _⟩ (fun q15 H locs hw hf => ?_)
        refine lv_iinc hx hb dX1_valueOf_185 hl (k := 2) rfl (congrArg (HAdd.hAdd _) (show Int32.ofInt (1) = 1 by decide)) (by decide) (lv' := [(3, .int (x3 + 1)), (2, .int (x2 + (-1))), (0, .ref (gg_o g k0)), (4, .int x4), (6, .int x6), (7, .int x7)]) rfl (fun ls hl => ?_)
        refine lv_goto hx hb dX1_valueOf_188 (tgt := 4) rfl ?_
        exact ih4 _ _ _ ((x2 + (-1)), (x3 + 1), q15) (lv_sub hl [2, 1, 0] rfl) hw hf
      refine lv_iload_n hx hb dX1_valueOf_4 rfl (lv_at hl 2 rfl) ?_
      refine lv_aload_n hx hb dX1_valueOf_5 rfl (lv_at hl 0 rfl) ?_
      refine gf_X1_25 cx hw hk0 dX1_valueOf_6 ?_
      refine lv_icmp_ge hx hb dX1_valueOf_9 (tgt := 191) rfl (fun hc1 => ?_) (fun hc1 => ?_)
      · replace hf := h_pos hc1 hf
        refine lv_iconst (v := 0) hx hb dX1_valueOf_191 (by decide) ?_
        replace hf := hR4 ((0 : Int32), z4.2.2) hf
        exact r_iretw cx hw hr hlk hf dX1_valueOf_192
      replace hf := h_neg hc1 hf
      refine lv_aload_n hx hb dX1_valueOf_12 rfl (lv_at hl 0 rfl) ?_
      refine gf_X1_9 cx hw hk0 dX1_valueOf_13 ?_
      refine lv_iload_n hx hb dX1_valueOf_16 rfl (lv_at hl 2 rfl) ?_
      refine r_SN_i (As := [.ref (gg_a g (ky k0 0)), .int z4.2.1]) (rest := []) cx hw hf (nw_at cx) lk_X1_48 (fun q2 hq => k_X5_at l g hg (ky k0 0) (hk0.2.2.1 0 rfl) z4.2.2 z4.2.1 q2 hq) ⟨⟨rfl, rfl⟩, Nat.le_of_ble_eq_true rfl, Nat.le_of_ble_eq_true rfl⟩ rfl hl.1 rfl (Nat.le_of_ble_eq_true rfl) dX1_valueOf_17 ⟨Nat.zero_le _, Nat.zero_le _⟩ (fun q2 H locs hw hf => ?_)
      refine lv_istore hx hb dX1_valueOf_20 hl (by decide) (lv' := [(4, .int q2), (0, .ref (gg_o g k0)), (2, .int z4.1), (3, .int z4.2.1)]) rfl (fun ls hl => ?_)
      refine lv_aload_n hx hb dX1_valueOf_22 rfl (lv_at hl 1 rfl) ?_
      refine gf_X1_13 cx hw hk0 dX1_valueOf_23 ?_
      refine lv_iload_n hx hb dX1_valueOf_26 rfl (lv_at hl 3 rfl) ?_
      refine r_SN_i (As := [.ref (gg_a g (ky k0 1)), .int z4.2.1]) (rest := []) cx hw hf (nw_at cx) lk_X1_48 (fun q3 hq => k_X5_at l g hg (ky k0 1) (hk0.2.2.1 1 rfl) z4.2.2 z4.2.1 q3 hq) ⟨⟨rfl, rfl⟩, Nat.le_of_ble_eq_true rfl, Nat.le_of_ble_eq_true rfl⟩ rfl hl.1 rfl (Nat.le_of_ble_eq_true rfl) dX1_valueOf_27 ⟨Nat.zero_le _, Nat.zero_le _⟩ (fun q3 H locs hw hf => ?_)
      refine lv_istore hx hb dX1_valueOf_30 hl (by decide) (lv' := [(5, .int q3), (4, .int q2), (0, .ref (gg_o g k0)), (2, .int z4.1), (3, .int z4.2.1)]) rfl (fun ls hl => ?_)
      refine lv_iload hx hb dX1_valueOf_32 (lv_at hl 1 rfl) ?_
      refine lv_iconst (v := 3) hx hb dX1_valueOf_34 (by decide) ?_
      refine lv_icmp_ne hx hb dX1_valueOf_35 (tgt := 49) rfl (fun hc4 => ?_) (fun hc4 => ?_)
      · replace hf := h_neg hc4 hf
        refine lv_iload hx hb dX1_valueOf_49 (lv_at hl 1 rfl) ?_
        refine lv_if_eq hx hb dX1_valueOf_51 (tgt := 60) rfl (fun hc5 => ?_) (fun hc5 => ?_)
        · replace hf := h_pos hc5 hf
          exact J60 _ _ _ z4.2.2 z4.1 z4.2.1 q2 q3 (lv_sub hl [2, 3, 4, 1, 0] rfl) hw hf
        replace hf := h_neg hc5 hf
        refine lv_iload hx hb dX1_valueOf_54 (lv_at hl 1 rfl) ?_
        refine lv_iconst (v := 1) hx hb dX1_valueOf_56 (by decide) ?_
        refine lv_icmp_ne hx hb dX1_valueOf_57 (tgt := 93) rfl (fun hc9 => ?_) (fun hc9 => ?_)
        · replace hf := h_neg hc9 hf
          refine lv_aload_n hx hb dX1_valueOf_93 rfl (lv_at hl 2 rfl) ?_
          refine gf_X1_19 cx hw hk0 dX1_valueOf_94 ?_
          refine lv_iload_n hx hb dX1_valueOf_97 rfl (lv_at hl 3 rfl) ?_
          refine lv_iconst (v := 1) hx hb dX1_valueOf_98 (by decide) ?_
          refine lv_isub hx hb dX1_valueOf_99 ?_
          refine r_SN_i (As := [.ref (gg_a g (ky k0 5)), .int (z4.1 - (1 : Int32))]) (rest := []) cx hw hf (nw_at cx) lk_X1_48 (fun q10 hq => k_X5_at l g hg (ky k0 5) (hk0.2.2.1 5 rfl) z4.2.2 (z4.1 - (1 : Int32)) q10 hq) ⟨⟨rfl, rfl⟩, Nat.le_of_ble_eq_true rfl, Nat.le_of_ble_eq_true rfl⟩ rfl hl.1 rfl (Nat.le_of_ble_eq_true rfl) dX1_valueOf_100 ⟨Nat.zero_le _, Nat.zero_le _⟩ (fun q10 H locs hw hf => ?_)
          refine lv_istore hx hb dX1_valueOf_103 hl (by decide) (lv' := [(6, .int q10), (5, .int q3), (4, .int q2), (0, .ref (gg_o g k0)), (2, .int z4.1), (3, .int z4.2.1)]) rfl (fun ls hl => ?_)
          refine lv_aload_n hx hb dX1_valueOf_105 rfl (lv_at hl 3 rfl) ?_
          refine gf_X1_19 cx hw hk0 dX1_valueOf_106 ?_
          refine lv_iload_n hx hb dX1_valueOf_109 rfl (lv_at hl 4 rfl) ?_
          refine lv_iconst (v := 2) hx hb dX1_valueOf_110 (by decide) ?_
          refine lv_isub hx hb dX1_valueOf_111 ?_
          refine r_SN_i (As := [.ref (gg_a g (ky k0 5)), .int (z4.1 - (2 : Int32))]) (rest := []) cx hw hf (nw_at cx) lk_X1_48 (fun q11 hq => k_X5_at l g hg (ky k0 5) (hk0.2.2.1 5 rfl) z4.2.2 (z4.1 - (2 : Int32)) q11 hq) ⟨⟨rfl, rfl⟩, Nat.le_of_ble_eq_true rfl, Nat.le_of_ble_eq_true rfl⟩ rfl hl.1 rfl (Nat.le_of_ble_eq_true rfl) dX1_valueOf_112 ⟨Nat.zero_le _, Nat.zero_le _⟩ (fun q11 H locs hw hf => ?_)
          refine lv_istore hx hb dX1_valueOf_115 hl (by decide) (lv' := [(7, .int q11), (6, .int q10), (5, .int q3), (4, .int q2), (0, .ref (gg_o g k0)), (2, .int z4.1), (3, .int z4.2.1)]) rfl (fun ls hl => ?_)
          refine lv_iload hx hb dX1_valueOf_117 (lv_at hl 3 rfl) ?_
          refine lv_iconst (v := 2) hx hb dX1_valueOf_119 (by decide) ?_
          refine lv_icmp_ne hx hb dX1_valueOf_120 (tgt := 149) rfl (fun hc12 => ?_) (fun hc12 => ?_)
          · replace hf := h_neg hc12 hf
            refine lv_iload hx hb dX1_valueOf_149 (lv_at hl 3 rfl) ?_
            refine lv_bipush (v := 47) hx hb dX1_valueOf_151 (by decide) ?_
            refine lv_icmp_ne hx hb dX1_valueOf_153 (tgt := 163) rfl (fun hc13 => ?_) (fun hc13 => ?_)
            · replace hf := h_neg hc13 hf
              exact J163 _ _ _ z4.2.2 z4.1 z4.2.1 q2 q10 q11 (lv_sub hl [4, 5, 6, 3, 1, 0] rfl) hw hf
            replace hf := h_pos hc13 hf
            refine lv_iload hx hb dX1_valueOf_156 (lv_at hl 1 rfl) ?_
            refine lv_if_ne hx hb dX1_valueOf_158 (tgt := 163) rfl (fun hc16 => ?_) (fun hc16 => ?_)
            · replace hf := h_neg hc16 hf
              exact J163 _ _ _ z4.2.2 z4.1 z4.2.1 q2 q10 q11 (lv_sub hl [4, 5, 6, 3, 1, 0] rfl) hw hf
            replace hf := h_pos hc16 hf
            refine lv_iconst (v := 0) hx hb dX1_valueOf_161 (by decide) ?_
            replace hf := hR4 ((0 : Int32), z4.2.2) hf
            exact r_iretw cx hw hr hlk hf dX1_valueOf_162
          replace hf := h_pos hc12 hf
          refine lv_iinc hx hb dX1_valueOf_123 hl (k := 5) rfl (congrArg (HAdd.hAdd _) (show Int32.ofInt (-2) = -2 by decide)) (by decide) (lv' := [(2, .int (z4.1 + (-2))), (7, .int q11), (6, .int q10), (5, .int q3), (4, .int q2), (0, .ref (gg_o g k0)), (3, .int z4.2.1)]) rfl (fun ls hl => ?_)
          refine lv_iload hx hb dX1_valueOf_126 (lv_at hl 1 rfl) ?_
          refine lv_iload hx hb dX1_valueOf_128 (lv_at hl 2 rfl) ?_
          refine lv_icmp_ge hx hb dX1_valueOf_130 (tgt := 137) rfl (fun hc17 => ?_) (fun hc17 => ?_)
          · replace hf := h_pos hc17 hf
            refine lv_iload_n hx hb dX1_valueOf_137 rfl (lv_at hl 6 rfl) ?_
            refine lv_iload hx hb dX1_valueOf_138 (lv_at hl 3 rfl) ?_
            refine lv_iconst (v := 1) hx hb dX1_valueOf_140 (by decide) ?_
            refine lv_isub hx hb dX1_valueOf_141 ?_
            refine va_mmax hx hb (cx.2.2.1.trans hl.1.symm) hown (hts _ wd_339) (hts _ wd_85) (hts _ wd_7) (hts _ wd_86) (Nat.le_of_ble_eq_true rfl) (Nat.le_of_ble_eq_true rfl) (Nat.zero_le _) (Nat.zero_le _) dX1_valueOf_142 ?_
            refine lv_istore_n hx hb dX1_valueOf_145 rfl hl (by decide) (lv' := [(3, .int (i_max z4.2.1 (q3 - (1 : Int32)))), (2, .int (z4.1 + (-2))), (7, .int q11), (6, .int q10), (5, .int q3), (4, .int q2), (0, .ref (gg_o g k0))]) rfl (fun ls hl => ?_)
            refine lv_goto hx hb dX1_valueOf_146 (tgt := 185) rfl ?_
            refine lv_iinc hx hb dX1_valueOf_185 hl (k := 0) rfl (congrArg (HAdd.hAdd _) (show Int32.ofInt (1) = 1 by decide)) (by decide) (lv' := [(3, .int ((i_max z4.2.1 (q3 - (1 : Int32))) + 1)), (2, .int (z4.1 + (-2))), (7, .int q11), (6, .int q10), (5, .int q3), (4, .int q2), (0, .ref (gg_o g k0))]) rfl (fun ls hl => ?_)
            refine lv_goto hx hb dX1_valueOf_188 (tgt := 4) rfl ?_
            exact ih4 _ _ _ ((z4.1 + (-2)), ((i_max z4.2.1 (q3 - (1 : Int32))) + 1), z4.2.2) (lv_sub hl [6, 1, 0] rfl) hw hf
          replace hf := h_neg hc17 hf
          refine lv_iload_n hx hb dX1_valueOf_133 rfl (lv_at hl 6 rfl) ?_
          refine lv_goto hx hb dX1_valueOf_134 (tgt := 145) rfl ?_
          refine lv_istore_n hx hb dX1_valueOf_145 rfl hl (by decide) (lv' := [(3, .int z4.2.1), (2, .int (z4.1 + (-2))), (7, .int q11), (6, .int q10), (5, .int q3), (4, .int q2), (0, .ref (gg_o g k0))]) rfl (fun ls hl => ?_)
          refine lv_goto hx hb dX1_valueOf_146 (tgt := 185) rfl ?_
          refine lv_iinc hx hb dX1_valueOf_185 hl (k := 0) rfl (congrArg (HAdd.hAdd _) (show Int32.ofInt (1) = 1 by decide)) (by decide) (lv' := [(3, .int (z4.2.1 + 1)), (2, .int (z4.1 + (-2))), (7, .int q11), (6, .int q10), (5, .int q3), (4, .int q2), (0, .ref (gg_o g k0))]) rfl (fun ls hl => ?_)
          refine lv_goto hx hb dX1_valueOf_188 (tgt := 4) rfl ?_
          exact ih4 _ _ _ ((z4.1 + (-2)), (z4.2.1 + 1), z4.2.2) (lv_sub hl [6, 1, 0] rfl) hw hf
        replace hf := h_pos hc9 hf
        exact J60 _ _ _ z4.2.2 z4.1 z4.2.1 q2 q3 (lv_sub hl [2, 3, 4, 1, 0] rfl) hw hf
      replace hf := h_pos hc4 hf
      exact hX4 _ _ _ z4.1 z4.2.2 (lv_sub hl [2, 3] rfl) hw hf
  refine L4 _ (fun ls H locs e18 S19 hl hw hf => ?_) (fun v h => h) FU _ _ _ ((0 : Int32), x1, S) (lv_sub hl [2, 1, 0] rfl) hw (h_assoc hf)
  try dsimp only at hf
  refine lv_aload_n hx hb dX1_valueOf_38 rfl (lv_at hl 0 rfl) ?_
  refine gf_X1_19 cx hw hk0 dX1_valueOf_39 ?_
  refine lv_iload_n hx hb dX1_valueOf_42 rfl (lv_at hl 1 rfl) ?_
  refine lv_iconst (v := 1) hx hb dX1_valueOf_43 (by decide) ?_
  refine lv_isub hx hb dX1_valueOf_44 ?_
  refine r_SN_i (As := [.ref (gg_a g (ky k0 5)), .int (e18 - (1 : Int32))]) (rest := []) cx hw hf (nw_at cx) lk_X1_48 (fun q20 hq => k_X5_at l g hg (ky k0 5) (hk0.2.2.1 5 rfl) S19 (e18 - (1 : Int32)) q20 hq) ⟨⟨rfl, rfl⟩, Nat.le_of_ble_eq_true rfl, Nat.le_of_ble_eq_true rfl⟩ rfl hl.1 rfl (Nat.le_of_ble_eq_true rfl) dX1_valueOf_45 ⟨Nat.zero_le _, Nat.zero_le _⟩ (fun q20 H locs hw hf => ?_)
  exact r_iretw cx hw hr hlk hf dX1_valueOf_48
theorem dX0_lateWith_0 : decode cX0_lateWith 0 = .ok (.aload_n 0, 1) := by decide +kernel
theorem dX0_lateWith_1 : decode cX0_lateWith 1 = .ok (.iload_n 1, 1) := by decide +kernel
theorem dX0_lateWith_2 : decode cX0_lateWith 2 = .ok (.aload_n 0, 1) := by decide +kernel
theorem dX0_lateWith_3 : decode cX0_lateWith 3 = .ok (.getfield 41, 3) := by decide +kernel
theorem dX0_lateWith_6 : decode cX0_lateWith 6 = .ok (.invokevirtual 95, 3) := by decide +kernel
theorem dX0_lateWith_9 : decode cX0_lateWith 9 = .ok (.istore_n 3, 1) := by decide +kernel
theorem dX0_lateWith_10 : decode cX0_lateWith 10 = .ok (.aload_n 0, 1) := by decide +kernel
theorem dX0_lateWith_11 : decode cX0_lateWith 11 = .ok (.iload_n 3, 1) := by decide +kernel
theorem dX0_lateWith_12 : decode cX0_lateWith 12 = .ok (.aload_n 0, 1) := by decide +kernel
theorem dX0_lateWith_13 : decode cX0_lateWith 13 = .ok (.getfield 41, 3) := by decide +kernel
theorem dX0_lateWith_16 : decode cX0_lateWith 16 = .ok (.invokevirtual 98, 3) := by decide +kernel
theorem dX0_lateWith_19 : decode cX0_lateWith 19 = .ok (.invokestatic 114, 3) := by decide +kernel
theorem dX0_lateWith_22 : decode cX0_lateWith 22 = .ok (.istore 4, 2) := by decide +kernel
theorem dX0_lateWith_24 : decode cX0_lateWith 24 = .ok (.aload_n 0, 1) := by decide +kernel
theorem dX0_lateWith_25 : decode cX0_lateWith 25 = .ok (.getfield 33, 3) := by decide +kernel
theorem dX0_lateWith_28 : decode cX0_lateWith 28 = .ok (.getfield 119, 3) := by decide +kernel
theorem dX0_lateWith_31 : decode cX0_lateWith 31 = .ok (.aload_n 0, 1) := by decide +kernel
theorem dX0_lateWith_32 : decode cX0_lateWith 32 = .ok (.getfield 41, 3) := by decide +kernel
theorem dX0_lateWith_35 : decode cX0_lateWith 35 = .ok (.iload_n 3, 1) := by decide +kernel
theorem dX0_lateWith_36 : decode cX0_lateWith 36 = .ok (.iload_n 2, 1) := by decide +kernel
theorem dX0_lateWith_37 : decode cX0_lateWith 37 = .ok (.iload_n 1, 1) := by decide +kernel
theorem dX0_lateWith_38 : decode cX0_lateWith 38 = .ok (.aload_n 0, 1) := by decide +kernel
theorem dX0_lateWith_39 : decode cX0_lateWith 39 = .ok (.getfield 33, 3) := by decide +kernel
theorem dX0_lateWith_42 : decode cX0_lateWith 42 = .ok (.iload_n 3, 1) := by decide +kernel
theorem dX0_lateWith_43 : decode cX0_lateWith 43 = .ok (.invokevirtual 123, 3) := by decide +kernel
theorem dX0_lateWith_46 : decode cX0_lateWith 46 = .ok (.iload 4, 2) := by decide +kernel
theorem dX0_lateWith_48 : decode cX0_lateWith 48 = .ok (.invokevirtual 126, 3) := by decide +kernel
theorem dX0_lateWith_51 : decode cX0_lateWith 51 = .ok (.aload_n 0, 1) := by decide +kernel
theorem dX0_lateWith_52 : decode cX0_lateWith 52 = .ok (.getfield 33, 3) := by decide +kernel
theorem dX0_lateWith_55 : decode cX0_lateWith 55 = .ok (.getfield 119, 3) := by decide +kernel
theorem dX0_lateWith_58 : decode cX0_lateWith 58 = .ok (.aload_n 0, 1) := by decide +kernel
theorem dX0_lateWith_59 : decode cX0_lateWith 59 = .ok (.getfield 33, 3) := by decide +kernel
theorem dX0_lateWith_62 : decode cX0_lateWith 62 = .ok (.getfield 132, 3) := by decide +kernel
theorem dX0_lateWith_65 : decode cX0_lateWith 65 = .ok (.invokevirtual 135, 3) := by decide +kernel
theorem dX0_lateWith_68 : decode cX0_lateWith 68 = .ok (.istore 5, 2) := by decide +kernel
theorem dX0_lateWith_70 : decode cX0_lateWith 70 = .ok (.iconst 0, 1) := by decide +kernel
theorem dX0_lateWith_71 : decode cX0_lateWith 71 = .ok (.iload 5, 2) := by decide +kernel
theorem dX0_lateWith_73 : decode cX0_lateWith 73 = .ok (.sipush 240, 3) := by decide +kernel
theorem dX0_lateWith_76 : decode cX0_lateWith 76 = .ok (.invokestatic 138, 3) := by decide +kernel
theorem dX0_lateWith_79 : decode cX0_lateWith 79 = .ok (.invokestatic 143, 3) := by decide +kernel
theorem dX0_lateWith_82 : decode cX0_lateWith 82 = .ok (.ireturn, 1) := by decide +kernel
abbrev rm_X0_lateWith : Room := { frames := 2, cells := 0, slots := 0, locals := 57 }
def f_X0_lateWith (k0 : Nat) (S : St) (x1 : Int32) (x2 : Int32) : Option (Int32 × St) :=
  (f_X0_hangOf k0 S x1 (st_I S (ky k0 1))).bind (fun (q1 : Int32) => (f_X0_menIn k0 S q1 (st_I S (ky k0 1))).bind (fun (q2 : Int32) => (f_J6_bitCount_0f7a4   q2).bind (fun (q3 : Int32) => chk (isT (st_P S (ky k0 0))) (chk (isT (st_P S (ky k0 0))) ((f_X4_waysOf (st_P S (ky k0 0)) S q1).bind (fun (q6 : Int32) => (f_X1_setVars ((st_P S (ky k0 0)) + 2) S (st_I S (ky k0 1)) q1 x2 x1 q6 q3).bind (fun (q7 : St) => chk (isT (st_P q7 (ky k0 0))) (chk (isT (st_P q7 (ky k0 0))) ((f_X1_valueOf ((st_P q7 (ky k0 0)) + 2) q7 (st_I q7 (ky (st_P q7 (ky k0 0)) 6))).bind (fun (q10 : Int32 × St) => some ((i_max (0 : Int32) (i_min q10.1 (240 : Int32))), q10.2)))))))))))
set_option maxRecDepth 100000 in
set_option maxHeartbeats 4000000 in
theorem k_X0_lateWith (l : Launch) (g : GG) (hg : gd wd_C g) (k0 : Nat) (hk0 : hs wd_C g k0 0) (hA : allT g) (S : St) (x1 : Int32) (x2 : Int32) (q : Int32 × St) (hf : f_X0_lateWith k0 S x1 x2 = some q) : Met l yX0_lateWith (Cond.code yX0_lateWith cX0_lateWith 6 (some .int) :: gw_tbl) rm_X0_lateWith (va_Pc [.ref (gg_o g k0), .int x1, .int x2] (wI wd_C g S)) (qc_w wd_C g q) 0 0 (aw g) := by
  refine mt_start (own := RX0) hg (by decide) rfl (Nat.le_of_ble_eq_true rfl) (fun p e s m args below meth c ls H locs cx hw hr hlk hl => ?_)
  have hx := cx.1
  have hb := cx.2.1
  have hown := cx.2.2.2.1
  have hts := cx.2.2.2.2.1
  have hl : lv_has ls 6 [(0, .ref (gg_o g k0)), (1, .int x1), (2, .int x2)] := hl
  replace hf := h_top hf
  unfold f_X0_lateWith at hf
  refine lv_aload_n hx hb dX0_lateWith_0 rfl (lv_at hl 0 rfl) ?_
  refine lv_iload_n hx hb dX0_lateWith_1 rfl (lv_at hl 1 rfl) ?_
  refine lv_aload_n hx hb dX0_lateWith_2 rfl (lv_at hl 0 rfl) ?_
  refine gf_X0_41 cx hw hk0 dX0_lateWith_3 ?_
  refine r_V_i (As := [.int x1, .int (st_I S (ky k0 1))]) (rest := []) cx hw hf hk0.2.1 (by rw [hk0.1]; rfl) lk_X0_95 (fun q1 hq => k_X0_hangOf l g hg k0 hk0 hA S x1 (st_I S (ky k0 1)) q1 hq) ⟨⟨rfl, rfl⟩, Nat.le_of_ble_eq_true rfl, Nat.le_of_ble_eq_true rfl⟩ rfl hl.1 rfl (Nat.le_of_ble_eq_true rfl) dX0_lateWith_6 ⟨Nat.zero_le _, Nat.zero_le _⟩ (fun q1 H locs hw hf => ?_)
  refine lv_istore_n hx hb dX0_lateWith_9 rfl hl (by decide) (lv' := [(3, .int q1), (0, .ref (gg_o g k0)), (1, .int x1), (2, .int x2)]) rfl (fun ls hl => ?_)
  refine lv_aload_n hx hb dX0_lateWith_10 rfl (lv_at hl 1 rfl) ?_
  refine lv_iload_n hx hb dX0_lateWith_11 rfl (lv_at hl 0 rfl) ?_
  refine lv_aload_n hx hb dX0_lateWith_12 rfl (lv_at hl 1 rfl) ?_
  refine gf_X0_41 cx hw hk0 dX0_lateWith_13 ?_
  refine r_V_i (As := [.int q1, .int (st_I S (ky k0 1))]) (rest := []) cx hw hf hk0.2.1 (by rw [hk0.1]; rfl) lk_X0_98 (fun q2 hq => k_X0_menIn l g hg k0 hk0 hA S q1 (st_I S (ky k0 1)) q2 hq) ⟨⟨rfl, rfl⟩, Nat.le_of_ble_eq_true rfl, Nat.le_of_ble_eq_true rfl⟩ rfl hl.1 rfl (Nat.le_of_ble_eq_true rfl) dX0_lateWith_16 ⟨Nat.zero_le _, Nat.zero_le _⟩ (fun q2 H locs hw hf => ?_)
  refine r_S_i (As := [.int q2]) (rest := []) cx hw hf lk_X0_114 (fun q3 hq => k_J6_bitCount_0f7a4 l wd_C g hg   S q2 q3 hq) ⟨⟨rfl, rfl⟩, Nat.le_of_ble_eq_true rfl, Nat.le_of_ble_eq_true rfl⟩ rfl hl.1 rfl (Nat.le_of_ble_eq_true rfl) dX0_lateWith_19 ⟨Nat.zero_le _, Nat.zero_le _⟩ (fun q3 H locs hw hf => ?_)
  refine lv_istore hx hb dX0_lateWith_22 hl (by decide) (lv' := [(4, .int q3), (3, .int q1), (0, .ref (gg_o g k0)), (1, .int x1), (2, .int x2)]) rfl (fun ls hl => ?_)
  refine lv_aload_n hx hb dX0_lateWith_24 rfl (lv_at hl 2 rfl) ?_
  obtain ⟨hc4, hf⟩ := h_chk hf
  refine gf_X0_33 cx hw hk0 dX0_lateWith_25 ?_
  refine gf_X0_119 cx hw ((allT_at hA hc4).1) dX0_lateWith_28 ?_
  refine lv_aload_n hx hb dX0_lateWith_31 rfl (lv_at hl 2 rfl) ?_
  refine gf_X0_41 cx hw hk0 dX0_lateWith_32 ?_
  refine lv_iload_n hx hb dX0_lateWith_35 rfl (lv_at hl 1 rfl) ?_
  refine lv_iload_n hx hb dX0_lateWith_36 rfl (lv_at hl 4 rfl) ?_
  refine lv_iload_n hx hb dX0_lateWith_37 rfl (lv_at hl 3 rfl) ?_
  refine lv_aload_n hx hb dX0_lateWith_38 rfl (lv_at hl 2 rfl) ?_
  obtain ⟨hc5, hf⟩ := h_chk hf
  refine gf_X0_33 cx hw hk0 dX0_lateWith_39 ?_
  refine lv_iload_n hx hb dX0_lateWith_42 rfl (lv_at hl 1 rfl) ?_
  refine r_VN_i (As := [.int q1]) (rest := [.int x1, .int x2, .int q1, .int (st_I S (ky k0 1)), .ref (gg_o g ((st_P S (ky k0 0)) + 2))]) cx hw hf (nw_at cx) ((allT_at hA hc5).1).2.1 (by rw [((allT_at hA hc5).1).1]; rfl) lk_X0_123 (fun q6 hq => k_X4_waysOf l g hg (st_P S (ky k0 0)) (allT_at hA hc5) S q1 q6 hq) ⟨⟨rfl, rfl⟩, Nat.le_of_ble_eq_true rfl, Nat.le_of_ble_eq_true rfl⟩ rfl hl.1 rfl (Nat.le_of_ble_eq_true rfl) dX0_lateWith_43 ⟨Nat.zero_le _, Nat.zero_le _⟩ (fun q6 H locs hw hf => ?_)
  refine lv_iload hx hb dX0_lateWith_46 (lv_at hl 0 rfl) ?_
  refine r_VN_v (As := [.int (st_I S (ky k0 1)), .int q1, .int x2, .int x1, .int q6, .int q3]) (rest := []) cx hw hf (nw_at cx) ((allT_at hA hc4).2).2.1 (by rw [((allT_at hA hc4).2).1]; rfl) lk_X0_126 (fun q7 hq => k_X1_setVars l g hg ((st_P S (ky k0 0)) + 2) ((allT_at hA hc4).2) S (st_I S (ky k0 1)) q1 x2 x1 q6 q3 q7 hq) ⟨⟨rfl, rfl⟩, Nat.le_of_ble_eq_true rfl, Nat.le_of_ble_eq_true rfl⟩ rfl hl.1 rfl (Nat.le_of_ble_eq_true rfl) dX0_lateWith_48 ⟨Nat.zero_le _, Nat.zero_le _⟩ (fun q7 H locs hw hf => ?_)
  refine lv_aload_n hx hb dX0_lateWith_51 rfl (lv_at hl 2 rfl) ?_
  obtain ⟨hc8, hf⟩ := h_chk hf
  refine gf_X0_33 cx hw hk0 dX0_lateWith_52 ?_
  refine gf_X0_119 cx hw ((allT_at hA hc8).1) dX0_lateWith_55 ?_
  refine lv_aload_n hx hb dX0_lateWith_58 rfl (lv_at hl 2 rfl) ?_
  obtain ⟨hc9, hf⟩ := h_chk hf
  refine gf_X0_33 cx hw hk0 dX0_lateWith_59 ?_
  refine gf_X0_132 cx hw ((allT_at hA hc9).1) dX0_lateWith_62 ?_
  refine r_VN_w (As := [.int (st_I q7 (ky (st_P q7 (ky k0 0)) 6))]) (rest := []) cx hw hf (nw_at cx) ((allT_at hA hc8).2).2.1 (by rw [((allT_at hA hc8).2).1]; rfl) lk_X0_135 (fun q10 hq => k_X1_valueOf l g hg ((st_P q7 (ky k0 0)) + 2) ((allT_at hA hc8).2) q7 (st_I q7 (ky (st_P q7 (ky k0 0)) 6)) q10 hq) ⟨⟨rfl, rfl⟩, Nat.le_of_ble_eq_true rfl, Nat.le_of_ble_eq_true rfl⟩ rfl hl.1 rfl (Nat.le_of_ble_eq_true rfl) dX0_lateWith_65 ⟨Nat.zero_le _, Nat.zero_le _⟩ (fun q10 H locs hw hf => ?_)
  refine lv_istore hx hb dX0_lateWith_68 hl (by decide) (lv' := [(5, .int q10.1), (4, .int q3), (3, .int q1), (0, .ref (gg_o g k0)), (1, .int x1), (2, .int x2)]) rfl (fun ls hl => ?_)
  refine lv_iconst (v := 0) hx hb dX0_lateWith_70 (by decide) ?_
  refine lv_iload hx hb dX0_lateWith_71 (lv_at hl 0 rfl) ?_
  refine lv_sipush (v := 240) hx hb dX0_lateWith_73 (by decide) ?_
  refine va_mmin hx hb (cx.2.2.1.trans hl.1.symm) hown (hts _ wd_343) (hts _ wd_344) (hts _ wd_7) (hts _ wd_345) (Nat.le_of_ble_eq_true rfl) (Nat.le_of_ble_eq_true rfl) (Nat.zero_le _) (Nat.zero_le _) dX0_lateWith_76 ?_
  refine va_mmax hx hb (cx.2.2.1.trans hl.1.symm) hown (hts _ wd_346) (hts _ wd_85) (hts _ wd_7) (hts _ wd_86) (Nat.le_of_ble_eq_true rfl) (Nat.le_of_ble_eq_true rfl) (Nat.zero_le _) (Nat.zero_le _) dX0_lateWith_79 ?_
  exact r_iretw cx hw hr hlk hf dX0_lateWith_82
theorem dX0_setLates_0 : decode cX0_setLates 0 = .ok (.iconst 0, 1) := by decide +kernel
theorem dX0_setLates_1 : decode cX0_setLates 1 = .ok (.istore_n 1, 1) := by decide +kernel
theorem dX0_setLates_2 : decode cX0_setLates 2 = .ok (.iload_n 1, 1) := by decide +kernel
theorem dX0_setLates_3 : decode cX0_setLates 3 = .ok (.aload_n 0, 1) := by decide +kernel
theorem dX0_setLates_4 : decode cX0_setLates 4 = .ok (.getfield 33, 3) := by decide +kernel
theorem dX0_setLates_7 : decode cX0_setLates 7 = .ok (.getfield 76, 3) := by decide +kernel
theorem dX0_setLates_10 : decode cX0_setLates 10 = .ok (.if_icmp .ge 48, 3) := by decide +kernel
theorem dX0_setLates_13 : decode cX0_setLates 13 = .ok (.aload_n 0, 1) := by decide +kernel
theorem dX0_setLates_14 : decode cX0_setLates 14 = .ok (.aload_n 0, 1) := by decide +kernel
theorem dX0_setLates_15 : decode cX0_setLates 15 = .ok (.getfield 33, 3) := by decide +kernel
theorem dX0_setLates_18 : decode cX0_setLates 18 = .ok (.iload_n 1, 1) := by decide +kernel
theorem dX0_setLates_19 : decode cX0_setLates 19 = .ok (.invokevirtual 104, 3) := by decide +kernel
theorem dX0_setLates_22 : decode cX0_setLates 22 = .ok (.aload_n 0, 1) := by decide +kernel
theorem dX0_setLates_23 : decode cX0_setLates 23 = .ok (.getfield 41, 3) := by decide +kernel
theorem dX0_setLates_26 : decode cX0_setLates 26 = .ok (.invokevirtual 108, 3) := by decide +kernel
theorem dX0_setLates_29 : decode cX0_setLates 29 = .ok (.istore_n 2, 1) := by decide +kernel
theorem dX0_setLates_30 : decode cX0_setLates 30 = .ok (.aload_n 0, 1) := by decide +kernel
theorem dX0_setLates_31 : decode cX0_setLates 31 = .ok (.getfield 21, 3) := by decide +kernel
theorem dX0_setLates_34 : decode cX0_setLates 34 = .ok (.aload_n 0, 1) := by decide +kernel
theorem dX0_setLates_35 : decode cX0_setLates 35 = .ok (.getfield 41, 3) := by decide +kernel
theorem dX0_setLates_38 : decode cX0_setLates 38 = .ok (.bipush 8, 2) := by decide +kernel
theorem dX0_setLates_40 : decode cX0_setLates 40 = .ok (.imul, 1) := by decide +kernel
theorem dX0_setLates_41 : decode cX0_setLates 41 = .ok (.iload_n 1, 1) := by decide +kernel
theorem dX0_setLates_42 : decode cX0_setLates 42 = .ok (.iadd, 1) := by decide +kernel
theorem dX0_setLates_43 : decode cX0_setLates 43 = .ok (.aload_n 0, 1) := by decide +kernel
theorem dX0_setLates_44 : decode cX0_setLates 44 = .ok (.iload_n 1, 1) := by decide +kernel
theorem dX0_setLates_45 : decode cX0_setLates 45 = .ok (.iload_n 2, 1) := by decide +kernel
theorem dX0_setLates_46 : decode cX0_setLates 46 = .ok (.invokevirtual 111, 3) := by decide +kernel
theorem dX0_setLates_49 : decode cX0_setLates 49 = .ok (.invokestatic 60, 3) := by decide +kernel
theorem dX0_setLates_52 : decode cX0_setLates 52 = .ok (.iinc 1 1, 3) := by decide +kernel
theorem dX0_setLates_55 : decode cX0_setLates 55 = .ok (.goto (-53), 3) := by decide +kernel
theorem dX0_setLates_58 : decode cX0_setLates 58 = .ok (.return_, 1) := by decide +kernel
abbrev rm_X0_setLates : Room := { frames := 3, cells := 0, slots := 0, locals := 82 }
def f_X0_setLates_L2 (k0 : Nat)  (z2 : Int32 × St) : Option ((Int32 × St) ⊕ (St)) :=
  chk (isT (st_P z2.2 (ky k0 0))) (if (st_I z2.2 (ky (st_P z2.2 (ky k0 0)) 3)) ≤ z2.1 then (some (.inr z2.2)) else (chk (isT (st_P z2.2 (ky k0 0))) ((f_X4_ownerOf (st_P z2.2 (ky k0 0)) z2.2 z2.1).bind (fun (q4 : Int32) => (f_X0_rankOf k0 z2.2 q4 (st_I z2.2 (ky k0 1))).bind (fun (q5 : Int32) => (f_X0_lateWith k0 z2.2 z2.1 q5).bind (fun (q6 : Int32 × St) => (f_X5_put (ky k0 5) q6.2 (((st_I z2.2 (ky k0 1)) * (8 : Int32)) + z2.1) q6.1).bind (fun (q7 : St) => some (.inl ((z2.1 + 1), q7)))))))))
def f_X0_setLates (k0 : Nat) (S : St)  : Option (St) :=
  iter (f_X0_setLates_L2 k0  ) FU ((0 : Int32), S)
set_option maxRecDepth 100000 in
set_option maxHeartbeats 4000000 in
theorem k_X0_setLates (l : Launch) (g : GG) (hg : gd wd_C g) (k0 : Nat) (hk0 : hs wd_C g k0 0) (hA : allT g) (S : St)  (q : St) (hf : f_X0_setLates k0 S  = some q) : Met l yX0_setLates (Cond.code yX0_setLates cX0_setLates 3 none :: gw_tbl) rm_X0_setLates (va_Pc [.ref (gg_o g k0)] (wI wd_C g S)) (qc_v wd_C g q) 0 0 (aw g) := by
  refine mt_start (own := RX0) hg (by decide) rfl (Nat.le_of_ble_eq_true rfl) (fun p e s m args below meth c ls H locs cx hw hr hlk hl => ?_)
  have hx := cx.1
  have hb := cx.2.1
  have hown := cx.2.2.2.1
  have hts := cx.2.2.2.2.1
  have hl : lv_has ls 3 [(0, .ref (gg_o g k0))] := hl
  replace hf := h_top hf
  unfold f_X0_setLates at hf
  refine lv_iconst (v := 0) hx hb dX0_setLates_0 (by decide) ?_
  refine lv_istore_n hx hb dX0_setLates_1 rfl hl (by decide) (lv' := [(1, .int (0 : Int32)), (0, .ref (gg_o g k0))]) rfl (fun ls hl => ?_)
  have L2 : ∀  (aft2 : St → Option (St)), (∀ v : St, aft2 v = some q → (some v : Option (St)).bind some = some q) → ∀ (n2 : Nat) (ls : Array Slot) (H : Heap) (locs : List Loc) (z2 : Int32 × St), lv_has ls 3 [(0, .ref (gg_o g k0)), (1, .int z2.1)] → HH wd_C g s z2.2 H locs → (iter (f_X0_setLates_L2 k0  ) n2 z2).bind aft2 = some q → W p l e rm_X0_setLates s m args below meth c H locs 0 0 (MQ below (qc_v wd_C g q) args s 0 0 (aw g)) (F0 m 2 ls []) := by
    intro aft2 hR2 n2
    induction n2 with
    | zero => intro ls H locs z2 hl hw hf; exact h_iter0 hf
    | succ n2 ih2 =>
      intro ls H locs z2 hl hw hf
      replace hf := h_iter hf
      unfold f_X0_setLates_L2 at hf
      refine lv_iload_n hx hb dX0_setLates_2 rfl (lv_at hl 1 rfl) ?_
      refine lv_aload_n hx hb dX0_setLates_3 rfl (lv_at hl 0 rfl) ?_
      obtain ⟨hc1, hf⟩ := h_chk hf
      refine gf_X0_33 cx hw hk0 dX0_setLates_4 ?_
      refine gf_X0_76 cx hw ((allT_at hA hc1).1) dX0_setLates_7 ?_
      refine lv_icmp_ge hx hb dX0_setLates_10 (tgt := 58) rfl (fun hc2 => ?_) (fun hc2 => ?_)
      · replace hf := h_pos hc2 hf
        replace hf := hR2 z2.2 hf
        exact r_vret cx hw hr hlk hf dX0_setLates_58
      replace hf := h_neg hc2 hf
      refine lv_aload_n hx hb dX0_setLates_13 rfl (lv_at hl 0 rfl) ?_
      refine lv_aload_n hx hb dX0_setLates_14 rfl (lv_at hl 0 rfl) ?_
      obtain ⟨hc3, hf⟩ := h_chk hf
      refine gf_X0_33 cx hw hk0 dX0_setLates_15 ?_
      refine lv_iload_n hx hb dX0_setLates_18 rfl (lv_at hl 1 rfl) ?_
      refine r_VN_i (As := [.int z2.1]) (rest := [.ref (gg_o g k0)]) cx hw hf (nw_at cx) ((allT_at hA hc3).1).2.1 (by rw [((allT_at hA hc3).1).1]; rfl) lk_X0_104 (fun q4 hq => k_X4_ownerOf l g hg (st_P z2.2 (ky k0 0)) (allT_at hA hc3) z2.2 z2.1 q4 hq) ⟨⟨rfl, rfl⟩, Nat.le_of_ble_eq_true rfl, Nat.le_of_ble_eq_true rfl⟩ rfl hl.1 rfl (Nat.le_of_ble_eq_true rfl) dX0_setLates_19 ⟨Nat.zero_le _, Nat.zero_le _⟩ (fun q4 H locs hw hf => ?_)
      refine lv_aload_n hx hb dX0_setLates_22 rfl (lv_at hl 0 rfl) ?_
      refine gf_X0_41 cx hw hk0 dX0_setLates_23 ?_
      refine r_V_i (As := [.int q4, .int (st_I z2.2 (ky k0 1))]) (rest := []) cx hw hf hk0.2.1 (by rw [hk0.1]; rfl) lk_X0_108 (fun q5 hq => k_X0_rankOf l g hg k0 hk0 hA z2.2 q4 (st_I z2.2 (ky k0 1)) q5 hq) ⟨⟨rfl, rfl⟩, Nat.le_of_ble_eq_true rfl, Nat.le_of_ble_eq_true rfl⟩ rfl hl.1 rfl (Nat.le_of_ble_eq_true rfl) dX0_setLates_26 ⟨Nat.zero_le _, Nat.zero_le _⟩ (fun q5 H locs hw hf => ?_)
      refine lv_istore_n hx hb dX0_setLates_29 rfl hl (by decide) (lv' := [(2, .int q5), (0, .ref (gg_o g k0)), (1, .int z2.1)]) rfl (fun ls hl => ?_)
      refine lv_aload_n hx hb dX0_setLates_30 rfl (lv_at hl 1 rfl) ?_
      refine gf_X0_21 cx hw hk0 dX0_setLates_31 ?_
      refine lv_aload_n hx hb dX0_setLates_34 rfl (lv_at hl 1 rfl) ?_
      refine gf_X0_41 cx hw hk0 dX0_setLates_35 ?_
      refine lv_bipush (v := 8) hx hb dX0_setLates_38 (by decide) ?_
      refine lv_imul hx hb dX0_setLates_40 ?_
      refine lv_iload_n hx hb dX0_setLates_41 rfl (lv_at hl 2 rfl) ?_
      refine lv_iadd hx hb dX0_setLates_42 ?_
      refine lv_aload_n hx hb dX0_setLates_43 rfl (lv_at hl 1 rfl) ?_
      refine lv_iload_n hx hb dX0_setLates_44 rfl (lv_at hl 2 rfl) ?_
      refine lv_iload_n hx hb dX0_setLates_45 rfl (lv_at hl 0 rfl) ?_
      refine r_V_w (As := [.int z2.1, .int q5]) (rest := [.int (((st_I z2.2 (ky k0 1)) * (8 : Int32)) + z2.1), .ref (gg_a g (ky k0 5))]) cx hw hf hk0.2.1 (by rw [hk0.1]; rfl) lk_X0_111 (fun q6 hq => k_X0_lateWith l g hg k0 hk0 hA z2.2 z2.1 q5 q6 hq) ⟨⟨rfl, rfl⟩, Nat.le_of_ble_eq_true rfl, Nat.le_of_ble_eq_true rfl⟩ rfl hl.1 rfl (Nat.le_of_ble_eq_true rfl) dX0_setLates_46 ⟨Nat.zero_le _, Nat.zero_le _⟩ (fun q6 H locs hw hf => ?_)
      refine r_SN_v (As := [.ref (gg_a g (ky k0 5)), .int (((st_I z2.2 (ky k0 1)) * (8 : Int32)) + z2.1), .int q6.1]) (rest := []) cx hw hf (nw_at cx) lk_X0_60 (fun q7 hq => k_X5_put l g hg (ky k0 5) (hk0.2.2.1 5 rfl) q6.2 (((st_I z2.2 (ky k0 1)) * (8 : Int32)) + z2.1) q6.1 q7 hq) ⟨⟨rfl, rfl⟩, Nat.le_of_ble_eq_true rfl, Nat.le_of_ble_eq_true rfl⟩ rfl hl.1 rfl (Nat.le_of_ble_eq_true rfl) dX0_setLates_49 ⟨Nat.zero_le _, Nat.zero_le _⟩ (fun q7 H locs hw hf => ?_)
      refine lv_iinc hx hb dX0_setLates_52 hl (k := 2) rfl (congrArg (HAdd.hAdd _) (show Int32.ofInt (1) = 1 by decide)) (by decide) (lv' := [(1, .int (z2.1 + 1)), (2, .int q5), (0, .ref (gg_o g k0))]) rfl (fun ls hl => ?_)
      refine lv_goto hx hb dX0_setLates_55 (tgt := 2) rfl ?_
      exact ih2 _ _ _ ((z2.1 + 1), q7) (lv_sub hl [2, 0] rfl) hw hf
  exact L2 some (fun v h => h) FU _ _ _ ((0 : Int32), S) (lv_sub hl [1, 0] rfl) hw hf
