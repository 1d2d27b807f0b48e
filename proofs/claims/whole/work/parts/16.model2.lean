theorem dX6_copies_0 : decode cX6_copies 0 = .ok (.iconst 0, 1) := by decide +kernel
theorem dX6_copies_1 : decode cX6_copies 1 = .ok (.istore_n 1, 1) := by decide +kernel
theorem dX6_copies_2 : decode cX6_copies 2 = .ok (.iload_n 1, 1) := by decide +kernel
theorem dX6_copies_3 : decode cX6_copies 3 = .ok (.bipush 36, 2) := by decide +kernel
theorem dX6_copies_5 : decode cX6_copies 5 = .ok (.aload_n 0, 1) := by decide +kernel
theorem dX6_copies_6 : decode cX6_copies 6 = .ok (.getfield 345, 3) := by decide +kernel
theorem dX6_copies_9 : decode cX6_copies 9 = .ok (.imul, 1) := by decide +kernel
theorem dX6_copies_10 : decode cX6_copies 10 = .ok (.bipush 36, 2) := by decide +kernel
theorem dX6_copies_12 : decode cX6_copies 12 = .ok (.iadd, 1) := by decide +kernel
theorem dX6_copies_13 : decode cX6_copies 13 = .ok (.if_icmp .ge 21, 3) := by decide +kernel
theorem dX6_copies_16 : decode cX6_copies 16 = .ok (.aload_n 0, 1) := by decide +kernel
theorem dX6_copies_17 : decode cX6_copies 17 = .ok (.getfield 131, 3) := by decide +kernel
theorem dX6_copies_20 : decode cX6_copies 20 = .ok (.iload_n 1, 1) := by decide +kernel
theorem dX6_copies_21 : decode cX6_copies 21 = .ok (.aload_n 0, 1) := by decide +kernel
theorem dX6_copies_22 : decode cX6_copies 22 = .ok (.getfield 122, 3) := by decide +kernel
theorem dX6_copies_25 : decode cX6_copies 25 = .ok (.iload_n 1, 1) := by decide +kernel
theorem dX6_copies_26 : decode cX6_copies 26 = .ok (.iaload, 1) := by decide +kernel
theorem dX6_copies_27 : decode cX6_copies 27 = .ok (.iastore, 1) := by decide +kernel
theorem dX6_copies_28 : decode cX6_copies 28 = .ok (.iinc 1 1, 3) := by decide +kernel
theorem dX6_copies_31 : decode cX6_copies 31 = .ok (.goto (-29), 3) := by decide +kernel
theorem dX6_copies_34 : decode cX6_copies 34 = .ok (.aload_n 0, 1) := by decide +kernel
theorem dX6_copies_35 : decode cX6_copies 35 = .ok (.aload_n 0, 1) := by decide +kernel
theorem dX6_copies_36 : decode cX6_copies 36 = .ok (.getfield 345, 3) := by decide +kernel
theorem dX6_copies_39 : decode cX6_copies 39 = .ok (.putfield 348, 3) := by decide +kernel
theorem dX6_copies_42 : decode cX6_copies 42 = .ok (.iconst 0, 1) := by decide +kernel
theorem dX6_copies_43 : decode cX6_copies 43 = .ok (.istore_n 1, 1) := by decide +kernel
theorem dX6_copies_44 : decode cX6_copies 44 = .ok (.iload_n 1, 1) := by decide +kernel
theorem dX6_copies_45 : decode cX6_copies 45 = .ok (.bipush 8, 2) := by decide +kernel
theorem dX6_copies_47 : decode cX6_copies 47 = .ok (.if_icmp .ge 33, 3) := by decide +kernel
theorem dX6_copies_50 : decode cX6_copies 50 = .ok (.aload_n 0, 1) := by decide +kernel
theorem dX6_copies_51 : decode cX6_copies 51 = .ok (.getfield 134, 3) := by decide +kernel
theorem dX6_copies_54 : decode cX6_copies 54 = .ok (.iload_n 1, 1) := by decide +kernel
theorem dX6_copies_55 : decode cX6_copies 55 = .ok (.aload_n 0, 1) := by decide +kernel
theorem dX6_copies_56 : decode cX6_copies 56 = .ok (.getfield 125, 3) := by decide +kernel
theorem dX6_copies_59 : decode cX6_copies 59 = .ok (.iload_n 1, 1) := by decide +kernel
theorem dX6_copies_60 : decode cX6_copies 60 = .ok (.iaload, 1) := by decide +kernel
theorem dX6_copies_61 : decode cX6_copies 61 = .ok (.iastore, 1) := by decide +kernel
theorem dX6_copies_62 : decode cX6_copies 62 = .ok (.aload_n 0, 1) := by decide +kernel
theorem dX6_copies_63 : decode cX6_copies 63 = .ok (.getfield 137, 3) := by decide +kernel
theorem dX6_copies_66 : decode cX6_copies 66 = .ok (.iload_n 1, 1) := by decide +kernel
theorem dX6_copies_67 : decode cX6_copies 67 = .ok (.aload_n 0, 1) := by decide +kernel
theorem dX6_copies_68 : decode cX6_copies 68 = .ok (.getfield 128, 3) := by decide +kernel
theorem dX6_copies_71 : decode cX6_copies 71 = .ok (.iload_n 1, 1) := by decide +kernel
theorem dX6_copies_72 : decode cX6_copies 72 = .ok (.iaload, 1) := by decide +kernel
theorem dX6_copies_73 : decode cX6_copies 73 = .ok (.iastore, 1) := by decide +kernel
theorem dX6_copies_74 : decode cX6_copies 74 = .ok (.iinc 1 1, 3) := by decide +kernel
theorem dX6_copies_77 : decode cX6_copies 77 = .ok (.goto (-33), 3) := by decide +kernel
theorem dX6_copies_80 : decode cX6_copies 80 = .ok (.aload_n 0, 1) := by decide +kernel
theorem dX6_copies_81 : decode cX6_copies 81 = .ok (.aload_n 0, 1) := by decide +kernel
theorem dX6_copies_82 : decode cX6_copies 82 = .ok (.getfield 82, 3) := by decide +kernel
theorem dX6_copies_85 : decode cX6_copies 85 = .ok (.aload_n 0, 1) := by decide +kernel
theorem dX6_copies_86 : decode cX6_copies 86 = .ok (.getfield 257, 3) := by decide +kernel
theorem dX6_copies_89 : decode cX6_copies 89 = .ok (.iaload, 1) := by decide +kernel
theorem dX6_copies_90 : decode cX6_copies 90 = .ok (.putfield 351, 3) := by decide +kernel
theorem dX6_copies_93 : decode cX6_copies 93 = .ok (.return_, 1) := by decide +kernel
abbrev rm_X6_copies : Room := { frames := 0, cells := 0, slots := 0, locals := 0 }
def f_X6_copies_L2  (z2 : Int32 × St) : Option ((Int32 × St) ⊕ (St)) :=
  if (((36 : Int32) * (st_I z2.2 (ky 0 53))) + (36 : Int32)) ≤ z2.1 then (some (.inr z2.2)) else (chk (ib z2.1 10800) (chk (ib z2.1 10800) (lt_v (up_A z2.2 (ky 0 56) (upd (st_A z2.2 (ky 0 56)) z2.1.toNatClampNeg (st_A z2.2 (ky 0 52) z2.1.toNatClampNeg))) (fun (S2 : St) => some (.inl ((z2.1 + 1), S2))))))
def f_X6_copies_L44  (z44 : Int32 × St) : Option ((Int32 × St) ⊕ (St)) :=
  if (8 : Int32) ≤ z44.1 then (some (.inr z44.2)) else (chk (ib z44.1 8) (chk (ib z44.1 8) (lt_v (up_A z44.2 (ky 0 58) (upd (st_A z44.2 (ky 0 58)) z44.1.toNatClampNeg (st_A z44.2 (ky 0 54) z44.1.toNatClampNeg))) (fun (S6 : St) => chk (ib z44.1 8) (chk (ib z44.1 8) (lt_v (up_A S6 (ky 0 59) (upd (st_A S6 (ky 0 59)) z44.1.toNatClampNeg (st_A S6 (ky 0 55) z44.1.toNatClampNeg))) (fun (S7 : St) => some (.inl ((z44.1 + 1), S7)))))))))
def f_X6_copies (S : St)  : Option (St) :=
  (iter (f_X6_copies_L2   ) FU ((0 : Int32), S)).bind (fun (S3 : St) => lt_v (up_I S3 (ky 0 57) (st_I S3 (ky 0 53))) (fun (S4 : St) => (iter (f_X6_copies_L44   ) FU ((0 : Int32), S4)).bind (fun (S8 : St) => chk (ib (st_I S8 (ky 0 18)) 2) (lt_v (up_I S8 (ky 0 60) (st_A S8 (ky 0 35) (st_I S8 (ky 0 18)).toNatClampNeg)) (fun (S9 : St) => some S9)))))
set_option maxRecDepth 100000 in
set_option maxHeartbeats 4000000 in
theorem k_X6_copies (l : Launch) (g : GG) (hg : gd wd_M g)  (hM : hs wd_M g 0 6) (S : St)  (q : St) (hf : f_X6_copies  S  = some q) : Met l yX6_copies (Cond.code yX6_copies cX6_copies 2 none :: gw_tbl) rm_X6_copies (va_Pc [.ref (gg_o g 0)] (wI wd_M g S)) (qc_v wd_M g q) 0 0 (aw g) := by
  refine mt_start (own := RX6) hg (by decide) rfl (Nat.le_of_ble_eq_true rfl) (fun p e s m args below meth c ls H locs cx hw hr hlk hl => ?_)
  have hx := cx.1
  have hb := cx.2.1
  have hown := cx.2.2.2.1
  have hts := cx.2.2.2.2.1
  have hl : lv_has ls 2 [(0, .ref (gg_o g 0))] := hl
  replace hf := h_top hf
  unfold f_X6_copies at hf
  refine lv_iconst (v := 0) hx hb dX6_copies_0 (by decide) ?_
  refine lv_istore_n hx hb dX6_copies_1 rfl hl (by decide) (lv' := [(1, .int (0 : Int32)), (0, .ref (gg_o g 0))]) rfl (fun ls hl => ?_)
  have L2 : ∀  (aft2 : St → Option (St)), (∀ (ls : Array Slot) (H : Heap) (locs : List Loc) (S1 : St), lv_has ls 2 [(0, .ref (gg_o g 0))] → HH wd_M g s S1 H locs → aft2 S1 = some q → W p l e rm_X6_copies s m args below meth c H locs 0 0 (MQ below (qc_v wd_M g q) args s 0 0 (aw g)) (F0 m 34 ls [])) → ∀ (n2 : Nat) (ls : Array Slot) (H : Heap) (locs : List Loc) (z2 : Int32 × St), lv_has ls 2 [(0, .ref (gg_o g 0)), (1, .int z2.1)] → HH wd_M g s z2.2 H locs → (iter (f_X6_copies_L2   ) n2 z2).bind aft2 = some q → W p l e rm_X6_copies s m args below meth c H locs 0 0 (MQ below (qc_v wd_M g q) args s 0 0 (aw g)) (F0 m 2 ls []) := by
    intro aft2 hX2 n2
    induction n2 with
    | zero => intro ls H locs z2 hl hw hf; exact h_iter0 hf
    | succ n2 ih2 =>
      intro ls H locs z2 hl hw hf
      replace hf := h_iter hf
      unfold f_X6_copies_L2 at hf
      refine lv_iload_n hx hb dX6_copies_2 rfl (lv_at hl 1 rfl) ?_
      refine lv_bipush (v := 36) hx hb dX6_copies_3 (by decide) ?_
      refine lv_aload_n hx hb dX6_copies_5 rfl (lv_at hl 0 rfl) ?_
      refine gf_X6_345 cx hw hM dX6_copies_6 ?_
      refine lv_imul hx hb dX6_copies_9 ?_
      refine lv_bipush (v := 36) hx hb dX6_copies_10 (by decide) ?_
      refine lv_iadd hx hb dX6_copies_12 ?_
      refine lv_icmp_ge hx hb dX6_copies_13 (tgt := 34) rfl (fun hc1 => ?_) (fun hc1 => ?_)
      · replace hf := h_pos hc1 hf
        exact hX2 _ _ _ z2.2 (lv_sub hl [0] rfl) hw hf
      replace hf := h_neg hc1 hf
      refine lv_aload_n hx hb dX6_copies_16 rfl (lv_at hl 0 rfl) ?_
      refine gf_X6_131 cx hw hM dX6_copies_17 ?_
      refine lv_iload_n hx hb dX6_copies_20 rfl (lv_at hl 1 rfl) ?_
      refine lv_aload_n hx hb dX6_copies_21 rfl (lv_at hl 0 rfl) ?_
      refine gf_X6_122 cx hw hM dX6_copies_22 ?_
      refine lv_iload_n hx hb dX6_copies_25 rfl (lv_at hl 1 rfl) ?_
      refine r_iald cx hw (hM.2.2.1 52 rfl) rfl rfl hf dX6_copies_26 (fun hf => ?_)
      refine r_iast cx hw (hM.2.2.1 56 rfl) rfl rfl hf dX6_copies_27 (fun S2 H locs hw hf => ?_)
      refine lv_iinc hx hb dX6_copies_28 hl (k := 1) rfl (congrArg (HAdd.hAdd _) (show Int32.ofInt (1) = 1 by decide)) (by decide) (lv' := [(1, .int (z2.1 + 1)), (0, .ref (gg_o g 0))]) rfl (fun ls hl => ?_)
      refine lv_goto hx hb dX6_copies_31 (tgt := 2) rfl ?_
      exact ih2 _ _ _ ((z2.1 + 1), S2) (lv_sub hl [1, 0] rfl) hw hf
  refine L2 _ (fun ls H locs S3 hl hw hf => ?_) FU _ _ _ ((0 : Int32), S) (lv_sub hl [1, 0] rfl) hw (h_assoc hf)
  try dsimp only at hf
  refine lv_aload_n hx hb dX6_copies_34 rfl (lv_at hl 0 rfl) ?_
  refine lv_aload_n hx hb dX6_copies_35 rfl (lv_at hl 0 rfl) ?_
  refine gf_X6_345 cx hw hM dX6_copies_36 ?_
  refine pf_X6_348 cx hw hM hf dX6_copies_39 (fun S4 H locs hw hf => ?_)
  refine lv_iconst (v := 0) hx hb dX6_copies_42 (by decide) ?_
  refine lv_istore_n hx hb dX6_copies_43 rfl hl (by decide) (lv' := [(1, .int (0 : Int32)), (0, .ref (gg_o g 0))]) rfl (fun ls hl => ?_)
  have L44 : ∀  (aft44 : St → Option (St)), (∀ (ls : Array Slot) (H : Heap) (locs : List Loc) (S1 : St), lv_has ls 2 [(0, .ref (gg_o g 0))] → HH wd_M g s S1 H locs → aft44 S1 = some q → W p l e rm_X6_copies s m args below meth c H locs 0 0 (MQ below (qc_v wd_M g q) args s 0 0 (aw g)) (F0 m 80 ls [])) → ∀ (n44 : Nat) (ls : Array Slot) (H : Heap) (locs : List Loc) (z44 : Int32 × St), lv_has ls 2 [(0, .ref (gg_o g 0)), (1, .int z44.1)] → HH wd_M g s z44.2 H locs → (iter (f_X6_copies_L44   ) n44 z44).bind aft44 = some q → W p l e rm_X6_copies s m args below meth c H locs 0 0 (MQ below (qc_v wd_M g q) args s 0 0 (aw g)) (F0 m 44 ls []) := by
    intro aft44 hX44 n44
    induction n44 with
    | zero => intro ls H locs z44 hl hw hf; exact h_iter0 hf
    | succ n44 ih44 =>
      intro ls H locs z44 hl hw hf
      replace hf := h_iter hf
      unfold f_X6_copies_L44 at hf
      refine lv_iload_n hx hb dX6_copies_44 rfl (lv_at hl 1 rfl) ?_
      refine lv_bipush (v := 8) hx hb dX6_copies_45 (by decide) ?_
      refine lv_icmp_ge hx hb dX6_copies_47 (tgt := 80) rfl (fun hc5 => ?_) (fun hc5 => ?_)
      · replace hf := h_pos hc5 hf
        exact hX44 _ _ _ z44.2 (lv_sub hl [0] rfl) hw hf
      replace hf := h_neg hc5 hf
      refine lv_aload_n hx hb dX6_copies_50 rfl (lv_at hl 0 rfl) ?_
      refine gf_X6_134 cx hw hM dX6_copies_51 ?_
      refine lv_iload_n hx hb dX6_copies_54 rfl (lv_at hl 1 rfl) ?_
      refine lv_aload_n hx hb dX6_copies_55 rfl (lv_at hl 0 rfl) ?_
      refine gf_X6_125 cx hw hM dX6_copies_56 ?_
      refine lv_iload_n hx hb dX6_copies_59 rfl (lv_at hl 1 rfl) ?_
      refine r_iald cx hw (hM.2.2.1 54 rfl) rfl rfl hf dX6_copies_60 (fun hf => ?_)
      refine r_iast cx hw (hM.2.2.1 58 rfl) rfl rfl hf dX6_copies_61 (fun S6 H locs hw hf => ?_)
      refine lv_aload_n hx hb dX6_copies_62 rfl (lv_at hl 0 rfl) ?_
      refine gf_X6_137 cx hw hM dX6_copies_63 ?_
      refine lv_iload_n hx hb dX6_copies_66 rfl (lv_at hl 1 rfl) ?_
      refine lv_aload_n hx hb dX6_copies_67 rfl (lv_at hl 0 rfl) ?_
      refine gf_X6_128 cx hw hM dX6_copies_68 ?_
      refine lv_iload_n hx hb dX6_copies_71 rfl (lv_at hl 1 rfl) ?_
      refine r_iald cx hw (hM.2.2.1 55 rfl) rfl rfl hf dX6_copies_72 (fun hf => ?_)
      refine r_iast cx hw (hM.2.2.1 59 rfl) rfl rfl hf dX6_copies_73 (fun S7 H locs hw hf => ?_)
      refine lv_iinc hx hb dX6_copies_74 hl (k := 1) rfl (congrArg (HAdd.hAdd _) (show Int32.ofInt (1) = 1 by decide)) (by decide) (lv' := [(1, .int (z44.1 + 1)), (0, .ref (gg_o g 0))]) rfl (fun ls hl => ?_)
      refine lv_goto hx hb dX6_copies_77 (tgt := 44) rfl ?_
      exact ih44 _ _ _ ((z44.1 + 1), S7) (lv_sub hl [1, 0] rfl) hw hf
  refine L44 _ (fun ls H locs S8 hl hw hf => ?_) FU _ _ _ ((0 : Int32), S4) (lv_sub hl [1, 0] rfl) hw (h_assoc hf)
  try dsimp only at hf
  refine lv_aload_n hx hb dX6_copies_80 rfl (lv_at hl 0 rfl) ?_
  refine lv_aload_n hx hb dX6_copies_81 rfl (lv_at hl 0 rfl) ?_
  refine gf_X6_82 cx hw hM dX6_copies_82 ?_
  refine lv_aload_n hx hb dX6_copies_85 rfl (lv_at hl 0 rfl) ?_
  refine gf_X6_257 cx hw hM dX6_copies_86 ?_
  refine r_iald cx hw (hM.2.2.1 35 rfl) rfl rfl hf dX6_copies_89 (fun hf => ?_)
  refine pf_X6_351 cx hw hM hf dX6_copies_90 (fun S9 H locs hw hf => ?_)
  exact r_vret cx hw hr hlk hf dX6_copies_93
theorem dX6_through_0 : decode cX6_through 0 = .ok (.iconst 0, 1) := by decide +kernel
theorem dX6_through_1 : decode cX6_through 1 = .ok (.istore_n 3, 1) := by decide +kernel
theorem dX6_through_2 : decode cX6_through 2 = .ok (.iconst 0, 1) := by decide +kernel
theorem dX6_through_3 : decode cX6_through 3 = .ok (.istore 4, 2) := by decide +kernel
theorem dX6_through_5 : decode cX6_through 5 = .ok (.iload 4, 2) := by decide +kernel
theorem dX6_through_7 : decode cX6_through 7 = .ok (.aload_n 0, 1) := by decide +kernel
theorem dX6_through_8 : decode cX6_through 8 = .ok (.getfield 52, 3) := by decide +kernel
theorem dX6_through_11 : decode cX6_through 11 = .ok (.aload_n 0, 1) := by decide +kernel
theorem dX6_through_12 : decode cX6_through 12 = .ok (.getfield 257, 3) := by decide +kernel
theorem dX6_through_15 : decode cX6_through 15 = .ok (.iaload, 1) := by decide +kernel
theorem dX6_through_16 : decode cX6_through 16 = .ok (.if_icmp .ge 80, 3) := by decide +kernel
theorem dX6_through_19 : decode cX6_through 19 = .ok (.aload_n 0, 1) := by decide +kernel
theorem dX6_through_20 : decode cX6_through 20 = .ok (.getfield 55, 3) := by decide +kernel
theorem dX6_through_23 : decode cX6_through 23 = .ok (.bipush 12, 2) := by decide +kernel
theorem dX6_through_25 : decode cX6_through 25 = .ok (.aload_n 0, 1) := by decide +kernel
theorem dX6_through_26 : decode cX6_through 26 = .ok (.getfield 257, 3) := by decide +kernel
theorem dX6_through_29 : decode cX6_through 29 = .ok (.imul, 1) := by decide +kernel
theorem dX6_through_30 : decode cX6_through 30 = .ok (.iload 4, 2) := by decide +kernel
theorem dX6_through_32 : decode cX6_through 32 = .ok (.iadd, 1) := by decide +kernel
theorem dX6_through_33 : decode cX6_through 33 = .ok (.iaload, 1) := by decide +kernel
theorem dX6_through_34 : decode cX6_through 34 = .ok (.istore 5, 2) := by decide +kernel
theorem dX6_through_36 : decode cX6_through 36 = .ok (.aload_n 0, 1) := by decide +kernel
theorem dX6_through_37 : decode cX6_through 37 = .ok (.getfield 58, 3) := by decide +kernel
theorem dX6_through_40 : decode cX6_through 40 = .ok (.bipush 12, 2) := by decide +kernel
theorem dX6_through_42 : decode cX6_through 42 = .ok (.aload_n 0, 1) := by decide +kernel
theorem dX6_through_43 : decode cX6_through 43 = .ok (.getfield 257, 3) := by decide +kernel
theorem dX6_through_46 : decode cX6_through 46 = .ok (.imul, 1) := by decide +kernel
theorem dX6_through_47 : decode cX6_through 47 = .ok (.iload 4, 2) := by decide +kernel
theorem dX6_through_49 : decode cX6_through 49 = .ok (.iadd, 1) := by decide +kernel
theorem dX6_through_50 : decode cX6_through 50 = .ok (.iaload, 1) := by decide +kernel
theorem dX6_through_51 : decode cX6_through 51 = .ok (.istore 6, 2) := by decide +kernel
theorem dX6_through_53 : decode cX6_through 53 = .ok (.iload 5, 2) := by decide +kernel
theorem dX6_through_55 : decode cX6_through 55 = .ok (.iload_n 1, 1) := by decide +kernel
theorem dX6_through_56 : decode cX6_through 56 = .ok (.if_icmp .eq 12, 3) := by decide +kernel
theorem dX6_through_59 : decode cX6_through 59 = .ok (.iload 6, 2) := by decide +kernel
theorem dX6_through_61 : decode cX6_through 61 = .ok (.iload_n 1, 1) := by decide +kernel
theorem dX6_through_62 : decode cX6_through 62 = .ok (.if_icmp .eq 6, 3) := by decide +kernel
theorem dX6_through_65 : decode cX6_through 65 = .ok (.goto 25, 3) := by decide +kernel
theorem dX6_through_68 : decode cX6_through 68 = .ok (.iinc 3 1, 3) := by decide +kernel
theorem dX6_through_71 : decode cX6_through 71 = .ok (.iload_n 3, 1) := by decide +kernel
theorem dX6_through_72 : decode cX6_through 72 = .ok (.iload_n 2, 1) := by decide +kernel
theorem dX6_through_73 : decode cX6_through 73 = .ok (.if_icmp .ne 17, 3) := by decide +kernel
theorem dX6_through_76 : decode cX6_through 76 = .ok (.iload 5, 2) := by decide +kernel
theorem dX6_through_78 : decode cX6_through 78 = .ok (.iload_n 1, 1) := by decide +kernel
theorem dX6_through_79 : decode cX6_through 79 = .ok (.if_icmp .ne 8, 3) := by decide +kernel
theorem dX6_through_82 : decode cX6_through 82 = .ok (.iload 6, 2) := by decide +kernel
theorem dX6_through_84 : decode cX6_through 84 = .ok (.goto 5, 3) := by decide +kernel
theorem dX6_through_87 : decode cX6_through 87 = .ok (.iload 5, 2) := by decide +kernel
theorem dX6_through_89 : decode cX6_through 89 = .ok (.ireturn, 1) := by decide +kernel
theorem dX6_through_90 : decode cX6_through 90 = .ok (.iinc 4 1, 3) := by decide +kernel
theorem dX6_through_93 : decode cX6_through 93 = .ok (.goto (-88), 3) := by decide +kernel
theorem dX6_through_96 : decode cX6_through 96 = .ok (.iload_n 1, 1) := by decide +kernel
theorem dX6_through_97 : decode cX6_through 97 = .ok (.ireturn, 1) := by decide +kernel
abbrev rm_X6_through : Room := { frames := 0, cells := 0, slots := 0, locals := 0 }
def f_X6_through_J68 (S : St) (x1 : Int32) (x2 : Int32) (x3 : Int32) (x4 : Int32) (x5 : Int32) (x6 : Int32) : Option ((Int32 × Int32) ⊕ ((Int32 × Int32) ⊕ (Int32))) :=
  if (x3 + 1) = x2 then (some (.inr (.inl (x5, x6)))) else (some (.inl ((x3 + 1), (x4 + 1))))
def f_X6_through_L5 (S : St) (x1 : Int32) (x2 : Int32) (z5 : Int32 × Int32) : Option ((Int32 × Int32) ⊕ ((Int32 × Int32) ⊕ (Int32))) :=
  chk (ib (st_I S (ky 0 18)) 2) (if (st_A S (ky 0 25) (st_I S (ky 0 18)).toNatClampNeg) ≤ z5.2 then (some (.inr (.inr x1))) else (chk (ib (((12 : Int32) * (st_I S (ky 0 18))) + z5.2) 24) (lt_v (st_A S (ky 0 26) (((12 : Int32) * (st_I S (ky 0 18))) + z5.2).toNatClampNeg) (fun (u2 : Int32) => chk (ib (((12 : Int32) * (st_I S (ky 0 18))) + z5.2) 24) (lt_v (st_A S (ky 0 27) (((12 : Int32) * (st_I S (ky 0 18))) + z5.2).toNatClampNeg) (fun (u3 : Int32) => if u2 = x1 then (f_X6_through_J68  S x1 x2 z5.1 z5.2 u2 u3) else (if u3 = x1 then (f_X6_through_J68  S x1 x2 z5.1 z5.2 u2 u3) else (some (.inl (z5.1, (z5.2 + 1)))))))))))
def f_X6_through (S : St) (x1 : Int32) (x2 : Int32) : Option (Int32) :=
  (iter (f_X6_through_L5  S x1 x2) FU ((0 : Int32), (0 : Int32))).bind fun z => match z with | .inl z => (fun (u10 : Int32 × Int32) => (fun (e7 : Int32) (e8 : Int32) => if e7 = x1 then (some e8) else (some e7)) u10.1 u10.2) z | .inr v11 => some v11
set_option maxRecDepth 100000 in
set_option maxHeartbeats 4000000 in
theorem k_X6_through (l : Launch) (g : GG) (hg : gd wd_M g)  (hM : hs wd_M g 0 6) (S : St) (x1 : Int32) (x2 : Int32) (q : Int32) (hf : f_X6_through  S x1 x2 = some q) : Met l yX6_through (Cond.code yX6_through cX6_through 7 (some .int) :: gw_tbl) rm_X6_through (va_Pc [.ref (gg_o g 0), .int x1, .int x2] (wI wd_M g S)) (qc_i wd_M g S q) 0 0 (aw g) := by
  refine mt_start (own := RX6) hg (by decide) rfl (Nat.le_of_ble_eq_true rfl) (fun p e s m args below meth c ls H locs cx hw hr hlk hl => ?_)
  have hx := cx.1
  have hb := cx.2.1
  have hown := cx.2.2.2.1
  have hts := cx.2.2.2.2.1
  have hl : lv_has ls 7 [(0, .ref (gg_o g 0)), (1, .int x1), (2, .int x2)] := hl
  replace hf := h_top hf
  unfold f_X6_through at hf
  refine lv_iconst (v := 0) hx hb dX6_through_0 (by decide) ?_
  refine lv_istore_n hx hb dX6_through_1 rfl hl (by decide) (lv' := [(3, .int (0 : Int32)), (0, .ref (gg_o g 0)), (1, .int x1), (2, .int x2)]) rfl (fun ls hl => ?_)
  refine lv_iconst (v := 0) hx hb dX6_through_2 (by decide) ?_
  refine lv_istore hx hb dX6_through_3 hl (by decide) (lv' := [(4, .int (0 : Int32)), (3, .int (0 : Int32)), (0, .ref (gg_o g 0)), (1, .int x1), (2, .int x2)]) rfl (fun ls hl => ?_)
  have L5 : ∀ (x1 : Int32) (x2 : Int32) (aft5 : ((Int32 × Int32) ⊕ (Int32)) → Option (Int32)), (∀ (ls : Array Slot) (H : Heap) (locs : List Loc) (e5 : Int32) (e6 : Int32), lv_has ls 7 [(1, .int x1), (5, .int e5), (6, .int e6)] → HH wd_M g s S H locs → aft5 (.inl (e5, e6)) = some q → W p l e rm_X6_through s m args below meth c H locs 0 0 (MQ below (qc_i wd_M g S q) args s 0 0 (aw g)) (F0 m 76 ls [])) → (∀ v : Int32, aft5 (.inr v) = some q → (some v : Option (Int32)).bind some = some q) → ∀ (n5 : Nat) (ls : Array Slot) (H : Heap) (locs : List Loc) (z5 : Int32 × Int32), lv_has ls 7 [(0, .ref (gg_o g 0)), (1, .int x1), (2, .int x2), (3, .int z5.1), (4, .int z5.2)] → HH wd_M g s S H locs → (iter (f_X6_through_L5  S x1 x2) n5 z5).bind aft5 = some q → W p l e rm_X6_through s m args below meth c H locs 0 0 (MQ below (qc_i wd_M g S q) args s 0 0 (aw g)) (F0 m 5 ls []) := by
    intro x1 x2 aft5 hX5 hR5 n5
    induction n5 with
    | zero => intro ls H locs z5 hl hw hf; exact h_iter0 hf
    | succ n5 ih5 =>
      intro ls H locs z5 hl hw hf
      replace hf := h_iter hf
      unfold f_X6_through_L5 at hf
      have J68 : ∀ (ls : Array Slot) (H : Heap) (locs : List Loc) (x3 : Int32) (x4 : Int32) (x5 : Int32) (x6 : Int32), lv_has ls 7 [(0, .ref (gg_o g 0)), (1, .int x1), (2, .int x2), (3, .int x3), (4, .int x4), (5, .int x5), (6, .int x6)] → HH wd_M g s S H locs → (f_X6_through_J68  S x1 x2 x3 x4 x5 x6).bind (it_K (f_X6_through_L5  S x1 x2) n5 aft5) = some q → W p l e rm_X6_through s m args below meth c H locs 0 0 (MQ below (qc_i wd_M g S q) args s 0 0 (aw g)) (F0 m 68 ls []) := by
        intro ls H locs x3 x4 x5 x6 hl hw hf
        unfold f_X6_through_J68 at hf
        refine lv_iinc hx hb dX6_through_68 hl (k := 3) rfl (congrArg (HAdd.hAdd _) (show Int32.ofInt (1) = 1 by decide)) (by decide) (lv' := [(3, .int (x3 + 1)), (0, .ref (gg_o g 0)), (1, .int x1), (2, .int x2), (4, .int x4), (5, .int x5), (6, .int x6)]) rfl (fun ls hl => ?_)
        refine lv_iload_n hx hb dX6_through_71 rfl (lv_at hl 0 rfl) ?_
        refine lv_iload_n hx hb dX6_through_72 rfl (lv_at hl 3 rfl) ?_
        refine lv_icmp_ne hx hb dX6_through_73 (tgt := 90) rfl (fun hc5 => ?_) (fun hc5 => ?_)
        · replace hf := h_neg hc5 hf
          refine lv_iinc hx hb dX6_through_90 hl (k := 4) rfl (congrArg (HAdd.hAdd _) (show Int32.ofInt (1) = 1 by decide)) (by decide) (lv' := [(4, .int (x4 + 1)), (3, .int (x3 + 1)), (0, .ref (gg_o g 0)), (1, .int x1), (2, .int x2), (5, .int x5), (6, .int x6)]) rfl (fun ls hl => ?_)
          refine lv_goto hx hb dX6_through_93 (tgt := 5) rfl ?_
          exact ih5 _ _ _ ((x3 + 1), (x4 + 1)) (lv_sub hl [2, 3, 4, 1, 0] rfl) hw hf
        replace hf := h_pos hc5 hf
        exact hX5 _ _ _ x5 x6 (lv_sub hl [2, 5, 6] rfl) hw hf
      refine lv_iload hx hb dX6_through_5 (lv_at hl 4 rfl) ?_
      refine lv_aload_n hx hb dX6_through_7 rfl (lv_at hl 0 rfl) ?_
      refine gf_X6_52 cx hw hM dX6_through_8 ?_
      refine lv_aload_n hx hb dX6_through_11 rfl (lv_at hl 0 rfl) ?_
      refine gf_X6_257 cx hw hM dX6_through_12 ?_
      refine r_iald cx hw (hM.2.2.1 25 rfl) rfl rfl hf dX6_through_15 (fun hf => ?_)
      refine lv_icmp_ge hx hb dX6_through_16 (tgt := 96) rfl (fun hc1 => ?_) (fun hc1 => ?_)
      · replace hf := h_pos hc1 hf
        refine lv_iload_n hx hb dX6_through_96 rfl (lv_at hl 1 rfl) ?_
        replace hf := hR5 x1 hf
        exact r_iret cx hw hr hlk hf dX6_through_97
      replace hf := h_neg hc1 hf
      refine lv_aload_n hx hb dX6_through_19 rfl (lv_at hl 0 rfl) ?_
      refine gf_X6_55 cx hw hM dX6_through_20 ?_
      refine lv_bipush (v := 12) hx hb dX6_through_23 (by decide) ?_
      refine lv_aload_n hx hb dX6_through_25 rfl (lv_at hl 0 rfl) ?_
      refine gf_X6_257 cx hw hM dX6_through_26 ?_
      refine lv_imul hx hb dX6_through_29 ?_
      refine lv_iload hx hb dX6_through_30 (lv_at hl 4 rfl) ?_
      refine lv_iadd hx hb dX6_through_32 ?_
      refine r_iald cx hw (hM.2.2.1 26 rfl) rfl rfl hf dX6_through_33 (fun hf => ?_)
      refine r_leti hf (fun u2 hf => ?_)
      refine lv_istore hx hb dX6_through_34 hl (by decide) (lv' := [(5, .int u2), (0, .ref (gg_o g 0)), (1, .int x1), (2, .int x2), (3, .int z5.1), (4, .int z5.2)]) rfl (fun ls hl => ?_)
      refine lv_aload_n hx hb dX6_through_36 rfl (lv_at hl 1 rfl) ?_
      refine gf_X6_58 cx hw hM dX6_through_37 ?_
      refine lv_bipush (v := 12) hx hb dX6_through_40 (by decide) ?_
      refine lv_aload_n hx hb dX6_through_42 rfl (lv_at hl 1 rfl) ?_
      refine gf_X6_257 cx hw hM dX6_through_43 ?_
      refine lv_imul hx hb dX6_through_46 ?_
      refine lv_iload hx hb dX6_through_47 (lv_at hl 5 rfl) ?_
      refine lv_iadd hx hb dX6_through_49 ?_
      refine r_iald cx hw (hM.2.2.1 27 rfl) rfl rfl hf dX6_through_50 (fun hf => ?_)
      refine r_leti hf (fun u3 hf => ?_)
      refine lv_istore hx hb dX6_through_51 hl (by decide) (lv' := [(6, .int u3), (5, .int u2), (0, .ref (gg_o g 0)), (1, .int x1), (2, .int x2), (3, .int z5.1), (4, .int z5.2)]) rfl (fun ls hl => ?_)
      refine lv_iload hx hb dX6_through_53 (lv_at hl 1 rfl) ?_
      refine lv_iload_n hx hb dX6_through_55 rfl (lv_at hl 3 rfl) ?_
      refine lv_icmp_eq hx hb dX6_through_56 (tgt := 68) rfl (fun hc4 => ?_) (fun hc4 => ?_)
      · replace hf := h_pos hc4 hf
        exact J68 _ _ _ z5.1 z5.2 u2 u3 (lv_sub hl [2, 3, 4, 5, 6, 1, 0] rfl) hw hf
      replace hf := h_neg hc4 hf
      refine lv_iload hx hb dX6_through_59 (lv_at hl 0 rfl) ?_
      refine lv_iload_n hx hb dX6_through_61 rfl (lv_at hl 3 rfl) ?_
      refine lv_icmp_eq hx hb dX6_through_62 (tgt := 68) rfl (fun hc6 => ?_) (fun hc6 => ?_)
      · replace hf := h_pos hc6 hf
        exact J68 _ _ _ z5.1 z5.2 u2 u3 (lv_sub hl [2, 3, 4, 5, 6, 1, 0] rfl) hw hf
      replace hf := h_neg hc6 hf
      refine lv_goto hx hb dX6_through_65 (tgt := 90) rfl ?_
      refine lv_iinc hx hb dX6_through_90 hl (k := 6) rfl (congrArg (HAdd.hAdd _) (show Int32.ofInt (1) = 1 by decide)) (by decide) (lv' := [(4, .int (z5.2 + 1)), (6, .int u3), (5, .int u2), (0, .ref (gg_o g 0)), (1, .int x1), (2, .int x2), (3, .int z5.1)]) rfl (fun ls hl => ?_)
      refine lv_goto hx hb dX6_through_93 (tgt := 5) rfl ?_
      exact ih5 _ _ _ (z5.1, (z5.2 + 1)) (lv_sub hl [3, 4, 5, 6, 0] rfl) hw hf
  refine L5 x1 x2 _ (fun ls H locs e7 e8 hl hw hf => ?_) (fun v h => h) FU _ _ _ ((0 : Int32), (0 : Int32)) (lv_sub hl [2, 3, 4, 1, 0] rfl) hw (h_assoc hf)
  try dsimp only at hf
  refine lv_iload hx hb dX6_through_76 (lv_at hl 1 rfl) ?_
  refine lv_iload_n hx hb dX6_through_78 rfl (lv_at hl 0 rfl) ?_
  refine lv_icmp_ne hx hb dX6_through_79 (tgt := 87) rfl (fun hc9 => ?_) (fun hc9 => ?_)
  · replace hf := h_neg hc9 hf
    refine lv_iload hx hb dX6_through_87 (lv_at hl 1 rfl) ?_
    exact r_iret cx hw hr hlk hf dX6_through_89
  replace hf := h_pos hc9 hf
  refine lv_iload hx hb dX6_through_82 (lv_at hl 2 rfl) ?_
  refine lv_goto hx hb dX6_through_84 (tgt := 89) rfl ?_
  exact r_iret cx hw hr hlk hf dX6_through_89
theorem dX6_mixed_0 : decode cX6_mixed 0 = .ok (.iload_n 0, 1) := by decide +kernel
theorem dX6_mixed_1 : decode cX6_mixed 1 = .ok (.iload_n 1, 1) := by decide +kernel
theorem dX6_mixed_2 : decode cX6_mixed 2 = .ok (.ixor, 1) := by decide +kernel
theorem dX6_mixed_3 : decode cX6_mixed 3 = .ok (.ldc_w 381, 3) := by decide +kernel
theorem dX6_mixed_6 : decode cX6_mixed 6 = .ok (.imul, 1) := by decide +kernel
theorem dX6_mixed_7 : decode cX6_mixed 7 = .ok (.sipush 12345, 3) := by decide +kernel
theorem dX6_mixed_10 : decode cX6_mixed 10 = .ok (.iadd, 1) := by decide +kernel
theorem dX6_mixed_11 : decode cX6_mixed 11 = .ok (.istore_n 2, 1) := by decide +kernel
theorem dX6_mixed_12 : decode cX6_mixed 12 = .ok (.iload_n 2, 1) := by decide +kernel
theorem dX6_mixed_13 : decode cX6_mixed 13 = .ok (.iload_n 2, 1) := by decide +kernel
theorem dX6_mixed_14 : decode cX6_mixed 14 = .ok (.bipush 15, 2) := by decide +kernel
theorem dX6_mixed_16 : decode cX6_mixed 16 = .ok (.iushr, 1) := by decide +kernel
theorem dX6_mixed_17 : decode cX6_mixed 17 = .ok (.ixor, 1) := by decide +kernel
theorem dX6_mixed_18 : decode cX6_mixed 18 = .ok (.ireturn, 1) := by decide +kernel
abbrev rm_X6_mixed : Room := { frames := 0, cells := 0, slots := 0, locals := 0 }
def f_X6_mixed (x0 : Int32) (x1 : Int32) : Option (Int32) :=
  lt_v (((x0 ^^^ x1) * (1103515245 : Int32)) + (12345 : Int32)) (fun (u1 : Int32) => some (u1 ^^^ (i_ushr u1 (15 : Int32))))
set_option maxRecDepth 100000 in
set_option maxHeartbeats 4000000 in
theorem k_X6_mixed (l : Launch) (g : GG) (hg : gd wd_M g)  (S : St) (x0 : Int32) (x1 : Int32) (q : Int32) (hf : f_X6_mixed   x0 x1 = some q) : Met l yX6_mixed (Cond.code yX6_mixed cX6_mixed 3 (some .int) :: gw_tbl) rm_X6_mixed (va_Pc [.int x0, .int x1] (wI wd_M g S)) (qc_i wd_M g S q) 0 0 (aw g) := by
  refine mt_start (own := RX6) hg (by decide) rfl (Nat.le_of_ble_eq_true rfl) (fun p e s m args below meth c ls H locs cx hw hr hlk hl => ?_)
  have hx := cx.1
  have hb := cx.2.1
  have hown := cx.2.2.2.1
  have hts := cx.2.2.2.2.1
  have hl : lv_has ls 3 [(0, .int x0), (1, .int x1)] := hl
  replace hf := h_top hf
  unfold f_X6_mixed at hf
  refine lv_iload_n hx hb dX6_mixed_0 rfl (lv_at hl 0 rfl) ?_
  refine lv_iload_n hx hb dX6_mixed_1 rfl (lv_at hl 1 rfl) ?_
  refine lv_ixor hx hb dX6_mixed_2 ?_
  refine lv_ldcw hx hb hown (hts _ wd_1546) dX6_mixed_3 ?_
  refine lv_imul hx hb dX6_mixed_6 ?_
  refine lv_sipush (v := 12345) hx hb dX6_mixed_7 (by decide) ?_
  refine lv_iadd hx hb dX6_mixed_10 ?_
  refine r_leti hf (fun u1 hf => ?_)
  refine lv_istore_n hx hb dX6_mixed_11 rfl hl (by decide) (lv' := [(2, .int u1), (0, .int x0), (1, .int x1)]) rfl (fun ls hl => ?_)
  refine lv_iload_n hx hb dX6_mixed_12 rfl (lv_at hl 0 rfl) ?_
  refine lv_iload_n hx hb dX6_mixed_13 rfl (lv_at hl 0 rfl) ?_
  refine lv_bipush (v := 15) hx hb dX6_mixed_14 (by decide) ?_
  refine lv_iushr (v := i_ushr u1 (15 : Int32)) hx hb dX6_mixed_16 rfl ?_
  refine lv_ixor hx hb dX6_mixed_17 ?_
  exact r_iret cx hw hr hlk hf dX6_mixed_18
theorem dX6_lotOf_0 : decode cX6_lotOf 0 = .ok (.aload_n 0, 1) := by decide +kernel
theorem dX6_lotOf_1 : decode cX6_lotOf 1 = .ok (.getfield 351, 3) := by decide +kernel
theorem dX6_lotOf_4 : decode cX6_lotOf 4 = .ok (.bipush 43, 2) := by decide +kernel
theorem dX6_lotOf_6 : decode cX6_lotOf 6 = .ok (.invokestatic 382, 3) := by decide +kernel
theorem dX6_lotOf_9 : decode cX6_lotOf 9 = .ok (.bipush 8, 2) := by decide +kernel
theorem dX6_lotOf_11 : decode cX6_lotOf 11 = .ok (.aload_n 0, 1) := by decide +kernel
theorem dX6_lotOf_12 : decode cX6_lotOf 12 = .ok (.getfield 348, 3) := by decide +kernel
theorem dX6_lotOf_15 : decode cX6_lotOf 15 = .ok (.imul, 1) := by decide +kernel
theorem dX6_lotOf_16 : decode cX6_lotOf 16 = .ok (.iload_n 1, 1) := by decide +kernel
theorem dX6_lotOf_17 : decode cX6_lotOf 17 = .ok (.iadd, 1) := by decide +kernel
theorem dX6_lotOf_18 : decode cX6_lotOf 18 = .ok (.invokestatic 382, 3) := by decide +kernel
theorem dX6_lotOf_21 : decode cX6_lotOf 21 = .ok (.iconst 1, 1) := by decide +kernel
theorem dX6_lotOf_22 : decode cX6_lotOf 22 = .ok (.iushr, 1) := by decide +kernel
theorem dX6_lotOf_23 : decode cX6_lotOf 23 = .ok (.bipush 100, 2) := by decide +kernel
theorem dX6_lotOf_25 : decode cX6_lotOf 25 = .ok (.irem, 1) := by decide +kernel
theorem dX6_lotOf_26 : decode cX6_lotOf 26 = .ok (.ireturn, 1) := by decide +kernel
abbrev rm_X6_lotOf : Room := { frames := 1, cells := 0, slots := 0, locals := 22 }
def f_X6_lotOf (S : St) (x1 : Int32) : Option (Int32) :=
  (f_X6_mixed   (st_I S (ky 0 60)) (43 : Int32)).bind (fun (q1 : Int32) => (f_X6_mixed   q1 (((8 : Int32) * (st_I S (ky 0 57))) + x1)).bind (fun (q2 : Int32) => chk (¬ (100 : Int32) = 0) (some (i_rem (i_ushr q2 (1 : Int32)) (100 : Int32)))))
set_option maxRecDepth 100000 in
set_option maxHeartbeats 4000000 in
theorem k_X6_lotOf (l : Launch) (g : GG) (hg : gd wd_M g)  (hM : hs wd_M g 0 6) (S : St) (x1 : Int32) (q : Int32) (hf : f_X6_lotOf  S x1 = some q) : Met l yX6_lotOf (Cond.code yX6_lotOf cX6_lotOf 2 (some .int) :: gw_tbl) rm_X6_lotOf (va_Pc [.ref (gg_o g 0), .int x1] (wI wd_M g S)) (qc_i wd_M g S q) 0 0 (aw g) := by
  refine mt_start (own := RX6) hg (by decide) rfl (Nat.le_of_ble_eq_true rfl) (fun p e s m args below meth c ls H locs cx hw hr hlk hl => ?_)
  have hx := cx.1
  have hb := cx.2.1
  have hown := cx.2.2.2.1
  have hts := cx.2.2.2.2.1
  have hl : lv_has ls 2 [(0, .ref (gg_o g 0)), (1, .int x1)] := hl
  replace hf := h_top hf
  unfold f_X6_lotOf at hf
  refine lv_aload_n hx hb dX6_lotOf_0 rfl (lv_at hl 0 rfl) ?_
  refine gf_X6_351 cx hw hM dX6_lotOf_1 ?_
  refine lv_bipush (v := 43) hx hb dX6_lotOf_4 (by decide) ?_
  refine r_S_i (As := [.int (st_I S (ky 0 60)), .int (43 : Int32)]) (rest := []) cx hw hf lk_X6_382 (fun q1 hq => k_X6_mixed l g hg   S (st_I S (ky 0 60)) (43 : Int32) q1 hq) ⟨⟨rfl, rfl⟩, Nat.le_of_ble_eq_true rfl, Nat.le_of_ble_eq_true rfl⟩ rfl hl.1 rfl (Nat.le_of_ble_eq_true rfl) dX6_lotOf_6 ⟨Nat.zero_le _, Nat.zero_le _⟩ (fun q1 H locs hw hf => ?_)
  refine lv_bipush (v := 8) hx hb dX6_lotOf_9 (by decide) ?_
  refine lv_aload_n hx hb dX6_lotOf_11 rfl (lv_at hl 0 rfl) ?_
  refine gf_X6_348 cx hw hM dX6_lotOf_12 ?_
  refine lv_imul hx hb dX6_lotOf_15 ?_
  refine lv_iload_n hx hb dX6_lotOf_16 rfl (lv_at hl 1 rfl) ?_
  refine lv_iadd hx hb dX6_lotOf_17 ?_
  refine r_S_i (As := [.int q1, .int (((8 : Int32) * (st_I S (ky 0 57))) + x1)]) (rest := []) cx hw hf lk_X6_382 (fun q2 hq => k_X6_mixed l g hg   S q1 (((8 : Int32) * (st_I S (ky 0 57))) + x1) q2 hq) ⟨⟨rfl, rfl⟩, Nat.le_of_ble_eq_true rfl, Nat.le_of_ble_eq_true rfl⟩ rfl hl.1 rfl (Nat.le_of_ble_eq_true rfl) dX6_lotOf_18 ⟨Nat.zero_le _, Nat.zero_le _⟩ (fun q2 H locs hw hf => ?_)
  refine lv_iconst (v := 1) hx hb dX6_lotOf_21 (by decide) ?_
  refine lv_iushr (v := i_ushr q2 (1 : Int32)) hx hb dX6_lotOf_22 rfl ?_
  refine lv_bipush (v := 100) hx hb dX6_lotOf_23 (by decide) ?_
  obtain ⟨hc3, hf⟩ := h_chk hf
  refine lv_irem hx hb dX6_lotOf_25 hc3 ?_
  exact r_iret cx hw hr hlk hf dX6_lotOf_26
theorem dX6_goesTo_0 : decode cX6_goesTo 0 = .ok (.aload_n 0, 1) := by decide +kernel
theorem dX6_goesTo_1 : decode cX6_goesTo 1 = .ok (.getfield 131, 3) := by decide +kernel
theorem dX6_goesTo_4 : decode cX6_goesTo 4 = .ok (.bipush 36, 2) := by decide +kernel
theorem dX6_goesTo_6 : decode cX6_goesTo 6 = .ok (.aload_n 0, 1) := by decide +kernel
theorem dX6_goesTo_7 : decode cX6_goesTo 7 = .ok (.getfield 348, 3) := by decide +kernel
theorem dX6_goesTo_10 : decode cX6_goesTo 10 = .ok (.imul, 1) := by decide +kernel
theorem dX6_goesTo_11 : decode cX6_goesTo 11 = .ok (.iload_n 1, 1) := by decide +kernel
theorem dX6_goesTo_12 : decode cX6_goesTo 12 = .ok (.iadd, 1) := by decide +kernel
theorem dX6_goesTo_13 : decode cX6_goesTo 13 = .ok (.iaload, 1) := by decide +kernel
theorem dX6_goesTo_14 : decode cX6_goesTo 14 = .ok (.istore_n 2, 1) := by decide +kernel
theorem dX6_goesTo_15 : decode cX6_goesTo 15 = .ok (.aload_n 0, 1) := by decide +kernel
theorem dX6_goesTo_16 : decode cX6_goesTo 16 = .ok (.iload_n 2, 1) := by decide +kernel
theorem dX6_goesTo_17 : decode cX6_goesTo 17 = .ok (.invokevirtual 363, 3) := by decide +kernel
theorem dX6_goesTo_20 : decode cX6_goesTo 20 = .ok (.istore_n 3, 1) := by decide +kernel
theorem dX6_goesTo_21 : decode cX6_goesTo 21 = .ok (.aload_n 0, 1) := by decide +kernel
theorem dX6_goesTo_22 : decode cX6_goesTo 22 = .ok (.getfield 116, 3) := by decide +kernel
theorem dX6_goesTo_25 : decode cX6_goesTo 25 = .ok (.iconst 0, 1) := by decide +kernel
theorem dX6_goesTo_26 : decode cX6_goesTo 26 = .ok (.aload_n 0, 1) := by decide +kernel
theorem dX6_goesTo_27 : decode cX6_goesTo 27 = .ok (.getfield 348, 3) := by decide +kernel
theorem dX6_goesTo_30 : decode cX6_goesTo 30 = .ok (.iastore, 1) := by decide +kernel
theorem dX6_goesTo_31 : decode cX6_goesTo 31 = .ok (.aload_n 0, 1) := by decide +kernel
theorem dX6_goesTo_32 : decode cX6_goesTo 32 = .ok (.getfield 116, 3) := by decide +kernel
theorem dX6_goesTo_35 : decode cX6_goesTo 35 = .ok (.iconst 1, 1) := by decide +kernel
theorem dX6_goesTo_36 : decode cX6_goesTo 36 = .ok (.iload_n 2, 1) := by decide +kernel
theorem dX6_goesTo_37 : decode cX6_goesTo 37 = .ok (.iastore, 1) := by decide +kernel
theorem dX6_goesTo_38 : decode cX6_goesTo 38 = .ok (.aload_n 0, 1) := by decide +kernel
theorem dX6_goesTo_39 : decode cX6_goesTo 39 = .ok (.getfield 116, 3) := by decide +kernel
theorem dX6_goesTo_42 : decode cX6_goesTo 42 = .ok (.iconst 2, 1) := by decide +kernel
theorem dX6_goesTo_43 : decode cX6_goesTo 43 = .ok (.aload_n 0, 1) := by decide +kernel
theorem dX6_goesTo_44 : decode cX6_goesTo 44 = .ok (.getfield 131, 3) := by decide +kernel
theorem dX6_goesTo_47 : decode cX6_goesTo 47 = .ok (.bipush 36, 2) := by decide +kernel
theorem dX6_goesTo_49 : decode cX6_goesTo 49 = .ok (.aload_n 0, 1) := by decide +kernel
theorem dX6_goesTo_50 : decode cX6_goesTo 50 = .ok (.getfield 348, 3) := by decide +kernel
theorem dX6_goesTo_53 : decode cX6_goesTo 53 = .ok (.imul, 1) := by decide +kernel
theorem dX6_goesTo_54 : decode cX6_goesTo 54 = .ok (.bipush 6, 2) := by decide +kernel
theorem dX6_goesTo_56 : decode cX6_goesTo 56 = .ok (.iadd, 1) := by decide +kernel
theorem dX6_goesTo_57 : decode cX6_goesTo 57 = .ok (.iload_n 1, 1) := by decide +kernel
theorem dX6_goesTo_58 : decode cX6_goesTo 58 = .ok (.iadd, 1) := by decide +kernel
theorem dX6_goesTo_59 : decode cX6_goesTo 59 = .ok (.iaload, 1) := by decide +kernel
theorem dX6_goesTo_60 : decode cX6_goesTo 60 = .ok (.iastore, 1) := by decide +kernel
theorem dX6_goesTo_61 : decode cX6_goesTo 61 = .ok (.aload_n 0, 1) := by decide +kernel
theorem dX6_goesTo_62 : decode cX6_goesTo 62 = .ok (.getfield 116, 3) := by decide +kernel
theorem dX6_goesTo_65 : decode cX6_goesTo 65 = .ok (.iconst 3, 1) := by decide +kernel
theorem dX6_goesTo_66 : decode cX6_goesTo 66 = .ok (.iload_n 1, 1) := by decide +kernel
theorem dX6_goesTo_67 : decode cX6_goesTo 67 = .ok (.iastore, 1) := by decide +kernel
theorem dX6_goesTo_68 : decode cX6_goesTo 68 = .ok (.aload_n 0, 1) := by decide +kernel
theorem dX6_goesTo_69 : decode cX6_goesTo 69 = .ok (.getfield 116, 3) := by decide +kernel
theorem dX6_goesTo_72 : decode cX6_goesTo 72 = .ok (.iconst 4, 1) := by decide +kernel
theorem dX6_goesTo_73 : decode cX6_goesTo 73 = .ok (.iload_n 3, 1) := by decide +kernel
theorem dX6_goesTo_74 : decode cX6_goesTo 74 = .ok (.iastore, 1) := by decide +kernel
theorem dX6_goesTo_75 : decode cX6_goesTo 75 = .ok (.aload_n 0, 1) := by decide +kernel
theorem dX6_goesTo_76 : decode cX6_goesTo 76 = .ok (.getfield 116, 3) := by decide +kernel
theorem dX6_goesTo_79 : decode cX6_goesTo 79 = .ok (.iconst 5, 1) := by decide +kernel
theorem dX6_goesTo_80 : decode cX6_goesTo 80 = .ok (.aload_n 0, 1) := by decide +kernel
theorem dX6_goesTo_81 : decode cX6_goesTo 81 = .ok (.iload_n 2, 1) := by decide +kernel
theorem dX6_goesTo_82 : decode cX6_goesTo 82 = .ok (.aload_n 0, 1) := by decide +kernel
theorem dX6_goesTo_83 : decode cX6_goesTo 83 = .ok (.getfield 348, 3) := by decide +kernel
theorem dX6_goesTo_86 : decode cX6_goesTo 86 = .ok (.invokevirtual 366, 3) := by decide +kernel
theorem dX6_goesTo_89 : decode cX6_goesTo 89 = .ok (.invokestatic 369, 3) := by decide +kernel
theorem dX6_goesTo_92 : decode cX6_goesTo 92 = .ok (.iconst 1, 1) := by decide +kernel
theorem dX6_goesTo_93 : decode cX6_goesTo 93 = .ok (.isub, 1) := by decide +kernel
theorem dX6_goesTo_94 : decode cX6_goesTo 94 = .ok (.iastore, 1) := by decide +kernel
theorem dX6_goesTo_95 : decode cX6_goesTo 95 = .ok (.aload_n 0, 1) := by decide +kernel
theorem dX6_goesTo_96 : decode cX6_goesTo 96 = .ok (.iload_n 1, 1) := by decide +kernel
theorem dX6_goesTo_97 : decode cX6_goesTo 97 = .ok (.iconst 0, 1) := by decide +kernel
theorem dX6_goesTo_98 : decode cX6_goesTo 98 = .ok (.invokevirtual 372, 3) := by decide +kernel
theorem dX6_goesTo_101 : decode cX6_goesTo 101 = .ok (.istore 4, 2) := by decide +kernel
theorem dX6_goesTo_103 : decode cX6_goesTo 103 = .ok (.iload 4, 2) := by decide +kernel
theorem dX6_goesTo_105 : decode cX6_goesTo 105 = .ok (.ifCond .ge 7, 3) := by decide +kernel
theorem dX6_goesTo_108 : decode cX6_goesTo 108 = .ok (.iconst 0, 1) := by decide +kernel
theorem dX6_goesTo_109 : decode cX6_goesTo 109 = .ok (.goto 9, 3) := by decide +kernel
theorem dX6_goesTo_112 : decode cX6_goesTo 112 = .ok (.iload 4, 2) := by decide +kernel
theorem dX6_goesTo_114 : decode cX6_goesTo 114 = .ok (.iload_n 3, 1) := by decide +kernel
theorem dX6_goesTo_115 : decode cX6_goesTo 115 = .ok (.iconst 1, 1) := by decide +kernel
theorem dX6_goesTo_116 : decode cX6_goesTo 116 = .ok (.iadd, 1) := by decide +kernel
theorem dX6_goesTo_117 : decode cX6_goesTo 117 = .ok (.irem, 1) := by decide +kernel
theorem dX6_goesTo_118 : decode cX6_goesTo 118 = .ok (.istore 5, 2) := by decide +kernel
theorem dX6_goesTo_120 : decode cX6_goesTo 120 = .ok (.iload 5, 2) := by decide +kernel
theorem dX6_goesTo_122 : decode cX6_goesTo 122 = .ok (.ifCond .ne 7, 3) := by decide +kernel
theorem dX6_goesTo_125 : decode cX6_goesTo 125 = .ok (.iload_n 2, 1) := by decide +kernel
theorem dX6_goesTo_126 : decode cX6_goesTo 126 = .ok (.goto 10, 3) := by decide +kernel
theorem dX6_goesTo_129 : decode cX6_goesTo 129 = .ok (.aload_n 0, 1) := by decide +kernel
theorem dX6_goesTo_130 : decode cX6_goesTo 130 = .ok (.iload_n 2, 1) := by decide +kernel
theorem dX6_goesTo_131 : decode cX6_goesTo 131 = .ok (.iload 5, 2) := by decide +kernel
theorem dX6_goesTo_133 : decode cX6_goesTo 133 = .ok (.invokevirtual 385, 3) := by decide +kernel
theorem dX6_goesTo_136 : decode cX6_goesTo 136 = .ok (.ireturn, 1) := by decide +kernel
abbrev rm_X6_goesTo : Room := { frames := 2, cells := 0, slots := 0, locals := 53 }
def f_X6_goesTo_J118 (S : St) (x2 : Int32) (y0 : Int32) : Option (Int32 × St) :=
  if y0 = 0 then (some (x2, S)) else ((f_X6_through  S x2 y0).bind (fun (q15 : Int32) => some (q15, S)))
def f_X6_goesTo (S : St) (x1 : Int32) : Option (Int32 × St) :=
  chk (ib (((36 : Int32) * (st_I S (ky 0 57))) + x1) 10800) (lt_v (st_A S (ky 0 56) (((36 : Int32) * (st_I S (ky 0 57))) + x1).toNatClampNeg) (fun (u1 : Int32) => (f_X6_waysOf  S u1).bind (fun (q2 : Int32) => chk (ib (0 : Int32) 6) (lt_v (up_A S (ky 0 49) (upd (st_A S (ky 0 49)) (0 : Int32).toNatClampNeg (st_I S (ky 0 57)))) (fun (S3 : St) => chk (ib (1 : Int32) 6) (lt_v (up_A S3 (ky 0 49) (upd (st_A S3 (ky 0 49)) (1 : Int32).toNatClampNeg u1)) (fun (S4 : St) => chk (ib ((((36 : Int32) * (st_I S4 (ky 0 57))) + (6 : Int32)) + x1) 10800) (chk (ib (2 : Int32) 6) (lt_v (up_A S4 (ky 0 49) (upd (st_A S4 (ky 0 49)) (2 : Int32).toNatClampNeg (st_A S4 (ky 0 56) ((((36 : Int32) * (st_I S4 (ky 0 57))) + (6 : Int32)) + x1).toNatClampNeg))) (fun (S5 : St) => chk (ib (3 : Int32) 6) (lt_v (up_A S5 (ky 0 49) (upd (st_A S5 (ky 0 49)) (3 : Int32).toNatClampNeg x1)) (fun (S6 : St) => chk (ib (4 : Int32) 6) (lt_v (up_A S6 (ky 0 49) (upd (st_A S6 (ky 0 49)) (4 : Int32).toNatClampNeg q2)) (fun (S7 : St) => (f_X6_menIn  S7 u1 (st_I S7 (ky 0 57))).bind (fun (q8 : Int32) => (f_X6_bits   q8).bind (fun (q9 : Int32) => chk (ib (5 : Int32) 6) (lt_v (up_A S7 (ky 0 49) (upd (st_A S7 (ky 0 49)) (5 : Int32).toNatClampNeg (q9 - (1 : Int32)))) (fun (S10 : St) => (f_X6_tells  S10 x1 (0 : Int32)).bind (fun (q11 : Int32 × St) => if 0 ≤ q11.1 then (chk (¬ (q2 + (1 : Int32)) = 0) (f_X6_goesTo_J118  q11.2 u1 (i_rem q11.1 (q2 + (1 : Int32))))) else (f_X6_goesTo_J118  q11.2 u1 (0 : Int32)))))))))))))))))))))
set_option maxRecDepth 100000 in
set_option maxHeartbeats 4000000 in
theorem k_X6_goesTo (l : Launch) (g : GG) (hg : gd wd_M g)  (hM : hs wd_M g 0 6) (S : St) (x1 : Int32) (q : Int32 × St) (hf : f_X6_goesTo  S x1 = some q) : Met l yX6_goesTo (Cond.code yX6_goesTo cX6_goesTo 6 (some .int) :: gw_tbl) rm_X6_goesTo (va_Pc [.ref (gg_o g 0), .int x1] (wI wd_M g S)) (qc_w wd_M g q) 0 0 (aw g) := by
  refine mt_start (own := RX6) hg (by decide) rfl (Nat.le_of_ble_eq_true rfl) (fun p e s m args below meth c ls H locs cx hw hr hlk hl => ?_)
  have hx := cx.1
  have hb := cx.2.1
  have hown := cx.2.2.2.1
  have hts := cx.2.2.2.2.1
  have hl : lv_has ls 6 [(0, .ref (gg_o g 0)), (1, .int x1)] := hl
  replace hf := h_top hf
  unfold f_X6_goesTo at hf
  have J118 : ∀ (ls : Array Slot) (H : Heap) (locs : List Loc) (S : St) (x2 : Int32) (y0 : Int32), lv_has ls 6 [(0, .ref (gg_o g 0)), (2, .int x2)] → HH wd_M g s S H locs → (f_X6_goesTo_J118  S x2 y0).bind some = some q → W p l e rm_X6_goesTo s m args below meth c H locs 0 0 (MQ below (qc_w wd_M g q) args s 0 0 (aw g)) (F0 m 118 ls [.int y0]) := by
    intro ls H locs S x2 y0 hl hw hf
    unfold f_X6_goesTo_J118 at hf
    refine lv_istore hx hb dX6_goesTo_118 hl (by decide) (lv' := [(5, .int y0), (0, .ref (gg_o g 0)), (2, .int x2)]) rfl (fun ls hl => ?_)
    refine lv_iload hx hb dX6_goesTo_120 (lv_at hl 0 rfl) ?_
    refine lv_if_ne hx hb dX6_goesTo_122 (tgt := 129) rfl (fun hc14 => ?_) (fun hc14 => ?_)
    · replace hf := h_neg hc14 hf
      refine lv_aload_n hx hb dX6_goesTo_129 rfl (lv_at hl 1 rfl) ?_
      refine lv_iload_n hx hb dX6_goesTo_130 rfl (lv_at hl 2 rfl) ?_
      refine lv_iload hx hb dX6_goesTo_131 (lv_at hl 0 rfl) ?_
      refine r_V_i (As := [.int x2, .int y0]) (rest := []) cx hw hf hM.2.1 (by rw [hM.1]; rfl) lk_X6_385 (fun q15 hq => k_X6_through l g hg  hM S x2 y0 q15 hq) ⟨⟨rfl, rfl⟩, Nat.le_of_ble_eq_true rfl, Nat.le_of_ble_eq_true rfl⟩ rfl hl.1 rfl (Nat.le_of_ble_eq_true rfl) dX6_goesTo_133 ⟨Nat.zero_le _, Nat.zero_le _⟩ (fun q15 H locs hw hf => ?_)
      exact r_iretw cx hw hr hlk hf dX6_goesTo_136
    replace hf := h_pos hc14 hf
    refine lv_iload_n hx hb dX6_goesTo_125 rfl (lv_at hl 2 rfl) ?_
    refine lv_goto hx hb dX6_goesTo_126 (tgt := 136) rfl ?_
    exact r_iretw cx hw hr hlk hf dX6_goesTo_136
  refine lv_aload_n hx hb dX6_goesTo_0 rfl (lv_at hl 0 rfl) ?_
  refine gf_X6_131 cx hw hM dX6_goesTo_1 ?_
  refine lv_bipush (v := 36) hx hb dX6_goesTo_4 (by decide) ?_
  refine lv_aload_n hx hb dX6_goesTo_6 rfl (lv_at hl 0 rfl) ?_
  refine gf_X6_348 cx hw hM dX6_goesTo_7 ?_
  refine lv_imul hx hb dX6_goesTo_10 ?_
  refine lv_iload_n hx hb dX6_goesTo_11 rfl (lv_at hl 1 rfl) ?_
  refine lv_iadd hx hb dX6_goesTo_12 ?_
  refine r_iald cx hw (hM.2.2.1 56 rfl) rfl rfl hf dX6_goesTo_13 (fun hf => ?_)
  refine r_leti hf (fun u1 hf => ?_)
  refine lv_istore_n hx hb dX6_goesTo_14 rfl hl (by decide) (lv' := [(2, .int u1), (0, .ref (gg_o g 0)), (1, .int x1)]) rfl (fun ls hl => ?_)
  refine lv_aload_n hx hb dX6_goesTo_15 rfl (lv_at hl 1 rfl) ?_
  refine lv_iload_n hx hb dX6_goesTo_16 rfl (lv_at hl 0 rfl) ?_
  refine r_V_i (As := [.int u1]) (rest := []) cx hw hf hM.2.1 (by rw [hM.1]; rfl) lk_X6_363 (fun q2 hq => k_X6_waysOf l g hg  hM S u1 q2 hq) ⟨⟨rfl, rfl⟩, Nat.le_of_ble_eq_true rfl, Nat.le_of_ble_eq_true rfl⟩ rfl hl.1 rfl (Nat.le_of_ble_eq_true rfl) dX6_goesTo_17 ⟨Nat.zero_le _, Nat.zero_le _⟩ (fun q2 H locs hw hf => ?_)
  refine lv_istore_n hx hb dX6_goesTo_20 rfl hl (by decide) (lv' := [(3, .int q2), (2, .int u1), (0, .ref (gg_o g 0)), (1, .int x1)]) rfl (fun ls hl => ?_)
  refine lv_aload_n hx hb dX6_goesTo_21 rfl (lv_at hl 2 rfl) ?_
  refine gf_X6_116 cx hw hM dX6_goesTo_22 ?_
  refine lv_iconst (v := 0) hx hb dX6_goesTo_25 (by decide) ?_
  refine lv_aload_n hx hb dX6_goesTo_26 rfl (lv_at hl 2 rfl) ?_
  refine gf_X6_348 cx hw hM dX6_goesTo_27 ?_
  refine r_iast cx hw (hM.2.2.1 49 rfl) rfl rfl hf dX6_goesTo_30 (fun S3 H locs hw hf => ?_)
  refine lv_aload_n hx hb dX6_goesTo_31 rfl (lv_at hl 2 rfl) ?_
  refine gf_X6_116 cx hw hM dX6_goesTo_32 ?_
  refine lv_iconst (v := 1) hx hb dX6_goesTo_35 (by decide) ?_
  refine lv_iload_n hx hb dX6_goesTo_36 rfl (lv_at hl 1 rfl) ?_
  refine r_iast cx hw (hM.2.2.1 49 rfl) rfl rfl hf dX6_goesTo_37 (fun S4 H locs hw hf => ?_)
  refine lv_aload_n hx hb dX6_goesTo_38 rfl (lv_at hl 2 rfl) ?_
  refine gf_X6_116 cx hw hM dX6_goesTo_39 ?_
  refine lv_iconst (v := 2) hx hb dX6_goesTo_42 (by decide) ?_
  refine lv_aload_n hx hb dX6_goesTo_43 rfl (lv_at hl 2 rfl) ?_
  refine gf_X6_131 cx hw hM dX6_goesTo_44 ?_
  refine lv_bipush (v := 36) hx hb dX6_goesTo_47 (by decide) ?_
  refine lv_aload_n hx hb dX6_goesTo_49 rfl (lv_at hl 2 rfl) ?_
  refine gf_X6_348 cx hw hM dX6_goesTo_50 ?_
  refine lv_imul hx hb dX6_goesTo_53 ?_
  refine lv_bipush (v := 6) hx hb dX6_goesTo_54 (by decide) ?_
  refine lv_iadd hx hb dX6_goesTo_56 ?_
  refine lv_iload_n hx hb dX6_goesTo_57 rfl (lv_at hl 3 rfl) ?_
  refine lv_iadd hx hb dX6_goesTo_58 ?_
  refine r_iald cx hw (hM.2.2.1 56 rfl) rfl rfl hf dX6_goesTo_59 (fun hf => ?_)
  refine r_iast cx hw (hM.2.2.1 49 rfl) rfl rfl hf dX6_goesTo_60 (fun S5 H locs hw hf => ?_)
  refine lv_aload_n hx hb dX6_goesTo_61 rfl (lv_at hl 2 rfl) ?_
  refine gf_X6_116 cx hw hM dX6_goesTo_62 ?_
  refine lv_iconst (v := 3) hx hb dX6_goesTo_65 (by decide) ?_
  refine lv_iload_n hx hb dX6_goesTo_66 rfl (lv_at hl 3 rfl) ?_
  refine r_iast cx hw (hM.2.2.1 49 rfl) rfl rfl hf dX6_goesTo_67 (fun S6 H locs hw hf => ?_)
  refine lv_aload_n hx hb dX6_goesTo_68 rfl (lv_at hl 2 rfl) ?_
  refine gf_X6_116 cx hw hM dX6_goesTo_69 ?_
  refine lv_iconst (v := 4) hx hb dX6_goesTo_72 (by decide) ?_
  refine lv_iload_n hx hb dX6_goesTo_73 rfl (lv_at hl 0 rfl) ?_
  refine r_iast cx hw (hM.2.2.1 49 rfl) rfl rfl hf dX6_goesTo_74 (fun S7 H locs hw hf => ?_)
  refine lv_aload_n hx hb dX6_goesTo_75 rfl (lv_at hl 2 rfl) ?_
  refine gf_X6_116 cx hw hM dX6_goesTo_76 ?_
  refine lv_iconst (v := 5) hx hb dX6_goesTo_79 (by decide) ?_
  refine lv_aload_n hx hb dX6_goesTo_80 rfl (lv_at hl 2 rfl) ?_
  refine lv_iload_n hx hb dX6_goesTo_81 rfl (lv_at hl 1 rfl) ?_
  refine lv_aload_n hx hb dX6_goesTo_82 rfl (lv_at hl 2 rfl) ?_
  refine gf_X6_348 cx hw hM dX6_goesTo_83 ?_
  refine r_V_i (As := [.int u1, .int (st_I S7 (ky 0 57))]) (rest := [.int (5 : Int32), .ref (gg_a g (ky 0 49))]) cx hw hf hM.2.1 (by rw [hM.1]; rfl) lk_X6_366 (fun q8 hq => k_X6_menIn l g hg  hM S7 u1 (st_I S7 (ky 0 57)) q8 hq) ⟨⟨rfl, rfl⟩, Nat.le_of_ble_eq_true rfl, Nat.le_of_ble_eq_true rfl⟩ rfl hl.1 rfl (Nat.le_of_ble_eq_true rfl) dX6_goesTo_86 ⟨Nat.zero_le _, Nat.zero_le _⟩ (fun q8 H locs hw hf => ?_)
  refine r_S_i (As := [.int q8]) (rest := [.int (5 : Int32), .ref (gg_a g (ky 0 49))]) cx hw hf lk_X6_369 (fun q9 hq => k_X6_bits l g hg   S7 q8 q9 hq) ⟨⟨rfl, rfl⟩, Nat.le_of_ble_eq_true rfl, Nat.le_of_ble_eq_true rfl⟩ rfl hl.1 rfl (Nat.le_of_ble_eq_true rfl) dX6_goesTo_89 ⟨Nat.zero_le _, Nat.zero_le _⟩ (fun q9 H locs hw hf => ?_)
  refine lv_iconst (v := 1) hx hb dX6_goesTo_92 (by decide) ?_
  refine lv_isub hx hb dX6_goesTo_93 ?_
  refine r_iast cx hw (hM.2.2.1 49 rfl) rfl rfl hf dX6_goesTo_94 (fun S10 H locs hw hf => ?_)
  refine lv_aload_n hx hb dX6_goesTo_95 rfl (lv_at hl 2 rfl) ?_
  refine lv_iload_n hx hb dX6_goesTo_96 rfl (lv_at hl 3 rfl) ?_
  refine lv_iconst (v := 0) hx hb dX6_goesTo_97 (by decide) ?_
  refine r_V_w (As := [.int x1, .int (0 : Int32)]) (rest := []) cx hw hf hM.2.1 (by rw [hM.1]; rfl) lk_X6_372 (fun q11 hq => k_X6_tells l g hg  hM S10 x1 (0 : Int32) q11 hq) ⟨⟨rfl, rfl⟩, Nat.le_of_ble_eq_true rfl, Nat.le_of_ble_eq_true rfl⟩ rfl hl.1 rfl (Nat.le_of_ble_eq_true rfl) dX6_goesTo_98 ⟨Nat.zero_le _, Nat.zero_le _⟩ (fun q11 H locs hw hf => ?_)
  refine lv_istore hx hb dX6_goesTo_101 hl (by decide) (lv' := [(4, .int q11.1), (3, .int q2), (2, .int u1), (0, .ref (gg_o g 0)), (1, .int x1)]) rfl (fun ls hl => ?_)
  refine lv_iload hx hb dX6_goesTo_103 (lv_at hl 0 rfl) ?_
  refine lv_if_ge hx hb dX6_goesTo_105 (tgt := 112) rfl (fun hc12 => ?_) (fun hc12 => ?_)
  · replace hf := h_pos hc12 hf
    refine lv_iload hx hb dX6_goesTo_112 (lv_at hl 0 rfl) ?_
    refine lv_iload_n hx hb dX6_goesTo_114 rfl (lv_at hl 1 rfl) ?_
    refine lv_iconst (v := 1) hx hb dX6_goesTo_115 (by decide) ?_
    refine lv_iadd hx hb dX6_goesTo_116 ?_
    obtain ⟨hc13, hf⟩ := h_chk hf
    refine lv_irem hx hb dX6_goesTo_117 hc13 ?_
    exact J118 _ _ _ q11.2 u1 (i_rem q11.1 (q2 + (1 : Int32))) (lv_sub hl [3, 2] rfl) hw hf
  replace hf := h_neg hc12 hf
  refine lv_iconst (v := 0) hx hb dX6_goesTo_108 (by decide) ?_
  refine lv_goto hx hb dX6_goesTo_109 (tgt := 118) rfl ?_
  exact J118 _ _ _ q11.2 u1 (0 : Int32) (lv_sub hl [3, 2] rfl) hw hf
theorem dX6_isTurned_0 : decode cX6_isTurned 0 = .ok (.aload_n 0, 1) := by decide +kernel
theorem dX6_isTurned_1 : decode cX6_isTurned 1 = .ok (.getfield 131, 3) := by decide +kernel
theorem dX6_isTurned_4 : decode cX6_isTurned 4 = .ok (.bipush 36, 2) := by decide +kernel
theorem dX6_isTurned_6 : decode cX6_isTurned 6 = .ok (.iload_n 2, 1) := by decide +kernel
theorem dX6_isTurned_7 : decode cX6_isTurned 7 = .ok (.imul, 1) := by decide +kernel
theorem dX6_isTurned_8 : decode cX6_isTurned 8 = .ok (.bipush 20, 2) := by decide +kernel
theorem dX6_isTurned_10 : decode cX6_isTurned 10 = .ok (.iadd, 1) := by decide +kernel
theorem dX6_isTurned_11 : decode cX6_isTurned 11 = .ok (.iload_n 1, 1) := by decide +kernel
theorem dX6_isTurned_12 : decode cX6_isTurned 12 = .ok (.iadd, 1) := by decide +kernel
theorem dX6_isTurned_13 : decode cX6_isTurned 13 = .ok (.iaload, 1) := by decide +kernel
theorem dX6_isTurned_14 : decode cX6_isTurned 14 = .ok (.iconst 1, 1) := by decide +kernel
theorem dX6_isTurned_15 : decode cX6_isTurned 15 = .ok (.if_icmp .ne 7, 3) := by decide +kernel
theorem dX6_isTurned_18 : decode cX6_isTurned 18 = .ok (.iconst 1, 1) := by decide +kernel
theorem dX6_isTurned_19 : decode cX6_isTurned 19 = .ok (.goto 4, 3) := by decide +kernel
theorem dX6_isTurned_22 : decode cX6_isTurned 22 = .ok (.iconst 0, 1) := by decide +kernel
theorem dX6_isTurned_23 : decode cX6_isTurned 23 = .ok (.ireturn, 1) := by decide +kernel
abbrev rm_X6_isTurned : Room := { frames := 0, cells := 0, slots := 0, locals := 0 }
def f_X6_isTurned (S : St) (x1 : Int32) (x2 : Int32) : Option (Int32) :=
  chk (ib ((((36 : Int32) * x2) + (20 : Int32)) + x1) 10800) (if (st_A S (ky 0 56) ((((36 : Int32) * x2) + (20 : Int32)) + x1).toNatClampNeg) = (1 : Int32) then (some (1 : Int32)) else (some (0 : Int32)))
set_option maxRecDepth 100000 in
set_option maxHeartbeats 4000000 in
theorem k_X6_isTurned (l : Launch) (g : GG) (hg : gd wd_M g)  (hM : hs wd_M g 0 6) (S : St) (x1 : Int32) (x2 : Int32) (q : Int32) (hf : f_X6_isTurned  S x1 x2 = some q) : Met l yX6_isTurned (Cond.code yX6_isTurned cX6_isTurned 3 (some .boolean) :: gw_tbl) rm_X6_isTurned (va_Pc [.ref (gg_o g 0), .int x1, .int x2] (wI wd_M g S)) (qc_i wd_M g S q) 0 0 (aw g) := by
  refine mt_start (own := RX6) hg (by decide) rfl (Nat.le_of_ble_eq_true rfl) (fun p e s m args below meth c ls H locs cx hw hr hlk hl => ?_)
  have hx := cx.1
  have hb := cx.2.1
  have hown := cx.2.2.2.1
  have hts := cx.2.2.2.2.1
  have hl : lv_has ls 3 [(0, .ref (gg_o g 0)), (1, .int x1), (2, .int x2)] := hl
  replace hf := h_top hf
  unfold f_X6_isTurned at hf
  refine lv_aload_n hx hb dX6_isTurned_0 rfl (lv_at hl 0 rfl) ?_
  refine gf_X6_131 cx hw hM dX6_isTurned_1 ?_
  refine lv_bipush (v := 36) hx hb dX6_isTurned_4 (by decide) ?_
  refine lv_iload_n hx hb dX6_isTurned_6 rfl (lv_at hl 2 rfl) ?_
  refine lv_imul hx hb dX6_isTurned_7 ?_
  refine lv_bipush (v := 20) hx hb dX6_isTurned_8 (by decide) ?_
  refine lv_iadd hx hb dX6_isTurned_10 ?_
  refine lv_iload_n hx hb dX6_isTurned_11 rfl (lv_at hl 1 rfl) ?_
  refine lv_iadd hx hb dX6_isTurned_12 ?_
  refine r_iald cx hw (hM.2.2.1 56 rfl) rfl rfl hf dX6_isTurned_13 (fun hf => ?_)
  refine lv_iconst (v := 1) hx hb dX6_isTurned_14 (by decide) ?_
  refine lv_icmp_ne hx hb dX6_isTurned_15 (tgt := 22) rfl (fun hc1 => ?_) (fun hc1 => ?_)
  · replace hf := h_neg hc1 hf
    refine lv_iconst (v := 0) hx hb dX6_isTurned_22 (by decide) ?_
    exact r_zret cx hw hr hlk (Or.inl rfl) hf dX6_isTurned_23
  replace hf := h_pos hc1 hf
  refine lv_iconst (v := 1) hx hb dX6_isTurned_18 (by decide) ?_
  refine lv_goto hx hb dX6_isTurned_19 (tgt := 23) rfl ?_
  exact r_zret cx hw hr hlk (Or.inr rfl) hf dX6_isTurned_23
theorem dX6_showsAt_0 : decode cX6_showsAt 0 = .ok (.aload_n 0, 1) := by decide +kernel
theorem dX6_showsAt_1 : decode cX6_showsAt 1 = .ok (.getfield 134, 3) := by decide +kernel
theorem dX6_showsAt_4 : decode cX6_showsAt 4 = .ok (.iload_n 1, 1) := by decide +kernel
theorem dX6_showsAt_5 : decode cX6_showsAt 5 = .ok (.iaload, 1) := by decide +kernel
theorem dX6_showsAt_6 : decode cX6_showsAt 6 = .ok (.iconst (-1), 1) := by decide +kernel
theorem dX6_showsAt_7 : decode cX6_showsAt 7 = .ok (.if_icmp .eq 22, 3) := by decide +kernel
theorem dX6_showsAt_10 : decode cX6_showsAt 10 = .ok (.aload_n 0, 1) := by decide +kernel
theorem dX6_showsAt_11 : decode cX6_showsAt 11 = .ok (.getfield 134, 3) := by decide +kernel
theorem dX6_showsAt_14 : decode cX6_showsAt 14 = .ok (.iload_n 1, 1) := by decide +kernel
theorem dX6_showsAt_15 : decode cX6_showsAt 15 = .ok (.iaload, 1) := by decide +kernel
theorem dX6_showsAt_16 : decode cX6_showsAt 16 = .ok (.iload_n 2, 1) := by decide +kernel
theorem dX6_showsAt_17 : decode cX6_showsAt 17 = .ok (.if_icmp .gt 12, 3) := by decide +kernel
theorem dX6_showsAt_20 : decode cX6_showsAt 20 = .ok (.aload_n 0, 1) := by decide +kernel
theorem dX6_showsAt_21 : decode cX6_showsAt 21 = .ok (.getfield 137, 3) := by decide +kernel
theorem dX6_showsAt_24 : decode cX6_showsAt 24 = .ok (.iload_n 1, 1) := by decide +kernel
theorem dX6_showsAt_25 : decode cX6_showsAt 25 = .ok (.iaload, 1) := by decide +kernel
theorem dX6_showsAt_26 : decode cX6_showsAt 26 = .ok (.goto 19, 3) := by decide +kernel
theorem dX6_showsAt_29 : decode cX6_showsAt 29 = .ok (.iload_n 2, 1) := by decide +kernel
theorem dX6_showsAt_30 : decode cX6_showsAt 30 = .ok (.aload_n 0, 1) := by decide +kernel
theorem dX6_showsAt_31 : decode cX6_showsAt 31 = .ok (.getfield 131, 3) := by decide +kernel
theorem dX6_showsAt_34 : decode cX6_showsAt 34 = .ok (.bipush 36, 2) := by decide +kernel
theorem dX6_showsAt_36 : decode cX6_showsAt 36 = .ok (.iload_n 2, 1) := by decide +kernel
theorem dX6_showsAt_37 : decode cX6_showsAt 37 = .ok (.imul, 1) := by decide +kernel
theorem dX6_showsAt_38 : decode cX6_showsAt 38 = .ok (.bipush 28, 2) := by decide +kernel
theorem dX6_showsAt_40 : decode cX6_showsAt 40 = .ok (.iadd, 1) := by decide +kernel
theorem dX6_showsAt_41 : decode cX6_showsAt 41 = .ok (.iload_n 1, 1) := by decide +kernel
theorem dX6_showsAt_42 : decode cX6_showsAt 42 = .ok (.iadd, 1) := by decide +kernel
theorem dX6_showsAt_43 : decode cX6_showsAt 43 = .ok (.iaload, 1) := by decide +kernel
theorem dX6_showsAt_44 : decode cX6_showsAt 44 = .ok (.isub, 1) := by decide +kernel
theorem dX6_showsAt_45 : decode cX6_showsAt 45 = .ok (.istore_n 3, 1) := by decide +kernel
theorem dX6_showsAt_46 : decode cX6_showsAt 46 = .ok (.iload_n 3, 1) := by decide +kernel
theorem dX6_showsAt_47 : decode cX6_showsAt 47 = .ok (.ifCond .lt 21, 3) := by decide +kernel
theorem dX6_showsAt_50 : decode cX6_showsAt 50 = .ok (.aload_n 0, 1) := by decide +kernel
theorem dX6_showsAt_51 : decode cX6_showsAt 51 = .ok (.iload_n 1, 1) := by decide +kernel
theorem dX6_showsAt_52 : decode cX6_showsAt 52 = .ok (.iload_n 2, 1) := by decide +kernel
theorem dX6_showsAt_53 : decode cX6_showsAt 53 = .ok (.invokevirtual 388, 3) := by decide +kernel
theorem dX6_showsAt_56 : decode cX6_showsAt 56 = .ok (.ifCond .ne 12, 3) := by decide +kernel
theorem dX6_showsAt_59 : decode cX6_showsAt 59 = .ok (.aload_n 0, 1) := by decide +kernel
theorem dX6_showsAt_60 : decode cX6_showsAt 60 = .ok (.iload_n 1, 1) := by decide +kernel
theorem dX6_showsAt_61 : decode cX6_showsAt 61 = .ok (.iload_n 3, 1) := by decide +kernel
theorem dX6_showsAt_62 : decode cX6_showsAt 62 = .ok (.invokevirtual 388, 3) := by decide +kernel
theorem dX6_showsAt_65 : decode cX6_showsAt 65 = .ok (.ifCond .eq 8, 3) := by decide +kernel
theorem dX6_showsAt_68 : decode cX6_showsAt 68 = .ok (.bipush (-2), 2) := by decide +kernel
theorem dX6_showsAt_70 : decode cX6_showsAt 70 = .ok (.goto 4, 3) := by decide +kernel
theorem dX6_showsAt_73 : decode cX6_showsAt 73 = .ok (.iload_n 3, 1) := by decide +kernel
theorem dX6_showsAt_74 : decode cX6_showsAt 74 = .ok (.ireturn, 1) := by decide +kernel
abbrev rm_X6_showsAt : Room := { frames := 1, cells := 0, slots := 0, locals := 22 }
def f_X6_showsAt_J45 (S : St) (x1 : Int32) (x2 : Int32) (y0 : Int32) : Option (Int32) :=
  if y0 < 0 then (some (-2 : Int32)) else ((f_X6_isTurned  S x1 x2).bind (fun (q3 : Int32) => if q3 = 0 then ((f_X6_isTurned  S x1 y0).bind (fun (q5 : Int32) => if q5 = 0 then (some y0) else (some (-2 : Int32)))) else (some (-2 : Int32))))
def f_X6_showsAt_J29 (S : St) (x1 : Int32) (x2 : Int32) : Option (Int32) :=
  chk (ib ((((36 : Int32) * x2) + (28 : Int32)) + x1) 10800) (f_X6_showsAt_J45  S x1 x2 (x2 - (st_A S (ky 0 56) ((((36 : Int32) * x2) + (28 : Int32)) + x1).toNatClampNeg)))
def f_X6_showsAt (S : St) (x1 : Int32) (x2 : Int32) : Option (Int32) :=
  chk (ib x1 8) (if (st_A S (ky 0 58) x1.toNatClampNeg) = (-1 : Int32) then (f_X6_showsAt_J29  S x1 x2) else (chk (ib x1 8) (if x2 < (st_A S (ky 0 58) x1.toNatClampNeg) then (f_X6_showsAt_J29  S x1 x2) else (chk (ib x1 8) (f_X6_showsAt_J45  S x1 x2 (st_A S (ky 0 59) x1.toNatClampNeg))))))
set_option maxRecDepth 100000 in
set_option maxHeartbeats 4000000 in
theorem k_X6_showsAt (l : Launch) (g : GG) (hg : gd wd_M g)  (hM : hs wd_M g 0 6) (S : St) (x1 : Int32) (x2 : Int32) (q : Int32) (hf : f_X6_showsAt  S x1 x2 = some q) : Met l yX6_showsAt (Cond.code yX6_showsAt cX6_showsAt 4 (some .int) :: gw_tbl) rm_X6_showsAt (va_Pc [.ref (gg_o g 0), .int x1, .int x2] (wI wd_M g S)) (qc_i wd_M g S q) 0 0 (aw g) := by
  refine mt_start (own := RX6) hg (by decide) rfl (Nat.le_of_ble_eq_true rfl) (fun p e s m args below meth c ls H locs cx hw hr hlk hl => ?_)
  have hx := cx.1
  have hb := cx.2.1
  have hown := cx.2.2.2.1
  have hts := cx.2.2.2.2.1
  have hl : lv_has ls 4 [(0, .ref (gg_o g 0)), (1, .int x1), (2, .int x2)] := hl
  replace hf := h_top hf
  unfold f_X6_showsAt at hf
  have J45 : ∀ (ls : Array Slot) (H : Heap) (locs : List Loc) (x1 : Int32) (x2 : Int32) (y0 : Int32), lv_has ls 4 [(0, .ref (gg_o g 0)), (1, .int x1), (2, .int x2)] → HH wd_M g s S H locs → (f_X6_showsAt_J45  S x1 x2 y0).bind some = some q → W p l e rm_X6_showsAt s m args below meth c H locs 0 0 (MQ below (qc_i wd_M g S q) args s 0 0 (aw g)) (F0 m 45 ls [.int y0]) := by
    intro ls H locs x1 x2 y0 hl hw hf
    unfold f_X6_showsAt_J45 at hf
    refine lv_istore_n hx hb dX6_showsAt_45 rfl hl (by decide) (lv' := [(3, .int y0), (0, .ref (gg_o g 0)), (1, .int x1), (2, .int x2)]) rfl (fun ls hl => ?_)
    refine lv_iload_n hx hb dX6_showsAt_46 rfl (lv_at hl 0 rfl) ?_
    refine lv_if_lt hx hb dX6_showsAt_47 (tgt := 68) rfl (fun hc2 => ?_) (fun hc2 => ?_)
    · replace hf := h_pos hc2 hf
      refine lv_bipush (v := -2) hx hb dX6_showsAt_68 (by decide) ?_
      refine lv_goto hx hb dX6_showsAt_70 (tgt := 74) rfl ?_
      exact r_iret cx hw hr hlk hf dX6_showsAt_74
    replace hf := h_neg hc2 hf
    refine lv_aload_n hx hb dX6_showsAt_50 rfl (lv_at hl 1 rfl) ?_
    refine lv_iload_n hx hb dX6_showsAt_51 rfl (lv_at hl 2 rfl) ?_
    refine lv_iload_n hx hb dX6_showsAt_52 rfl (lv_at hl 3 rfl) ?_
    refine r_V_i (As := [.int x1, .int x2]) (rest := []) cx hw hf hM.2.1 (by rw [hM.1]; rfl) lk_X6_388 (fun q3 hq => k_X6_isTurned l g hg  hM S x1 x2 q3 hq) ⟨⟨rfl, rfl⟩, Nat.le_of_ble_eq_true rfl, Nat.le_of_ble_eq_true rfl⟩ rfl hl.1 rfl (Nat.le_of_ble_eq_true rfl) dX6_showsAt_53 ⟨Nat.zero_le _, Nat.zero_le _⟩ (fun q3 H locs hw hf => ?_)
    refine lv_if_ne hx hb dX6_showsAt_56 (tgt := 68) rfl (fun hc4 => ?_) (fun hc4 => ?_)
    · replace hf := h_neg hc4 hf
      refine lv_bipush (v := -2) hx hb dX6_showsAt_68 (by decide) ?_
      refine lv_goto hx hb dX6_showsAt_70 (tgt := 74) rfl ?_
      exact r_iret cx hw hr hlk hf dX6_showsAt_74
    replace hf := h_pos hc4 hf
    refine lv_aload_n hx hb dX6_showsAt_59 rfl (lv_at hl 1 rfl) ?_
    refine lv_iload_n hx hb dX6_showsAt_60 rfl (lv_at hl 2 rfl) ?_
    refine lv_iload_n hx hb dX6_showsAt_61 rfl (lv_at hl 0 rfl) ?_
    refine r_V_i (As := [.int x1, .int y0]) (rest := []) cx hw hf hM.2.1 (by rw [hM.1]; rfl) lk_X6_388 (fun q5 hq => k_X6_isTurned l g hg  hM S x1 y0 q5 hq) ⟨⟨rfl, rfl⟩, Nat.le_of_ble_eq_true rfl, Nat.le_of_ble_eq_true rfl⟩ rfl hl.1 rfl (Nat.le_of_ble_eq_true rfl) dX6_showsAt_62 ⟨Nat.zero_le _, Nat.zero_le _⟩ (fun q5 H locs hw hf => ?_)
    refine lv_if_eq hx hb dX6_showsAt_65 (tgt := 73) rfl (fun hc6 => ?_) (fun hc6 => ?_)
    · replace hf := h_pos hc6 hf
      refine lv_iload_n hx hb dX6_showsAt_73 rfl (lv_at hl 0 rfl) ?_
      exact r_iret cx hw hr hlk hf dX6_showsAt_74
    replace hf := h_neg hc6 hf
    refine lv_bipush (v := -2) hx hb dX6_showsAt_68 (by decide) ?_
    refine lv_goto hx hb dX6_showsAt_70 (tgt := 74) rfl ?_
    exact r_iret cx hw hr hlk hf dX6_showsAt_74
  have J29 : ∀ (ls : Array Slot) (H : Heap) (locs : List Loc) (x1 : Int32) (x2 : Int32), lv_has ls 4 [(0, .ref (gg_o g 0)), (1, .int x1), (2, .int x2)] → HH wd_M g s S H locs → (f_X6_showsAt_J29  S x1 x2).bind some = some q → W p l e rm_X6_showsAt s m args below meth c H locs 0 0 (MQ below (qc_i wd_M g S q) args s 0 0 (aw g)) (F0 m 29 ls []) := by
    intro ls H locs x1 x2 hl hw hf
    unfold f_X6_showsAt_J29 at hf
    refine lv_iload_n hx hb dX6_showsAt_29 rfl (lv_at hl 2 rfl) ?_
    refine lv_aload_n hx hb dX6_showsAt_30 rfl (lv_at hl 0 rfl) ?_
    refine gf_X6_131 cx hw hM dX6_showsAt_31 ?_
    refine lv_bipush (v := 36) hx hb dX6_showsAt_34 (by decide) ?_
    refine lv_iload_n hx hb dX6_showsAt_36 rfl (lv_at hl 2 rfl) ?_
    refine lv_imul hx hb dX6_showsAt_37 ?_
    refine lv_bipush (v := 28) hx hb dX6_showsAt_38 (by decide) ?_
    refine lv_iadd hx hb dX6_showsAt_40 ?_
    refine lv_iload_n hx hb dX6_showsAt_41 rfl (lv_at hl 1 rfl) ?_
    refine lv_iadd hx hb dX6_showsAt_42 ?_
    refine r_iald cx hw (hM.2.2.1 56 rfl) rfl rfl hf dX6_showsAt_43 (fun hf => ?_)
    refine lv_isub hx hb dX6_showsAt_44 ?_
    exact J45 _ _ _ x1 x2 (x2 - (st_A S (ky 0 56) ((((36 : Int32) * x2) + (28 : Int32)) + x1).toNatClampNeg)) (lv_sub hl [0, 1, 2] rfl) hw hf
  refine lv_aload_n hx hb dX6_showsAt_0 rfl (lv_at hl 0 rfl) ?_
  refine gf_X6_134 cx hw hM dX6_showsAt_1 ?_
  refine lv_iload_n hx hb dX6_showsAt_4 rfl (lv_at hl 1 rfl) ?_
  refine r_iald cx hw (hM.2.2.1 58 rfl) rfl rfl hf dX6_showsAt_5 (fun hf => ?_)
  refine lv_iconst (v := -1) hx hb dX6_showsAt_6 (by decide) ?_
  refine lv_icmp_eq hx hb dX6_showsAt_7 (tgt := 29) rfl (fun hc1 => ?_) (fun hc1 => ?_)
  · replace hf := h_pos hc1 hf
    exact J29 _ _ _ x1 x2 (lv_sub hl [0, 1, 2] rfl) hw hf
  replace hf := h_neg hc1 hf
  refine lv_aload_n hx hb dX6_showsAt_10 rfl (lv_at hl 0 rfl) ?_
  refine gf_X6_134 cx hw hM dX6_showsAt_11 ?_
  refine lv_iload_n hx hb dX6_showsAt_14 rfl (lv_at hl 1 rfl) ?_
  refine r_iald cx hw (hM.2.2.1 58 rfl) rfl rfl hf dX6_showsAt_15 (fun hf => ?_)
  refine lv_iload_n hx hb dX6_showsAt_16 rfl (lv_at hl 2 rfl) ?_
  refine lv_icmp_gt hx hb dX6_showsAt_17 (tgt := 29) rfl (fun hc7 => ?_) (fun hc7 => ?_)
  · replace hf := h_pos hc7 hf
    exact J29 _ _ _ x1 x2 (lv_sub hl [0, 1, 2] rfl) hw hf
  replace hf := h_neg hc7 hf
  refine lv_aload_n hx hb dX6_showsAt_20 rfl (lv_at hl 0 rfl) ?_
  refine gf_X6_137 cx hw hM dX6_showsAt_21 ?_
  refine lv_iload_n hx hb dX6_showsAt_24 rfl (lv_at hl 1 rfl) ?_
  refine r_iald cx hw (hM.2.2.1 59 rfl) rfl rfl hf dX6_showsAt_25 (fun hf => ?_)
  refine lv_goto hx hb dX6_showsAt_26 (tgt := 45) rfl ?_
  exact J45 _ _ _ x1 x2 (st_A S (ky 0 59) x1.toNatClampNeg) (lv_sub hl [0, 1, 2] rfl) hw hf
theorem dX6_hungIn_0 : decode cX6_hungIn 0 = .ok (.aload_n 0, 1) := by decide +kernel
theorem dX6_hungIn_1 : decode cX6_hungIn 1 = .ok (.getfield 131, 3) := by decide +kernel
theorem dX6_hungIn_4 : decode cX6_hungIn 4 = .ok (.bipush 36, 2) := by decide +kernel
theorem dX6_hungIn_6 : decode cX6_hungIn 6 = .ok (.iload_n 2, 1) := by decide +kernel
theorem dX6_hungIn_7 : decode cX6_hungIn 7 = .ok (.imul, 1) := by decide +kernel
theorem dX6_hungIn_8 : decode cX6_hungIn 8 = .ok (.bipush 12, 2) := by decide +kernel
theorem dX6_hungIn_10 : decode cX6_hungIn 10 = .ok (.iadd, 1) := by decide +kernel
theorem dX6_hungIn_11 : decode cX6_hungIn 11 = .ok (.iload_n 1, 1) := by decide +kernel
theorem dX6_hungIn_12 : decode cX6_hungIn 12 = .ok (.iadd, 1) := by decide +kernel
theorem dX6_hungIn_13 : decode cX6_hungIn 13 = .ok (.iaload, 1) := by decide +kernel
theorem dX6_hungIn_14 : decode cX6_hungIn 14 = .ok (.ireturn, 1) := by decide +kernel
abbrev rm_X6_hungIn : Room := { frames := 0, cells := 0, slots := 0, locals := 0 }
def f_X6_hungIn (S : St) (x1 : Int32) (x2 : Int32) : Option (Int32) :=
  chk (ib ((((36 : Int32) * x2) + (12 : Int32)) + x1) 10800) (some (st_A S (ky 0 56) ((((36 : Int32) * x2) + (12 : Int32)) + x1).toNatClampNeg))
set_option maxRecDepth 100000 in
set_option maxHeartbeats 4000000 in
theorem k_X6_hungIn (l : Launch) (g : GG) (hg : gd wd_M g)  (hM : hs wd_M g 0 6) (S : St) (x1 : Int32) (x2 : Int32) (q : Int32) (hf : f_X6_hungIn  S x1 x2 = some q) : Met l yX6_hungIn (Cond.code yX6_hungIn cX6_hungIn 3 (some .int) :: gw_tbl) rm_X6_hungIn (va_Pc [.ref (gg_o g 0), .int x1, .int x2] (wI wd_M g S)) (qc_i wd_M g S q) 0 0 (aw g) := by
  refine mt_start (own := RX6) hg (by decide) rfl (Nat.le_of_ble_eq_true rfl) (fun p e s m args below meth c ls H locs cx hw hr hlk hl => ?_)
  have hx := cx.1
  have hb := cx.2.1
  have hown := cx.2.2.2.1
  have hts := cx.2.2.2.2.1
  have hl : lv_has ls 3 [(0, .ref (gg_o g 0)), (1, .int x1), (2, .int x2)] := hl
  replace hf := h_top hf
  unfold f_X6_hungIn at hf
  refine lv_aload_n hx hb dX6_hungIn_0 rfl (lv_at hl 0 rfl) ?_
  refine gf_X6_131 cx hw hM dX6_hungIn_1 ?_
  refine lv_bipush (v := 36) hx hb dX6_hungIn_4 (by decide) ?_
  refine lv_iload_n hx hb dX6_hungIn_6 rfl (lv_at hl 2 rfl) ?_
  refine lv_imul hx hb dX6_hungIn_7 ?_
  refine lv_bipush (v := 12) hx hb dX6_hungIn_8 (by decide) ?_
  refine lv_iadd hx hb dX6_hungIn_10 ?_
  refine lv_iload_n hx hb dX6_hungIn_11 rfl (lv_at hl 1 rfl) ?_
  refine lv_iadd hx hb dX6_hungIn_12 ?_
  refine r_iald cx hw (hM.2.2.1 56 rfl) rfl rfl hf dX6_hungIn_13 (fun hf => ?_)
  exact r_iret cx hw hr hlk hf dX6_hungIn_14
theorem dX6_menShown_0 : decode cX6_menShown 0 = .ok (.iload_n 2, 1) := by decide +kernel
theorem dX6_menShown_1 : decode cX6_menShown 1 = .ok (.ifCond .ge 7, 3) := by decide +kernel
theorem dX6_menShown_4 : decode cX6_menShown 4 = .ok (.iconst 0, 1) := by decide +kernel
theorem dX6_menShown_5 : decode cX6_menShown 5 = .ok (.goto 14, 3) := by decide +kernel
theorem dX6_menShown_8 : decode cX6_menShown 8 = .ok (.aload_n 0, 1) := by decide +kernel
theorem dX6_menShown_9 : decode cX6_menShown 9 = .ok (.aload_n 0, 1) := by decide +kernel
theorem dX6_menShown_10 : decode cX6_menShown 10 = .ok (.iload_n 1, 1) := by decide +kernel
theorem dX6_menShown_11 : decode cX6_menShown 11 = .ok (.iload_n 2, 1) := by decide +kernel
theorem dX6_menShown_12 : decode cX6_menShown 12 = .ok (.invokevirtual 392, 3) := by decide +kernel
theorem dX6_menShown_15 : decode cX6_menShown 15 = .ok (.iload_n 2, 1) := by decide +kernel
theorem dX6_menShown_16 : decode cX6_menShown 16 = .ok (.invokevirtual 366, 3) := by decide +kernel
theorem dX6_menShown_19 : decode cX6_menShown 19 = .ok (.ireturn, 1) := by decide +kernel
abbrev rm_X6_menShown : Room := { frames := 1, cells := 0, slots := 0, locals := 24 }
def f_X6_menShown (S : St) (x1 : Int32) (x2 : Int32) : Option (Int32) :=
  if 0 ≤ x2 then ((f_X6_hungIn  S x1 x2).bind (fun (q2 : Int32) => (f_X6_menIn  S q2 x2).bind (fun (q3 : Int32) => some q3))) else (some (0 : Int32))
set_option maxRecDepth 100000 in
set_option maxHeartbeats 4000000 in
theorem k_X6_menShown (l : Launch) (g : GG) (hg : gd wd_M g)  (hM : hs wd_M g 0 6) (S : St) (x1 : Int32) (x2 : Int32) (q : Int32) (hf : f_X6_menShown  S x1 x2 = some q) : Met l yX6_menShown (Cond.code yX6_menShown cX6_menShown 3 (some .int) :: gw_tbl) rm_X6_menShown (va_Pc [.ref (gg_o g 0), .int x1, .int x2] (wI wd_M g S)) (qc_i wd_M g S q) 0 0 (aw g) := by
  refine mt_start (own := RX6) hg (by decide) rfl (Nat.le_of_ble_eq_true rfl) (fun p e s m args below meth c ls H locs cx hw hr hlk hl => ?_)
  have hx := cx.1
  have hb := cx.2.1
  have hown := cx.2.2.2.1
  have hts := cx.2.2.2.2.1
  have hl : lv_has ls 3 [(0, .ref (gg_o g 0)), (1, .int x1), (2, .int x2)] := hl
  replace hf := h_top hf
  unfold f_X6_menShown at hf
  refine lv_iload_n hx hb dX6_menShown_0 rfl (lv_at hl 2 rfl) ?_
  refine lv_if_ge hx hb dX6_menShown_1 (tgt := 8) rfl (fun hc1 => ?_) (fun hc1 => ?_)
  · replace hf := h_pos hc1 hf
    refine lv_aload_n hx hb dX6_menShown_8 rfl (lv_at hl 0 rfl) ?_
    refine lv_aload_n hx hb dX6_menShown_9 rfl (lv_at hl 0 rfl) ?_
    refine lv_iload_n hx hb dX6_menShown_10 rfl (lv_at hl 1 rfl) ?_
    refine lv_iload_n hx hb dX6_menShown_11 rfl (lv_at hl 2 rfl) ?_
    refine r_V_i (As := [.int x1, .int x2]) (rest := [.ref (gg_o g 0)]) cx hw hf hM.2.1 (by rw [hM.1]; rfl) lk_X6_392 (fun q2 hq => k_X6_hungIn l g hg  hM S x1 x2 q2 hq) ⟨⟨rfl, rfl⟩, Nat.le_of_ble_eq_true rfl, Nat.le_of_ble_eq_true rfl⟩ rfl hl.1 rfl (Nat.le_of_ble_eq_true rfl) dX6_menShown_12 ⟨Nat.zero_le _, Nat.zero_le _⟩ (fun q2 H locs hw hf => ?_)
    refine lv_iload_n hx hb dX6_menShown_15 rfl (lv_at hl 2 rfl) ?_
    refine r_V_i (As := [.int q2, .int x2]) (rest := []) cx hw hf hM.2.1 (by rw [hM.1]; rfl) lk_X6_366 (fun q3 hq => k_X6_menIn l g hg  hM S q2 x2 q3 hq) ⟨⟨rfl, rfl⟩, Nat.le_of_ble_eq_true rfl, Nat.le_of_ble_eq_true rfl⟩ rfl hl.1 rfl (Nat.le_of_ble_eq_true rfl) dX6_menShown_16 ⟨Nat.zero_le _, Nat.zero_le _⟩ (fun q3 H locs hw hf => ?_)
    exact r_iret cx hw hr hlk hf dX6_menShown_19
  replace hf := h_neg hc1 hf
  refine lv_iconst (v := 0) hx hb dX6_menShown_4 (by decide) ?_
  refine lv_goto hx hb dX6_menShown_5 (tgt := 19) rfl ?_
  exact r_iret cx hw hr hlk hf dX6_menShown_19
theorem dX6_breaksNow_0 : decode cX6_breaksNow 0 = .ok (.aload_n 0, 1) := by decide +kernel
theorem dX6_breaksNow_1 : decode cX6_breaksNow 1 = .ok (.getfield 137, 3) := by decide +kernel
theorem dX6_breaksNow_4 : decode cX6_breaksNow 4 = .ok (.iload_n 1, 1) := by decide +kernel
theorem dX6_breaksNow_5 : decode cX6_breaksNow 5 = .ok (.aload_n 0, 1) := by decide +kernel
theorem dX6_breaksNow_6 : decode cX6_breaksNow 6 = .ok (.iload_n 1, 1) := by decide +kernel
theorem dX6_breaksNow_7 : decode cX6_breaksNow 7 = .ok (.aload_n 0, 1) := by decide +kernel
theorem dX6_breaksNow_8 : decode cX6_breaksNow 8 = .ok (.getfield 348, 3) := by decide +kernel
theorem dX6_breaksNow_11 : decode cX6_breaksNow 11 = .ok (.invokevirtual 395, 3) := by decide +kernel
theorem dX6_breaksNow_14 : decode cX6_breaksNow 14 = .ok (.iastore, 1) := by decide +kernel
theorem dX6_breaksNow_15 : decode cX6_breaksNow 15 = .ok (.aload_n 0, 1) := by decide +kernel
theorem dX6_breaksNow_16 : decode cX6_breaksNow 16 = .ok (.getfield 134, 3) := by decide +kernel
theorem dX6_breaksNow_19 : decode cX6_breaksNow 19 = .ok (.iload_n 1, 1) := by decide +kernel
theorem dX6_breaksNow_20 : decode cX6_breaksNow 20 = .ok (.aload_n 0, 1) := by decide +kernel
theorem dX6_breaksNow_21 : decode cX6_breaksNow 21 = .ok (.getfield 348, 3) := by decide +kernel
theorem dX6_breaksNow_24 : decode cX6_breaksNow 24 = .ok (.iastore, 1) := by decide +kernel
theorem dX6_breaksNow_25 : decode cX6_breaksNow 25 = .ok (.return_, 1) := by decide +kernel
abbrev rm_X6_breaksNow : Room := { frames := 2, cells := 0, slots := 0, locals := 45 }
def f_X6_breaksNow (S : St) (x1 : Int32) : Option (St) :=
  (f_X6_showsAt  S x1 (st_I S (ky 0 57))).bind (fun (q1 : Int32) => chk (ib x1 8) (lt_v (up_A S (ky 0 59) (upd (st_A S (ky 0 59)) x1.toNatClampNeg q1)) (fun (S2 : St) => chk (ib x1 8) (lt_v (up_A S2 (ky 0 58) (upd (st_A S2 (ky 0 58)) x1.toNatClampNeg (st_I S2 (ky 0 57)))) (fun (S3 : St) => some S3)))))
set_option maxRecDepth 100000 in
set_option maxHeartbeats 4000000 in
theorem k_X6_breaksNow (l : Launch) (g : GG) (hg : gd wd_M g)  (hM : hs wd_M g 0 6) (S : St) (x1 : Int32) (q : St) (hf : f_X6_breaksNow  S x1 = some q) : Met l yX6_breaksNow (Cond.code yX6_breaksNow cX6_breaksNow 2 none :: gw_tbl) rm_X6_breaksNow (va_Pc [.ref (gg_o g 0), .int x1] (wI wd_M g S)) (qc_v wd_M g q) 0 0 (aw g) := by
  refine mt_start (own := RX6) hg (by decide) rfl (Nat.le_of_ble_eq_true rfl) (fun p e s m args below meth c ls H locs cx hw hr hlk hl => ?_)
  have hx := cx.1
  have hb := cx.2.1
  have hown := cx.2.2.2.1
  have hts := cx.2.2.2.2.1
  have hl : lv_has ls 2 [(0, .ref (gg_o g 0)), (1, .int x1)] := hl
  replace hf := h_top hf
  unfold f_X6_breaksNow at hf
  refine lv_aload_n hx hb dX6_breaksNow_0 rfl (lv_at hl 0 rfl) ?_
  refine gf_X6_137 cx hw hM dX6_breaksNow_1 ?_
  refine lv_iload_n hx hb dX6_breaksNow_4 rfl (lv_at hl 1 rfl) ?_
  refine lv_aload_n hx hb dX6_breaksNow_5 rfl (lv_at hl 0 rfl) ?_
  refine lv_iload_n hx hb dX6_breaksNow_6 rfl (lv_at hl 1 rfl) ?_
  refine lv_aload_n hx hb dX6_breaksNow_7 rfl (lv_at hl 0 rfl) ?_
  refine gf_X6_348 cx hw hM dX6_breaksNow_8 ?_
  refine r_V_i (As := [.int x1, .int (st_I S (ky 0 57))]) (rest := [.int x1, .ref (gg_a g (ky 0 59))]) cx hw hf hM.2.1 (by rw [hM.1]; rfl) lk_X6_395 (fun q1 hq => k_X6_showsAt l g hg  hM S x1 (st_I S (ky 0 57)) q1 hq) ⟨⟨rfl, rfl⟩, Nat.le_of_ble_eq_true rfl, Nat.le_of_ble_eq_true rfl⟩ rfl hl.1 rfl (Nat.le_of_ble_eq_true rfl) dX6_breaksNow_11 ⟨Nat.zero_le _, Nat.zero_le _⟩ (fun q1 H locs hw hf => ?_)
  refine r_iast cx hw (hM.2.2.1 59 rfl) rfl rfl hf dX6_breaksNow_14 (fun S2 H locs hw hf => ?_)
  refine lv_aload_n hx hb dX6_breaksNow_15 rfl (lv_at hl 0 rfl) ?_
  refine gf_X6_134 cx hw hM dX6_breaksNow_16 ?_
  refine lv_iload_n hx hb dX6_breaksNow_19 rfl (lv_at hl 1 rfl) ?_
  refine lv_aload_n hx hb dX6_breaksNow_20 rfl (lv_at hl 0 rfl) ?_
  refine gf_X6_348 cx hw hM dX6_breaksNow_21 ?_
  refine r_iast cx hw (hM.2.2.1 58 rfl) rfl rfl hf dX6_breaksNow_24 (fun S3 H locs hw hf => ?_)
  exact r_vret cx hw hr hlk hf dX6_breaksNow_25
theorem dX6_minuteGoes_0 : decode cX6_minuteGoes 0 = .ok (.bipush 36, 2) := by decide +kernel
theorem dX6_minuteGoes_2 : decode cX6_minuteGoes 2 = .ok (.aload_n 0, 1) := by decide +kernel
theorem dX6_minuteGoes_3 : decode cX6_minuteGoes 3 = .ok (.getfield 348, 3) := by decide +kernel
theorem dX6_minuteGoes_6 : decode cX6_minuteGoes 6 = .ok (.imul, 1) := by decide +kernel
theorem dX6_minuteGoes_7 : decode cX6_minuteGoes 7 = .ok (.istore_n 1, 1) := by decide +kernel
theorem dX6_minuteGoes_8 : decode cX6_minuteGoes 8 = .ok (.iload_n 1, 1) := by decide +kernel
theorem dX6_minuteGoes_9 : decode cX6_minuteGoes 9 = .ok (.bipush 36, 2) := by decide +kernel
theorem dX6_minuteGoes_11 : decode cX6_minuteGoes 11 = .ok (.iadd, 1) := by decide +kernel
theorem dX6_minuteGoes_12 : decode cX6_minuteGoes 12 = .ok (.istore_n 2, 1) := by decide +kernel
theorem dX6_minuteGoes_13 : decode cX6_minuteGoes 13 = .ok (.iconst 0, 1) := by decide +kernel
theorem dX6_minuteGoes_14 : decode cX6_minuteGoes 14 = .ok (.istore_n 3, 1) := by decide +kernel
theorem dX6_minuteGoes_15 : decode cX6_minuteGoes 15 = .ok (.iload_n 3, 1) := by decide +kernel
theorem dX6_minuteGoes_16 : decode cX6_minuteGoes 16 = .ok (.aload_n 0, 1) := by decide +kernel
theorem dX6_minuteGoes_17 : decode cX6_minuteGoes 17 = .ok (.getfield 61, 3) := by decide +kernel
theorem dX6_minuteGoes_20 : decode cX6_minuteGoes 20 = .ok (.aload_n 0, 1) := by decide +kernel
theorem dX6_minuteGoes_21 : decode cX6_minuteGoes 21 = .ok (.getfield 257, 3) := by decide +kernel
theorem dX6_minuteGoes_24 : decode cX6_minuteGoes 24 = .ok (.iaload, 1) := by decide +kernel
theorem dX6_minuteGoes_25 : decode cX6_minuteGoes 25 = .ok (.if_icmp .ge 22, 3) := by decide +kernel
theorem dX6_minuteGoes_28 : decode cX6_minuteGoes 28 = .ok (.aload_n 0, 1) := by decide +kernel
theorem dX6_minuteGoes_29 : decode cX6_minuteGoes 29 = .ok (.getfield 131, 3) := by decide +kernel
theorem dX6_minuteGoes_32 : decode cX6_minuteGoes 32 = .ok (.iload_n 2, 1) := by decide +kernel
theorem dX6_minuteGoes_33 : decode cX6_minuteGoes 33 = .ok (.iload_n 3, 1) := by decide +kernel
theorem dX6_minuteGoes_34 : decode cX6_minuteGoes 34 = .ok (.iadd, 1) := by decide +kernel
theorem dX6_minuteGoes_35 : decode cX6_minuteGoes 35 = .ok (.aload_n 0, 1) := by decide +kernel
theorem dX6_minuteGoes_36 : decode cX6_minuteGoes 36 = .ok (.iload_n 3, 1) := by decide +kernel
theorem dX6_minuteGoes_37 : decode cX6_minuteGoes 37 = .ok (.invokevirtual 398, 3) := by decide +kernel
theorem dX6_minuteGoes_40 : decode cX6_minuteGoes 40 = .ok (.iastore, 1) := by decide +kernel
theorem dX6_minuteGoes_41 : decode cX6_minuteGoes 41 = .ok (.iinc 3 1, 3) := by decide +kernel
theorem dX6_minuteGoes_44 : decode cX6_minuteGoes 44 = .ok (.goto (-29), 3) := by decide +kernel
theorem dX6_minuteGoes_47 : decode cX6_minuteGoes 47 = .ok (.bipush 6, 2) := by decide +kernel
theorem dX6_minuteGoes_49 : decode cX6_minuteGoes 49 = .ok (.istore_n 3, 1) := by decide +kernel
theorem dX6_minuteGoes_50 : decode cX6_minuteGoes 50 = .ok (.iload_n 3, 1) := by decide +kernel
theorem dX6_minuteGoes_51 : decode cX6_minuteGoes 51 = .ok (.bipush 28, 2) := by decide +kernel
theorem dX6_minuteGoes_53 : decode cX6_minuteGoes 53 = .ok (.if_icmp .ge 25, 3) := by decide +kernel
theorem dX6_minuteGoes_56 : decode cX6_minuteGoes 56 = .ok (.aload_n 0, 1) := by decide +kernel
theorem dX6_minuteGoes_57 : decode cX6_minuteGoes 57 = .ok (.getfield 131, 3) := by decide +kernel
theorem dX6_minuteGoes_60 : decode cX6_minuteGoes 60 = .ok (.iload_n 2, 1) := by decide +kernel
theorem dX6_minuteGoes_61 : decode cX6_minuteGoes 61 = .ok (.iload_n 3, 1) := by decide +kernel
theorem dX6_minuteGoes_62 : decode cX6_minuteGoes 62 = .ok (.iadd, 1) := by decide +kernel
theorem dX6_minuteGoes_63 : decode cX6_minuteGoes 63 = .ok (.aload_n 0, 1) := by decide +kernel
theorem dX6_minuteGoes_64 : decode cX6_minuteGoes 64 = .ok (.getfield 131, 3) := by decide +kernel
theorem dX6_minuteGoes_67 : decode cX6_minuteGoes 67 = .ok (.iload_n 1, 1) := by decide +kernel
theorem dX6_minuteGoes_68 : decode cX6_minuteGoes 68 = .ok (.iload_n 3, 1) := by decide +kernel
theorem dX6_minuteGoes_69 : decode cX6_minuteGoes 69 = .ok (.iadd, 1) := by decide +kernel
theorem dX6_minuteGoes_70 : decode cX6_minuteGoes 70 = .ok (.iaload, 1) := by decide +kernel
theorem dX6_minuteGoes_71 : decode cX6_minuteGoes 71 = .ok (.iastore, 1) := by decide +kernel
theorem dX6_minuteGoes_72 : decode cX6_minuteGoes 72 = .ok (.iinc 3 1, 3) := by decide +kernel
theorem dX6_minuteGoes_75 : decode cX6_minuteGoes 75 = .ok (.goto (-25), 3) := by decide +kernel
theorem dX6_minuteGoes_78 : decode cX6_minuteGoes 78 = .ok (.aload_n 0, 1) := by decide +kernel
theorem dX6_minuteGoes_79 : decode cX6_minuteGoes 79 = .ok (.dup, 1) := by decide +kernel
theorem dX6_minuteGoes_80 : decode cX6_minuteGoes 80 = .ok (.getfield 348, 3) := by decide +kernel
theorem dX6_minuteGoes_83 : decode cX6_minuteGoes 83 = .ok (.iconst 1, 1) := by decide +kernel
theorem dX6_minuteGoes_84 : decode cX6_minuteGoes 84 = .ok (.iadd, 1) := by decide +kernel
theorem dX6_minuteGoes_85 : decode cX6_minuteGoes 85 = .ok (.putfield 348, 3) := by decide +kernel
theorem dX6_minuteGoes_88 : decode cX6_minuteGoes 88 = .ok (.aload_n 0, 1) := by decide +kernel
theorem dX6_minuteGoes_89 : decode cX6_minuteGoes 89 = .ok (.invokevirtual 354, 3) := by decide +kernel
theorem dX6_minuteGoes_92 : decode cX6_minuteGoes 92 = .ok (.iconst 0, 1) := by decide +kernel
theorem dX6_minuteGoes_93 : decode cX6_minuteGoes 93 = .ok (.istore_n 3, 1) := by decide +kernel
theorem dX6_minuteGoes_94 : decode cX6_minuteGoes 94 = .ok (.iload_n 3, 1) := by decide +kernel
theorem dX6_minuteGoes_95 : decode cX6_minuteGoes 95 = .ok (.aload_n 0, 1) := by decide +kernel
theorem dX6_minuteGoes_96 : decode cX6_minuteGoes 96 = .ok (.getfield 70, 3) := by decide +kernel
theorem dX6_minuteGoes_99 : decode cX6_minuteGoes 99 = .ok (.aload_n 0, 1) := by decide +kernel
theorem dX6_minuteGoes_100 : decode cX6_minuteGoes 100 = .ok (.getfield 257, 3) := by decide +kernel
theorem dX6_minuteGoes_103 : decode cX6_minuteGoes 103 = .ok (.iaload, 1) := by decide +kernel
theorem dX6_minuteGoes_104 : decode cX6_minuteGoes 104 = .ok (.if_icmp .ge 41, 3) := by decide +kernel
theorem dX6_minuteGoes_107 : decode cX6_minuteGoes 107 = .ok (.aload_n 0, 1) := by decide +kernel
theorem dX6_minuteGoes_108 : decode cX6_minuteGoes 108 = .ok (.getfield 134, 3) := by decide +kernel
theorem dX6_minuteGoes_111 : decode cX6_minuteGoes 111 = .ok (.iload_n 3, 1) := by decide +kernel
theorem dX6_minuteGoes_112 : decode cX6_minuteGoes 112 = .ok (.iaload, 1) := by decide +kernel
theorem dX6_minuteGoes_113 : decode cX6_minuteGoes 113 = .ok (.iconst (-1), 1) := by decide +kernel
theorem dX6_minuteGoes_114 : decode cX6_minuteGoes 114 = .ok (.if_icmp .ne 25, 3) := by decide +kernel
theorem dX6_minuteGoes_117 : decode cX6_minuteGoes 117 = .ok (.aload_n 0, 1) := by decide +kernel
theorem dX6_minuteGoes_118 : decode cX6_minuteGoes 118 = .ok (.iload_n 3, 1) := by decide +kernel
theorem dX6_minuteGoes_119 : decode cX6_minuteGoes 119 = .ok (.invokevirtual 401, 3) := by decide +kernel
theorem dX6_minuteGoes_122 : decode cX6_minuteGoes 122 = .ok (.aload_n 0, 1) := by decide +kernel
theorem dX6_minuteGoes_123 : decode cX6_minuteGoes 123 = .ok (.getfield 79, 3) := by decide +kernel
theorem dX6_minuteGoes_126 : decode cX6_minuteGoes 126 = .ok (.aload_n 0, 1) := by decide +kernel
theorem dX6_minuteGoes_127 : decode cX6_minuteGoes 127 = .ok (.getfield 257, 3) := by decide +kernel
theorem dX6_minuteGoes_130 : decode cX6_minuteGoes 130 = .ok (.iaload, 1) := by decide +kernel
theorem dX6_minuteGoes_131 : decode cX6_minuteGoes 131 = .ok (.if_icmp .ge 8, 3) := by decide +kernel
theorem dX6_minuteGoes_134 : decode cX6_minuteGoes 134 = .ok (.aload_n 0, 1) := by decide +kernel
theorem dX6_minuteGoes_135 : decode cX6_minuteGoes 135 = .ok (.iload_n 3, 1) := by decide +kernel
theorem dX6_minuteGoes_136 : decode cX6_minuteGoes 136 = .ok (.invokevirtual 404, 3) := by decide +kernel
theorem dX6_minuteGoes_139 : decode cX6_minuteGoes 139 = .ok (.iinc 3 1, 3) := by decide +kernel
theorem dX6_minuteGoes_142 : decode cX6_minuteGoes 142 = .ok (.goto (-48), 3) := by decide +kernel
theorem dX6_minuteGoes_145 : decode cX6_minuteGoes 145 = .ok (.return_, 1) := by decide +kernel
abbrev rm_X6_minuteGoes : Room := { frames := 4, cells := 0, slots := 0, locals := 98 }
def f_X6_minuteGoes_L15 (x1 : Int32) (x2 : Int32) (z15 : Int32 × St) : Option ((Int32 × St) ⊕ (St)) :=
  chk (ib (st_I z15.2 (ky 0 18)) 2) (if (st_A z15.2 (ky 0 28) (st_I z15.2 (ky 0 18)).toNatClampNeg) ≤ z15.1 then (some (.inr z15.2)) else ((f_X6_goesTo  z15.2 z15.1).bind (fun (q3 : Int32 × St) => chk (ib (x2 + z15.1) 10800) (lt_v (up_A q3.2 (ky 0 56) (upd (st_A q3.2 (ky 0 56)) (x2 + z15.1).toNatClampNeg q3.1)) (fun (S4 : St) => some (.inl ((z15.1 + 1), S4)))))))
def f_X6_minuteGoes_L50 (x1 : Int32) (x2 : Int32) (z50 : Int32 × St) : Option ((Int32 × St) ⊕ (St)) :=
  if (28 : Int32) ≤ z50.1 then (some (.inr z50.2)) else (chk (ib (x1 + z50.1) 10800) (chk (ib (x2 + z50.1) 10800) (lt_v (up_A z50.2 (ky 0 56) (upd (st_A z50.2 (ky 0 56)) (x2 + z50.1).toNatClampNeg (st_A z50.2 (ky 0 56) (x1 + z50.1).toNatClampNeg))) (fun (S7 : St) => some (.inl ((z50.1 + 1), S7))))))
def f_X6_minuteGoes_L94  (z94 : Int32 × St) : Option ((Int32 × St) ⊕ (St)) :=
  chk (ib (st_I z94.2 (ky 0 18)) 2) (if (st_A z94.2 (ky 0 31) (st_I z94.2 (ky 0 18)).toNatClampNeg) ≤ z94.1 then (some (.inr z94.2)) else (chk (ib z94.1 8) (if (st_A z94.2 (ky 0 58) z94.1.toNatClampNeg) = (-1 : Int32) then ((f_X6_lotOf  z94.2 z94.1).bind (fun (q13 : Int32) => chk (ib (st_I z94.2 (ky 0 18)) 2) (if (st_A z94.2 (ky 0 34) (st_I z94.2 (ky 0 18)).toNatClampNeg) ≤ q13 then (some (.inl ((z94.1 + 1), z94.2))) else ((f_X6_breaksNow  z94.2 z94.1).bind (fun (q15 : St) => some (.inl ((z94.1 + 1), q15))))))) else (some (.inl ((z94.1 + 1), z94.2))))))
def f_X6_minuteGoes (S : St)  : Option (St) :=
  lt_v (((36 : Int32) * (st_I S (ky 0 57))) + (36 : Int32)) (fun (u1 : Int32) => (iter (f_X6_minuteGoes_L15   ((36 : Int32) * (st_I S (ky 0 57))) u1) FU ((0 : Int32), S)).bind (fun (S5 : St) => (iter (f_X6_minuteGoes_L50   ((36 : Int32) * (st_I S (ky 0 57))) u1) FU ((6 : Int32), S5)).bind (fun (S8 : St) => lt_v (up_I S8 (ky 0 57) ((st_I S8 (ky 0 57)) + (1 : Int32))) (fun (S9 : St) => (f_X6_fillsLate  S9 ).bind (fun (q10 : St) => iter (f_X6_minuteGoes_L94   ) FU ((0 : Int32), q10))))))
set_option maxRecDepth 100000 in
set_option maxHeartbeats 4000000 in
theorem k_X6_minuteGoes (l : Launch) (g : GG) (hg : gd wd_M g)  (hM : hs wd_M g 0 6) (S : St)  (q : St) (hf : f_X6_minuteGoes  S  = some q) : Met l yX6_minuteGoes (Cond.code yX6_minuteGoes cX6_minuteGoes 4 none :: gw_tbl) rm_X6_minuteGoes (va_Pc [.ref (gg_o g 0)] (wI wd_M g S)) (qc_v wd_M g q) 0 0 (aw g) := by
  refine mt_start (own := RX6) hg (by decide) rfl (Nat.le_of_ble_eq_true rfl) (fun p e s m args below meth c ls H locs cx hw hr hlk hl => ?_)
  have hx := cx.1
  have hb := cx.2.1
  have hown := cx.2.2.2.1
  have hts := cx.2.2.2.2.1
  have hl : lv_has ls 4 [(0, .ref (gg_o g 0))] := hl
  replace hf := h_top hf
  unfold f_X6_minuteGoes at hf
  refine lv_bipush (v := 36) hx hb dX6_minuteGoes_0 (by decide) ?_
  refine lv_aload_n hx hb dX6_minuteGoes_2 rfl (lv_at hl 0 rfl) ?_
  refine gf_X6_348 cx hw hM dX6_minuteGoes_3 ?_
  refine lv_imul hx hb dX6_minuteGoes_6 ?_
  refine lv_istore_n hx hb dX6_minuteGoes_7 rfl hl (by decide) (lv' := [(1, .int ((36 : Int32) * (st_I S (ky 0 57)))), (0, .ref (gg_o g 0))]) rfl (fun ls hl => ?_)
  refine lv_iload_n hx hb dX6_minuteGoes_8 rfl (lv_at hl 0 rfl) ?_
  refine lv_bipush (v := 36) hx hb dX6_minuteGoes_9 (by decide) ?_
  refine lv_iadd hx hb dX6_minuteGoes_11 ?_
  refine r_leti hf (fun u1 hf => ?_)
  refine lv_istore_n hx hb dX6_minuteGoes_12 rfl hl (by decide) (lv' := [(2, .int u1), (1, .int ((36 : Int32) * (st_I S (ky 0 57)))), (0, .ref (gg_o g 0))]) rfl (fun ls hl => ?_)
  refine lv_iconst (v := 0) hx hb dX6_minuteGoes_13 (by decide) ?_
  refine lv_istore_n hx hb dX6_minuteGoes_14 rfl hl (by decide) (lv' := [(3, .int (0 : Int32)), (2, .int u1), (1, .int ((36 : Int32) * (st_I S (ky 0 57)))), (0, .ref (gg_o g 0))]) rfl (fun ls hl => ?_)
  have L15 : ∀ (x1 : Int32) (x2 : Int32) (aft15 : St → Option (St)), (∀ (ls : Array Slot) (H : Heap) (locs : List Loc) (S1 : St), lv_has ls 4 [(0, .ref (gg_o g 0)), (1, .int x1), (2, .int x2)] → HH wd_M g s S1 H locs → aft15 S1 = some q → W p l e rm_X6_minuteGoes s m args below meth c H locs 0 0 (MQ below (qc_v wd_M g q) args s 0 0 (aw g)) (F0 m 47 ls [])) → ∀ (n15 : Nat) (ls : Array Slot) (H : Heap) (locs : List Loc) (z15 : Int32 × St), lv_has ls 4 [(0, .ref (gg_o g 0)), (1, .int x1), (2, .int x2), (3, .int z15.1)] → HH wd_M g s z15.2 H locs → (iter (f_X6_minuteGoes_L15   x1 x2) n15 z15).bind aft15 = some q → W p l e rm_X6_minuteGoes s m args below meth c H locs 0 0 (MQ below (qc_v wd_M g q) args s 0 0 (aw g)) (F0 m 15 ls []) := by
    intro x1 x2 aft15 hX15 n15
    induction n15 with
    | zero => intro ls H locs z15 hl hw hf; exact h_iter0 hf
    | succ n15 ih15 =>
      intro ls H locs z15 hl hw hf
      replace hf := h_iter hf
      unfold f_X6_minuteGoes_L15 at hf
      refine lv_iload_n hx hb dX6_minuteGoes_15 rfl (lv_at hl 3 rfl) ?_
      refine lv_aload_n hx hb dX6_minuteGoes_16 rfl (lv_at hl 0 rfl) ?_
      refine gf_X6_61 cx hw hM dX6_minuteGoes_17 ?_
      refine lv_aload_n hx hb dX6_minuteGoes_20 rfl (lv_at hl 0 rfl) ?_
      refine gf_X6_257 cx hw hM dX6_minuteGoes_21 ?_
      refine r_iald cx hw (hM.2.2.1 28 rfl) rfl rfl hf dX6_minuteGoes_24 (fun hf => ?_)
      refine lv_icmp_ge hx hb dX6_minuteGoes_25 (tgt := 47) rfl (fun hc2 => ?_) (fun hc2 => ?_)
      · replace hf := h_pos hc2 hf
        exact hX15 _ _ _ z15.2 (lv_sub hl [0, 1, 2] rfl) hw hf
      replace hf := h_neg hc2 hf
      refine lv_aload_n hx hb dX6_minuteGoes_28 rfl (lv_at hl 0 rfl) ?_
      refine gf_X6_131 cx hw hM dX6_minuteGoes_29 ?_
      refine lv_iload_n hx hb dX6_minuteGoes_32 rfl (lv_at hl 2 rfl) ?_
      refine lv_iload_n hx hb dX6_minuteGoes_33 rfl (lv_at hl 3 rfl) ?_
      refine lv_iadd hx hb dX6_minuteGoes_34 ?_
      refine lv_aload_n hx hb dX6_minuteGoes_35 rfl (lv_at hl 0 rfl) ?_
      refine lv_iload_n hx hb dX6_minuteGoes_36 rfl (lv_at hl 3 rfl) ?_
      refine r_V_w (As := [.int z15.1]) (rest := [.int (x2 + z15.1), .ref (gg_a g (ky 0 56))]) cx hw hf hM.2.1 (by rw [hM.1]; rfl) lk_X6_398 (fun q3 hq => k_X6_goesTo l g hg  hM z15.2 z15.1 q3 hq) ⟨⟨rfl, rfl⟩, Nat.le_of_ble_eq_true rfl, Nat.le_of_ble_eq_true rfl⟩ rfl hl.1 rfl (Nat.le_of_ble_eq_true rfl) dX6_minuteGoes_37 ⟨Nat.zero_le _, Nat.zero_le _⟩ (fun q3 H locs hw hf => ?_)
      refine r_iast cx hw (hM.2.2.1 56 rfl) rfl rfl hf dX6_minuteGoes_40 (fun S4 H locs hw hf => ?_)
      refine lv_iinc hx hb dX6_minuteGoes_41 hl (k := 3) rfl (congrArg (HAdd.hAdd _) (show Int32.ofInt (1) = 1 by decide)) (by decide) (lv' := [(3, .int (z15.1 + 1)), (0, .ref (gg_o g 0)), (1, .int x1), (2, .int x2)]) rfl (fun ls hl => ?_)
      refine lv_goto hx hb dX6_minuteGoes_44 (tgt := 15) rfl ?_
      exact ih15 _ _ _ ((z15.1 + 1), S4) (lv_sub hl [1, 2, 3, 0] rfl) hw hf
  refine L15 ((36 : Int32) * (st_I S (ky 0 57))) u1 _ (fun ls H locs S5 hl hw hf => ?_) FU _ _ _ ((0 : Int32), S) (lv_sub hl [3, 2, 1, 0] rfl) hw (h_assoc hf)
  try dsimp only at hf
  refine lv_bipush (v := 6) hx hb dX6_minuteGoes_47 (by decide) ?_
  refine lv_istore_n hx hb dX6_minuteGoes_49 rfl hl (by decide) (lv' := [(3, .int (6 : Int32)), (0, .ref (gg_o g 0)), (1, .int ((36 : Int32) * (st_I S (ky 0 57)))), (2, .int u1)]) rfl (fun ls hl => ?_)
  have L50 : ∀ (x1 : Int32) (x2 : Int32) (aft50 : St → Option (St)), (∀ (ls : Array Slot) (H : Heap) (locs : List Loc) (S1 : St), lv_has ls 4 [(0, .ref (gg_o g 0))] → HH wd_M g s S1 H locs → aft50 S1 = some q → W p l e rm_X6_minuteGoes s m args below meth c H locs 0 0 (MQ below (qc_v wd_M g q) args s 0 0 (aw g)) (F0 m 78 ls [])) → ∀ (n50 : Nat) (ls : Array Slot) (H : Heap) (locs : List Loc) (z50 : Int32 × St), lv_has ls 4 [(0, .ref (gg_o g 0)), (1, .int x1), (2, .int x2), (3, .int z50.1)] → HH wd_M g s z50.2 H locs → (iter (f_X6_minuteGoes_L50   x1 x2) n50 z50).bind aft50 = some q → W p l e rm_X6_minuteGoes s m args below meth c H locs 0 0 (MQ below (qc_v wd_M g q) args s 0 0 (aw g)) (F0 m 50 ls []) := by
    intro x1 x2 aft50 hX50 n50
    induction n50 with
    | zero => intro ls H locs z50 hl hw hf; exact h_iter0 hf
    | succ n50 ih50 =>
      intro ls H locs z50 hl hw hf
      replace hf := h_iter hf
      unfold f_X6_minuteGoes_L50 at hf
      refine lv_iload_n hx hb dX6_minuteGoes_50 rfl (lv_at hl 3 rfl) ?_
      refine lv_bipush (v := 28) hx hb dX6_minuteGoes_51 (by decide) ?_
      refine lv_icmp_ge hx hb dX6_minuteGoes_53 (tgt := 78) rfl (fun hc6 => ?_) (fun hc6 => ?_)
      · replace hf := h_pos hc6 hf
        exact hX50 _ _ _ z50.2 (lv_sub hl [0] rfl) hw hf
      replace hf := h_neg hc6 hf
      refine lv_aload_n hx hb dX6_minuteGoes_56 rfl (lv_at hl 0 rfl) ?_
      refine gf_X6_131 cx hw hM dX6_minuteGoes_57 ?_
      refine lv_iload_n hx hb dX6_minuteGoes_60 rfl (lv_at hl 2 rfl) ?_
      refine lv_iload_n hx hb dX6_minuteGoes_61 rfl (lv_at hl 3 rfl) ?_
      refine lv_iadd hx hb dX6_minuteGoes_62 ?_
      refine lv_aload_n hx hb dX6_minuteGoes_63 rfl (lv_at hl 0 rfl) ?_
      refine gf_X6_131 cx hw hM dX6_minuteGoes_64 ?_
      refine lv_iload_n hx hb dX6_minuteGoes_67 rfl (lv_at hl 1 rfl) ?_
      refine lv_iload_n hx hb dX6_minuteGoes_68 rfl (lv_at hl 3 rfl) ?_
      refine lv_iadd hx hb dX6_minuteGoes_69 ?_
      refine r_iald cx hw (hM.2.2.1 56 rfl) rfl rfl hf dX6_minuteGoes_70 (fun hf => ?_)
      refine r_iast cx hw (hM.2.2.1 56 rfl) rfl rfl hf dX6_minuteGoes_71 (fun S7 H locs hw hf => ?_)
      refine lv_iinc hx hb dX6_minuteGoes_72 hl (k := 3) rfl (congrArg (HAdd.hAdd _) (show Int32.ofInt (1) = 1 by decide)) (by decide) (lv' := [(3, .int (z50.1 + 1)), (0, .ref (gg_o g 0)), (1, .int x1), (2, .int x2)]) rfl (fun ls hl => ?_)
      refine lv_goto hx hb dX6_minuteGoes_75 (tgt := 50) rfl ?_
      exact ih50 _ _ _ ((z50.1 + 1), S7) (lv_sub hl [1, 2, 3, 0] rfl) hw hf
  refine L50 ((36 : Int32) * (st_I S (ky 0 57))) u1 _ (fun ls H locs S8 hl hw hf => ?_) FU _ _ _ ((6 : Int32), S5) (lv_sub hl [1, 2, 3, 0] rfl) hw (h_assoc hf)
  try dsimp only at hf
  refine lv_aload_n hx hb dX6_minuteGoes_78 rfl (lv_at hl 0 rfl) ?_
  refine lv_dup hx hb dX6_minuteGoes_79 rfl ?_
  refine gf_X6_348 cx hw hM dX6_minuteGoes_80 ?_
  refine lv_iconst (v := 1) hx hb dX6_minuteGoes_83 (by decide) ?_
  refine lv_iadd hx hb dX6_minuteGoes_84 ?_
  refine pf_X6_348 cx hw hM hf dX6_minuteGoes_85 (fun S9 H locs hw hf => ?_)
  refine lv_aload_n hx hb dX6_minuteGoes_88 rfl (lv_at hl 0 rfl) ?_
  refine r_V_v (As := []) (rest := []) cx hw hf hM.2.1 (by rw [hM.1]; rfl) lk_X6_354 (fun q10 hq => k_X6_fillsLate l g hg  hM S9  q10 hq) ⟨⟨rfl, rfl⟩, Nat.le_of_ble_eq_true rfl, Nat.le_of_ble_eq_true rfl⟩ rfl hl.1 rfl (Nat.le_of_ble_eq_true rfl) dX6_minuteGoes_89 ⟨Nat.zero_le _, Nat.zero_le _⟩ (fun q10 H locs hw hf => ?_)
  refine lv_iconst (v := 0) hx hb dX6_minuteGoes_92 (by decide) ?_
  refine lv_istore_n hx hb dX6_minuteGoes_93 rfl hl (by decide) (lv' := [(3, .int (0 : Int32)), (0, .ref (gg_o g 0))]) rfl (fun ls hl => ?_)
  have L94 : ∀  (aft94 : St → Option (St)), (∀ v : St, aft94 v = some q → (some v : Option (St)).bind some = some q) → ∀ (n94 : Nat) (ls : Array Slot) (H : Heap) (locs : List Loc) (z94 : Int32 × St), lv_has ls 4 [(0, .ref (gg_o g 0)), (3, .int z94.1)] → HH wd_M g s z94.2 H locs → (iter (f_X6_minuteGoes_L94   ) n94 z94).bind aft94 = some q → W p l e rm_X6_minuteGoes s m args below meth c H locs 0 0 (MQ below (qc_v wd_M g q) args s 0 0 (aw g)) (F0 m 94 ls []) := by
    intro aft94 hR94 n94
    induction n94 with
    | zero => intro ls H locs z94 hl hw hf; exact h_iter0 hf
    | succ n94 ih94 =>
      intro ls H locs z94 hl hw hf
      replace hf := h_iter hf
      unfold f_X6_minuteGoes_L94 at hf
      refine lv_iload_n hx hb dX6_minuteGoes_94 rfl (lv_at hl 1 rfl) ?_
      refine lv_aload_n hx hb dX6_minuteGoes_95 rfl (lv_at hl 0 rfl) ?_
      refine gf_X6_70 cx hw hM dX6_minuteGoes_96 ?_
      refine lv_aload_n hx hb dX6_minuteGoes_99 rfl (lv_at hl 0 rfl) ?_
      refine gf_X6_257 cx hw hM dX6_minuteGoes_100 ?_
      refine r_iald cx hw (hM.2.2.1 31 rfl) rfl rfl hf dX6_minuteGoes_103 (fun hf => ?_)
      refine lv_icmp_ge hx hb dX6_minuteGoes_104 (tgt := 145) rfl (fun hc11 => ?_) (fun hc11 => ?_)
      · replace hf := h_pos hc11 hf
        replace hf := hR94 z94.2 hf
        exact r_vret cx hw hr hlk hf dX6_minuteGoes_145
      replace hf := h_neg hc11 hf
      refine lv_aload_n hx hb dX6_minuteGoes_107 rfl (lv_at hl 0 rfl) ?_
      refine gf_X6_134 cx hw hM dX6_minuteGoes_108 ?_
      refine lv_iload_n hx hb dX6_minuteGoes_111 rfl (lv_at hl 1 rfl) ?_
      refine r_iald cx hw (hM.2.2.1 58 rfl) rfl rfl hf dX6_minuteGoes_112 (fun hf => ?_)
      refine lv_iconst (v := -1) hx hb dX6_minuteGoes_113 (by decide) ?_
      refine lv_icmp_ne hx hb dX6_minuteGoes_114 (tgt := 139) rfl (fun hc12 => ?_) (fun hc12 => ?_)
      · replace hf := h_neg hc12 hf
        refine lv_iinc hx hb dX6_minuteGoes_139 hl (k := 1) rfl (congrArg (HAdd.hAdd _) (show Int32.ofInt (1) = 1 by decide)) (by decide) (lv' := [(3, .int (z94.1 + 1)), (0, .ref (gg_o g 0))]) rfl (fun ls hl => ?_)
        refine lv_goto hx hb dX6_minuteGoes_142 (tgt := 94) rfl ?_
        exact ih94 _ _ _ ((z94.1 + 1), z94.2) (lv_sub hl [1, 0] rfl) hw hf
      replace hf := h_pos hc12 hf
      refine lv_aload_n hx hb dX6_minuteGoes_117 rfl (lv_at hl 0 rfl) ?_
      refine lv_iload_n hx hb dX6_minuteGoes_118 rfl (lv_at hl 1 rfl) ?_
      refine r_V_i (As := [.int z94.1]) (rest := []) cx hw hf hM.2.1 (by rw [hM.1]; rfl) lk_X6_401 (fun q13 hq => k_X6_lotOf l g hg  hM z94.2 z94.1 q13 hq) ⟨⟨rfl, rfl⟩, Nat.le_of_ble_eq_true rfl, Nat.le_of_ble_eq_true rfl⟩ rfl hl.1 rfl (Nat.le_of_ble_eq_true rfl) dX6_minuteGoes_119 ⟨Nat.zero_le _, Nat.zero_le _⟩ (fun q13 H locs hw hf => ?_)
      refine lv_aload_n hx hb dX6_minuteGoes_122 rfl (lv_at hl 0 rfl) ?_
      refine gf_X6_79 cx hw hM dX6_minuteGoes_123 ?_
      refine lv_aload_n hx hb dX6_minuteGoes_126 rfl (lv_at hl 0 rfl) ?_
      refine gf_X6_257 cx hw hM dX6_minuteGoes_127 ?_
      refine r_iald cx hw (hM.2.2.1 34 rfl) rfl rfl hf dX6_minuteGoes_130 (fun hf => ?_)
      refine lv_icmp_ge hx hb dX6_minuteGoes_131 (tgt := 139) rfl (fun hc14 => ?_) (fun hc14 => ?_)
      · replace hf := h_pos hc14 hf
        refine lv_iinc hx hb dX6_minuteGoes_139 hl (k := 1) rfl (congrArg (HAdd.hAdd _) (show Int32.ofInt (1) = 1 by decide)) (by decide) (lv' := [(3, .int (z94.1 + 1)), (0, .ref (gg_o g 0))]) rfl (fun ls hl => ?_)
        refine lv_goto hx hb dX6_minuteGoes_142 (tgt := 94) rfl ?_
        exact ih94 _ _ _ ((z94.1 + 1), z94.2) (lv_sub hl [1, 0] rfl) hw hf
      replace hf := h_neg hc14 hf
      refine lv_aload_n hx hb dX6_minuteGoes_134 rfl (lv_at hl 0 rfl) ?_
      refine lv_iload_n hx hb dX6_minuteGoes_135 rfl (lv_at hl 1 rfl) ?_
      refine r_V_v (As := [.int z94.1]) (rest := []) cx hw hf hM.2.1 (by rw [hM.1]; rfl) lk_X6_404 (fun q15 hq => k_X6_breaksNow l g hg  hM z94.2 z94.1 q15 hq) ⟨⟨rfl, rfl⟩, Nat.le_of_ble_eq_true rfl, Nat.le_of_ble_eq_true rfl⟩ rfl hl.1 rfl (Nat.le_of_ble_eq_true rfl) dX6_minuteGoes_136 ⟨Nat.zero_le _, Nat.zero_le _⟩ (fun q15 H locs hw hf => ?_)
      refine lv_iinc hx hb dX6_minuteGoes_139 hl (k := 1) rfl (congrArg (HAdd.hAdd _) (show Int32.ofInt (1) = 1 by decide)) (by decide) (lv' := [(3, .int (z94.1 + 1)), (0, .ref (gg_o g 0))]) rfl (fun ls hl => ?_)
      refine lv_goto hx hb dX6_minuteGoes_142 (tgt := 94) rfl ?_
      exact ih94 _ _ _ ((z94.1 + 1), q15) (lv_sub hl [1, 0] rfl) hw hf
  exact L94 some (fun v h => h) FU _ _ _ ((0 : Int32), q10) (lv_sub hl [1, 0] rfl) hw hf
theorem dX6_goesTill_0 : decode cX6_goesTill 0 = .ok (.aload_n 0, 1) := by decide +kernel
theorem dX6_goesTill_1 : decode cX6_goesTill 1 = .ok (.getfield 348, 3) := by decide +kernel
theorem dX6_goesTill_4 : decode cX6_goesTill 4 = .ok (.iload_n 1, 1) := by decide +kernel
theorem dX6_goesTill_5 : decode cX6_goesTill 5 = .ok (.if_icmp .ge 20, 3) := by decide +kernel
theorem dX6_goesTill_8 : decode cX6_goesTill 8 = .ok (.aload_n 0, 1) := by decide +kernel
theorem dX6_goesTill_9 : decode cX6_goesTill 9 = .ok (.getfield 348, 3) := by decide +kernel
theorem dX6_goesTill_12 : decode cX6_goesTill 12 = .ok (.sipush 299, 3) := by decide +kernel
theorem dX6_goesTill_15 : decode cX6_goesTill 15 = .ok (.if_icmp .ge 10, 3) := by decide +kernel
theorem dX6_goesTill_18 : decode cX6_goesTill 18 = .ok (.aload_n 0, 1) := by decide +kernel
theorem dX6_goesTill_19 : decode cX6_goesTill 19 = .ok (.invokevirtual 407, 3) := by decide +kernel
theorem dX6_goesTill_22 : decode cX6_goesTill 22 = .ok (.goto (-22), 3) := by decide +kernel
theorem dX6_goesTill_25 : decode cX6_goesTill 25 = .ok (.return_, 1) := by decide +kernel
abbrev rm_X6_goesTill : Room := { frames := 5, cells := 0, slots := 0, locals := 121 }
def f_X6_goesTill_L0 (x1 : Int32) (z0 : St) : Option ((St) ⊕ (St)) :=
  if x1 ≤ (st_I z0 (ky 0 57)) then (some (.inr z0)) else (if (299 : Int32) ≤ (st_I z0 (ky 0 57)) then (some (.inr z0)) else ((f_X6_minuteGoes  z0 ).bind (fun (q3 : St) => some (.inl q3))))
def f_X6_goesTill (S : St) (x1 : Int32) : Option (St) :=
  iter (f_X6_goesTill_L0   x1) FU S
set_option maxRecDepth 100000 in
set_option maxHeartbeats 4000000 in
theorem k_X6_goesTill (l : Launch) (g : GG) (hg : gd wd_M g)  (hM : hs wd_M g 0 6) (S : St) (x1 : Int32) (q : St) (hf : f_X6_goesTill  S x1 = some q) : Met l yX6_goesTill (Cond.code yX6_goesTill cX6_goesTill 2 none :: gw_tbl) rm_X6_goesTill (va_Pc [.ref (gg_o g 0), .int x1] (wI wd_M g S)) (qc_v wd_M g q) 0 0 (aw g) := by
  refine mt_start (own := RX6) hg (by decide) rfl (Nat.le_of_ble_eq_true rfl) (fun p e s m args below meth c ls H locs cx hw hr hlk hl => ?_)
  have hx := cx.1
  have hb := cx.2.1
  have hown := cx.2.2.2.1
  have hts := cx.2.2.2.2.1
  have hl : lv_has ls 2 [(0, .ref (gg_o g 0)), (1, .int x1)] := hl
  replace hf := h_top hf
  unfold f_X6_goesTill at hf
  have L0 : ∀ (x1 : Int32) (aft0 : St → Option (St)), (∀ v : St, aft0 v = some q → (some v : Option (St)).bind some = some q) → ∀ (n0 : Nat) (ls : Array Slot) (H : Heap) (locs : List Loc) (z0 : St), lv_has ls 2 [(0, .ref (gg_o g 0)), (1, .int x1)] → HH wd_M g s z0 H locs → (iter (f_X6_goesTill_L0   x1) n0 z0).bind aft0 = some q → W p l e rm_X6_goesTill s m args below meth c H locs 0 0 (MQ below (qc_v wd_M g q) args s 0 0 (aw g)) (F0 m 0 ls []) := by
    intro x1 aft0 hR0 n0
    induction n0 with
    | zero => intro ls H locs z0 hl hw hf; exact h_iter0 hf
    | succ n0 ih0 =>
      intro ls H locs z0 hl hw hf
      replace hf := h_iter hf
      unfold f_X6_goesTill_L0 at hf
      refine lv_aload_n hx hb dX6_goesTill_0 rfl (lv_at hl 0 rfl) ?_
      refine gf_X6_348 cx hw hM dX6_goesTill_1 ?_
      refine lv_iload_n hx hb dX6_goesTill_4 rfl (lv_at hl 1 rfl) ?_
      refine lv_icmp_ge hx hb dX6_goesTill_5 (tgt := 25) rfl (fun hc1 => ?_) (fun hc1 => ?_)
      · replace hf := h_pos hc1 hf
        replace hf := hR0 z0 hf
        exact r_vret cx hw hr hlk hf dX6_goesTill_25
      replace hf := h_neg hc1 hf
      refine lv_aload_n hx hb dX6_goesTill_8 rfl (lv_at hl 0 rfl) ?_
      refine gf_X6_348 cx hw hM dX6_goesTill_9 ?_
      refine lv_sipush (v := 299) hx hb dX6_goesTill_12 (by decide) ?_
      refine lv_icmp_ge hx hb dX6_goesTill_15 (tgt := 25) rfl (fun hc2 => ?_) (fun hc2 => ?_)
      · replace hf := h_pos hc2 hf
        replace hf := hR0 z0 hf
        exact r_vret cx hw hr hlk hf dX6_goesTill_25
      replace hf := h_neg hc2 hf
      refine lv_aload_n hx hb dX6_goesTill_18 rfl (lv_at hl 0 rfl) ?_
      refine r_V_v (As := []) (rest := []) cx hw hf hM.2.1 (by rw [hM.1]; rfl) lk_X6_407 (fun q3 hq => k_X6_minuteGoes l g hg  hM z0  q3 hq) ⟨⟨rfl, rfl⟩, Nat.le_of_ble_eq_true rfl, Nat.le_of_ble_eq_true rfl⟩ rfl hl.1 rfl (Nat.le_of_ble_eq_true rfl) dX6_goesTill_19 ⟨Nat.zero_le _, Nat.zero_le _⟩ (fun q3 H locs hw hf => ?_)
      refine lv_goto hx hb dX6_goesTill_22 (tgt := 0) rfl ?_
      exact ih0 _ _ _ q3 (lv_sub hl [0, 1] rfl) hw hf
  exact L0 x1 some (fun v h => h) FU _ _ _ S (lv_sub hl [0, 1] rfl) hw hf
theorem dX6_man_0 : decode cX6_man 0 = .ok (.aload_n 0, 1) := by decide +kernel
theorem dX6_man_1 : decode cX6_man 1 = .ok (.iload_n 1, 1) := by decide +kernel
theorem dX6_man_2 : decode cX6_man 2 = .ok (.invokevirtual 410, 3) := by decide +kernel
theorem dX6_man_5 : decode cX6_man 5 = .ok (.ifCond .eq 20, 3) := by decide +kernel
theorem dX6_man_8 : decode cX6_man 8 = .ok (.aload_n 0, 1) := by decide +kernel
theorem dX6_man_9 : decode cX6_man 9 = .ok (.iload_n 2, 1) := by decide +kernel
theorem dX6_man_10 : decode cX6_man 10 = .ok (.invokevirtual 413, 3) := by decide +kernel
theorem dX6_man_13 : decode cX6_man 13 = .ok (.ifCond .eq 12, 3) := by decide +kernel
theorem dX6_man_16 : decode cX6_man 16 = .ok (.iload_n 3, 1) := by decide +kernel
theorem dX6_man_17 : decode cX6_man 17 = .ok (.iconst 0, 1) := by decide +kernel
theorem dX6_man_18 : decode cX6_man 18 = .ok (.iconst 1, 1) := by decide +kernel
theorem dX6_man_19 : decode cX6_man 19 = .ok (.invokestatic 341, 3) := by decide +kernel
theorem dX6_man_22 : decode cX6_man 22 = .ok (.ifCond .ne 5, 3) := by decide +kernel
theorem dX6_man_25 : decode cX6_man 25 = .ok (.iconst (-1), 1) := by decide +kernel
theorem dX6_man_26 : decode cX6_man 26 = .ok (.ireturn, 1) := by decide +kernel
theorem dX6_man_27 : decode cX6_man 27 = .ok (.aload_n 0, 1) := by decide +kernel
theorem dX6_man_28 : decode cX6_man 28 = .ok (.getfield 122, 3) := by decide +kernel
theorem dX6_man_31 : decode cX6_man 31 = .ok (.bipush 36, 2) := by decide +kernel
theorem dX6_man_33 : decode cX6_man 33 = .ok (.iload_n 2, 1) := by decide +kernel
theorem dX6_man_34 : decode cX6_man 34 = .ok (.imul, 1) := by decide +kernel
theorem dX6_man_35 : decode cX6_man 35 = .ok (.bipush 6, 2) := by decide +kernel
theorem dX6_man_37 : decode cX6_man 37 = .ok (.iload_n 3, 1) := by decide +kernel
theorem dX6_man_38 : decode cX6_man 38 = .ok (.imul, 1) := by decide +kernel
theorem dX6_man_39 : decode cX6_man 39 = .ok (.iadd, 1) := by decide +kernel
theorem dX6_man_40 : decode cX6_man 40 = .ok (.iload_n 1, 1) := by decide +kernel
theorem dX6_man_41 : decode cX6_man 41 = .ok (.iadd, 1) := by decide +kernel
theorem dX6_man_42 : decode cX6_man 42 = .ok (.iaload, 1) := by decide +kernel
theorem dX6_man_43 : decode cX6_man 43 = .ok (.ireturn, 1) := by decide +kernel
abbrev rm_X6_man : Room := { frames := 2, cells := 0, slots := 0, locals := 43 }
def f_X6_man (S : St) (x1 : Int32) (x2 : Int32) (x3 : Int32) : Option (Int32) :=
  (f_X6_isMan  S x1).bind (fun (q1 : Int32) => if q1 = 0 then (some (-1 : Int32)) else ((f_X6_isPast  S x2).bind (fun (q3 : Int32) => if q3 = 0 then (some (-1 : Int32)) else ((f_X6_in   x3 (0 : Int32) (1 : Int32)).bind (fun (q5 : Int32) => if q5 = 0 then (some (-1 : Int32)) else (chk (ib ((((36 : Int32) * x2) + ((6 : Int32) * x3)) + x1) 10800) (some (st_A S (ky 0 52) ((((36 : Int32) * x2) + ((6 : Int32) * x3)) + x1).toNatClampNeg))))))))
set_option maxRecDepth 100000 in
set_option maxHeartbeats 4000000 in
theorem k_X6_man (l : Launch) (g : GG) (hg : gd wd_M g)  (hM : hs wd_M g 0 6) (S : St) (x1 : Int32) (x2 : Int32) (x3 : Int32) (q : Int32) (hf : f_X6_man  S x1 x2 x3 = some q) : Met l yX6_man (Cond.code yX6_man cX6_man 4 (some .int) :: gw_tbl) rm_X6_man (va_Pc [.ref (gg_o g 0), .int x1, .int x2, .int x3] (wI wd_M g S)) (qc_i wd_M g S q) 0 0 (aw g) := by
  refine mt_start (own := RX6) hg (by decide) rfl (Nat.le_of_ble_eq_true rfl) (fun p e s m args below meth c ls H locs cx hw hr hlk hl => ?_)
  have hx := cx.1
  have hb := cx.2.1
  have hown := cx.2.2.2.1
  have hts := cx.2.2.2.2.1
  have hl : lv_has ls 4 [(0, .ref (gg_o g 0)), (1, .int x1), (2, .int x2), (3, .int x3)] := hl
  replace hf := h_top hf
  unfold f_X6_man at hf
  refine lv_aload_n hx hb dX6_man_0 rfl (lv_at hl 0 rfl) ?_
  refine lv_iload_n hx hb dX6_man_1 rfl (lv_at hl 1 rfl) ?_
  refine r_V_i (As := [.int x1]) (rest := []) cx hw hf hM.2.1 (by rw [hM.1]; rfl) lk_X6_410 (fun q1 hq => k_X6_isMan l g hg  hM S x1 q1 hq) ⟨⟨rfl, rfl⟩, Nat.le_of_ble_eq_true rfl, Nat.le_of_ble_eq_true rfl⟩ rfl hl.1 rfl (Nat.le_of_ble_eq_true rfl) dX6_man_2 ⟨Nat.zero_le _, Nat.zero_le _⟩ (fun q1 H locs hw hf => ?_)
  refine lv_if_eq hx hb dX6_man_5 (tgt := 25) rfl (fun hc2 => ?_) (fun hc2 => ?_)
  · replace hf := h_pos hc2 hf
    refine lv_iconst (v := -1) hx hb dX6_man_25 (by decide) ?_
    exact r_iret cx hw hr hlk hf dX6_man_26
  replace hf := h_neg hc2 hf
  refine lv_aload_n hx hb dX6_man_8 rfl (lv_at hl 0 rfl) ?_
  refine lv_iload_n hx hb dX6_man_9 rfl (lv_at hl 2 rfl) ?_
  refine r_V_i (As := [.int x2]) (rest := []) cx hw hf hM.2.1 (by rw [hM.1]; rfl) lk_X6_413 (fun q3 hq => k_X6_isPast l g hg  hM S x2 q3 hq) ⟨⟨rfl, rfl⟩, Nat.le_of_ble_eq_true rfl, Nat.le_of_ble_eq_true rfl⟩ rfl hl.1 rfl (Nat.le_of_ble_eq_true rfl) dX6_man_10 ⟨Nat.zero_le _, Nat.zero_le _⟩ (fun q3 H locs hw hf => ?_)
  refine lv_if_eq hx hb dX6_man_13 (tgt := 25) rfl (fun hc4 => ?_) (fun hc4 => ?_)
  · replace hf := h_pos hc4 hf
    refine lv_iconst (v := -1) hx hb dX6_man_25 (by decide) ?_
    exact r_iret cx hw hr hlk hf dX6_man_26
  replace hf := h_neg hc4 hf
  refine lv_iload_n hx hb dX6_man_16 rfl (lv_at hl 3 rfl) ?_
  refine lv_iconst (v := 0) hx hb dX6_man_17 (by decide) ?_
  refine lv_iconst (v := 1) hx hb dX6_man_18 (by decide) ?_
  refine r_S_i (As := [.int x3, .int (0 : Int32), .int (1 : Int32)]) (rest := []) cx hw hf lk_X6_341 (fun q5 hq => k_X6_in l g hg   S x3 (0 : Int32) (1 : Int32) q5 hq) ⟨⟨rfl, rfl⟩, Nat.le_of_ble_eq_true rfl, Nat.le_of_ble_eq_true rfl⟩ rfl hl.1 rfl (Nat.le_of_ble_eq_true rfl) dX6_man_19 ⟨Nat.zero_le _, Nat.zero_le _⟩ (fun q5 H locs hw hf => ?_)
  refine lv_if_ne hx hb dX6_man_22 (tgt := 27) rfl (fun hc6 => ?_) (fun hc6 => ?_)
  · replace hf := h_neg hc6 hf
    refine lv_aload_n hx hb dX6_man_27 rfl (lv_at hl 0 rfl) ?_
    refine gf_X6_122 cx hw hM dX6_man_28 ?_
    refine lv_bipush (v := 36) hx hb dX6_man_31 (by decide) ?_
    refine lv_iload_n hx hb dX6_man_33 rfl (lv_at hl 2 rfl) ?_
    refine lv_imul hx hb dX6_man_34 ?_
    refine lv_bipush (v := 6) hx hb dX6_man_35 (by decide) ?_
    refine lv_iload_n hx hb dX6_man_37 rfl (lv_at hl 3 rfl) ?_
    refine lv_imul hx hb dX6_man_38 ?_
    refine lv_iadd hx hb dX6_man_39 ?_
    refine lv_iload_n hx hb dX6_man_40 rfl (lv_at hl 1 rfl) ?_
    refine lv_iadd hx hb dX6_man_41 ?_
    refine r_iald cx hw (hM.2.2.1 52 rfl) rfl rfl hf dX6_man_42 (fun hf => ?_)
    exact r_iret cx hw hr hlk hf dX6_man_43
  replace hf := h_pos hc6 hf
  refine lv_iconst (v := -1) hx hb dX6_man_25 (by decide) ?_
  exact r_iret cx hw hr hlk hf dX6_man_26
theorem dX6_mirror_0 : decode cX6_mirror 0 = .ok (.aload_n 0, 1) := by decide +kernel
theorem dX6_mirror_1 : decode cX6_mirror 1 = .ok (.iload_n 1, 1) := by decide +kernel
theorem dX6_mirror_2 : decode cX6_mirror 2 = .ok (.invokevirtual 416, 3) := by decide +kernel
theorem dX6_mirror_5 : decode cX6_mirror 5 = .ok (.ifCond .eq 11, 3) := by decide +kernel
theorem dX6_mirror_8 : decode cX6_mirror 8 = .ok (.aload_n 0, 1) := by decide +kernel
theorem dX6_mirror_9 : decode cX6_mirror 9 = .ok (.iload_n 2, 1) := by decide +kernel
theorem dX6_mirror_10 : decode cX6_mirror 10 = .ok (.invokevirtual 413, 3) := by decide +kernel
theorem dX6_mirror_13 : decode cX6_mirror 13 = .ok (.ifCond .ne 5, 3) := by decide +kernel
theorem dX6_mirror_16 : decode cX6_mirror 16 = .ok (.iconst (-1), 1) := by decide +kernel
theorem dX6_mirror_17 : decode cX6_mirror 17 = .ok (.ireturn, 1) := by decide +kernel
theorem dX6_mirror_18 : decode cX6_mirror 18 = .ok (.aload_n 0, 1) := by decide +kernel
theorem dX6_mirror_19 : decode cX6_mirror 19 = .ok (.invokevirtual 419, 3) := by decide +kernel
theorem dX6_mirror_22 : decode cX6_mirror 22 = .ok (.aload_n 0, 1) := by decide +kernel
theorem dX6_mirror_23 : decode cX6_mirror 23 = .ok (.iload_n 1, 1) := by decide +kernel
theorem dX6_mirror_24 : decode cX6_mirror 24 = .ok (.iload_n 2, 1) := by decide +kernel
theorem dX6_mirror_25 : decode cX6_mirror 25 = .ok (.invokevirtual 395, 3) := by decide +kernel
theorem dX6_mirror_28 : decode cX6_mirror 28 = .ok (.istore 4, 2) := by decide +kernel
theorem dX6_mirror_30 : decode cX6_mirror 30 = .ok (.iload_n 3, 1) := by decide +kernel
theorem dX6_mirror_31 : decode cX6_mirror 31 = .ok (.tableswitch 133 0 6 #[41, 48, 63, 78, 104, 107, 125], 41) := by decide +kernel
theorem dX6_mirror_72 : decode cX6_mirror 72 = .ok (.aload_n 0, 1) := by decide +kernel
theorem dX6_mirror_73 : decode cX6_mirror 73 = .ok (.iload_n 1, 1) := by decide +kernel
theorem dX6_mirror_74 : decode cX6_mirror 74 = .ok (.iload_n 2, 1) := by decide +kernel
theorem dX6_mirror_75 : decode cX6_mirror 75 = .ok (.invokevirtual 392, 3) := by decide +kernel
theorem dX6_mirror_78 : decode cX6_mirror 78 = .ok (.ireturn, 1) := by decide +kernel
theorem dX6_mirror_79 : decode cX6_mirror 79 = .ok (.aload_n 0, 1) := by decide +kernel
theorem dX6_mirror_80 : decode cX6_mirror 80 = .ok (.getfield 131, 3) := by decide +kernel
theorem dX6_mirror_83 : decode cX6_mirror 83 = .ok (.bipush 36, 2) := by decide +kernel
theorem dX6_mirror_85 : decode cX6_mirror 85 = .ok (.iload_n 2, 1) := by decide +kernel
theorem dX6_mirror_86 : decode cX6_mirror 86 = .ok (.imul, 1) := by decide +kernel
theorem dX6_mirror_87 : decode cX6_mirror 87 = .ok (.bipush 28, 2) := by decide +kernel
theorem dX6_mirror_89 : decode cX6_mirror 89 = .ok (.iadd, 1) := by decide +kernel
theorem dX6_mirror_90 : decode cX6_mirror 90 = .ok (.iload_n 1, 1) := by decide +kernel
theorem dX6_mirror_91 : decode cX6_mirror 91 = .ok (.iadd, 1) := by decide +kernel
theorem dX6_mirror_92 : decode cX6_mirror 92 = .ok (.iaload, 1) := by decide +kernel
theorem dX6_mirror_93 : decode cX6_mirror 93 = .ok (.ireturn, 1) := by decide +kernel
theorem dX6_mirror_94 : decode cX6_mirror 94 = .ok (.aload_n 0, 1) := by decide +kernel
theorem dX6_mirror_95 : decode cX6_mirror 95 = .ok (.iload_n 1, 1) := by decide +kernel
theorem dX6_mirror_96 : decode cX6_mirror 96 = .ok (.iload_n 2, 1) := by decide +kernel
theorem dX6_mirror_97 : decode cX6_mirror 97 = .ok (.invokevirtual 388, 3) := by decide +kernel
theorem dX6_mirror_100 : decode cX6_mirror 100 = .ok (.ifCond .eq 7, 3) := by decide +kernel
theorem dX6_mirror_103 : decode cX6_mirror 103 = .ok (.iconst 1, 1) := by decide +kernel
theorem dX6_mirror_104 : decode cX6_mirror 104 = .ok (.goto 4, 3) := by decide +kernel
theorem dX6_mirror_107 : decode cX6_mirror 107 = .ok (.iconst 0, 1) := by decide +kernel
theorem dX6_mirror_108 : decode cX6_mirror 108 = .ok (.ireturn, 1) := by decide +kernel
theorem dX6_mirror_109 : decode cX6_mirror 109 = .ok (.aload_n 0, 1) := by decide +kernel
theorem dX6_mirror_110 : decode cX6_mirror 110 = .ok (.getfield 134, 3) := by decide +kernel
theorem dX6_mirror_113 : decode cX6_mirror 113 = .ok (.iload_n 1, 1) := by decide +kernel
theorem dX6_mirror_114 : decode cX6_mirror 114 = .ok (.iaload, 1) := by decide +kernel
theorem dX6_mirror_115 : decode cX6_mirror 115 = .ok (.iconst (-1), 1) := by decide +kernel
theorem dX6_mirror_116 : decode cX6_mirror 116 = .ok (.if_icmp .eq 17, 3) := by decide +kernel
theorem dX6_mirror_119 : decode cX6_mirror 119 = .ok (.aload_n 0, 1) := by decide +kernel
theorem dX6_mirror_120 : decode cX6_mirror 120 = .ok (.getfield 134, 3) := by decide +kernel
theorem dX6_mirror_123 : decode cX6_mirror 123 = .ok (.iload_n 1, 1) := by decide +kernel
theorem dX6_mirror_124 : decode cX6_mirror 124 = .ok (.iaload, 1) := by decide +kernel
theorem dX6_mirror_125 : decode cX6_mirror 125 = .ok (.iload_n 2, 1) := by decide +kernel
theorem dX6_mirror_126 : decode cX6_mirror 126 = .ok (.if_icmp .gt 7, 3) := by decide +kernel
theorem dX6_mirror_129 : decode cX6_mirror 129 = .ok (.iconst 1, 1) := by decide +kernel
theorem dX6_mirror_130 : decode cX6_mirror 130 = .ok (.goto 4, 3) := by decide +kernel
theorem dX6_mirror_133 : decode cX6_mirror 133 = .ok (.iconst 0, 1) := by decide +kernel
theorem dX6_mirror_134 : decode cX6_mirror 134 = .ok (.ireturn, 1) := by decide +kernel
theorem dX6_mirror_135 : decode cX6_mirror 135 = .ok (.iload 4, 2) := by decide +kernel
theorem dX6_mirror_137 : decode cX6_mirror 137 = .ok (.ireturn, 1) := by decide +kernel
theorem dX6_mirror_138 : decode cX6_mirror 138 = .ok (.iload 4, 2) := by decide +kernel
theorem dX6_mirror_140 : decode cX6_mirror 140 = .ok (.ifCond .ge 8, 3) := by decide +kernel
theorem dX6_mirror_143 : decode cX6_mirror 143 = .ok (.bipush (-2), 2) := by decide +kernel
theorem dX6_mirror_145 : decode cX6_mirror 145 = .ok (.goto 10, 3) := by decide +kernel
theorem dX6_mirror_148 : decode cX6_mirror 148 = .ok (.aload_n 0, 1) := by decide +kernel
theorem dX6_mirror_149 : decode cX6_mirror 149 = .ok (.iload_n 1, 1) := by decide +kernel
theorem dX6_mirror_150 : decode cX6_mirror 150 = .ok (.iload 4, 2) := by decide +kernel
theorem dX6_mirror_152 : decode cX6_mirror 152 = .ok (.invokevirtual 392, 3) := by decide +kernel
theorem dX6_mirror_155 : decode cX6_mirror 155 = .ok (.ireturn, 1) := by decide +kernel
theorem dX6_mirror_156 : decode cX6_mirror 156 = .ok (.aload_n 0, 1) := by decide +kernel
theorem dX6_mirror_157 : decode cX6_mirror 157 = .ok (.iload_n 1, 1) := by decide +kernel
theorem dX6_mirror_158 : decode cX6_mirror 158 = .ok (.iload 4, 2) := by decide +kernel
theorem dX6_mirror_160 : decode cX6_mirror 160 = .ok (.invokevirtual 422, 3) := by decide +kernel
theorem dX6_mirror_163 : decode cX6_mirror 163 = .ok (.ireturn, 1) := by decide +kernel
theorem dX6_mirror_164 : decode cX6_mirror 164 = .ok (.iconst (-1), 1) := by decide +kernel
theorem dX6_mirror_165 : decode cX6_mirror 165 = .ok (.ireturn, 1) := by decide +kernel
abbrev rm_X6_mirror : Room := { frames := 2, cells := 0, slots := 0, locals := 46 }
def f_X6_mirror (S : St) (x1 : Int32) (x2 : Int32) (x3 : Int32) : Option (Int32 × St) :=
  (f_X6_isMirror  S x1).bind (fun (q1 : Int32) => if q1 = 0 then (some ((-1 : Int32), S)) else ((f_X6_isPast  S x2).bind (fun (q3 : Int32) => if q3 = 0 then (some ((-1 : Int32), S)) else ((f_X6_copies  S ).bind (fun (q5 : St) => (f_X6_showsAt  q5 x1 x2).bind (fun (q6 : Int32) => if x3 = 0 then ((f_X6_hungIn  q5 x1 x2).bind (fun (q8 : Int32) => some (q8, q5))) else (if x3 = 1 then (chk (ib ((((36 : Int32) * x2) + (28 : Int32)) + x1) 10800) (some ((st_A q5 (ky 0 56) ((((36 : Int32) * x2) + (28 : Int32)) + x1).toNatClampNeg), q5))) else (if x3 = 2 then ((f_X6_isTurned  q5 x1 x2).bind (fun (q9 : Int32) => if q9 = 0 then (some ((0 : Int32), q5)) else (some ((1 : Int32), q5)))) else (if x3 = 3 then (chk (ib x1 8) (if (st_A q5 (ky 0 58) x1.toNatClampNeg) = (-1 : Int32) then (some ((0 : Int32), q5)) else (chk (ib x1 8) (if x2 < (st_A q5 (ky 0 58) x1.toNatClampNeg) then (some ((0 : Int32), q5)) else (some ((1 : Int32), q5)))))) else (if x3 = 4 then (some (q6, q5)) else (if x3 = 5 then (if 0 ≤ q6 then ((f_X6_hungIn  q5 x1 q6).bind (fun (q14 : Int32) => some (q14, q5))) else (some ((-2 : Int32), q5))) else (if x3 = 6 then ((f_X6_menShown  q5 x1 q6).bind (fun (q15 : Int32) => some (q15, q5))) else (some ((-1 : Int32), q5))))))))))))))
set_option maxRecDepth 100000 in
set_option maxHeartbeats 4000000 in
theorem k_X6_mirror (l : Launch) (g : GG) (hg : gd wd_M g)  (hM : hs wd_M g 0 6) (S : St) (x1 : Int32) (x2 : Int32) (x3 : Int32) (q : Int32 × St) (hf : f_X6_mirror  S x1 x2 x3 = some q) : Met l yX6_mirror (Cond.code yX6_mirror cX6_mirror 5 (some .int) :: gw_tbl) rm_X6_mirror (va_Pc [.ref (gg_o g 0), .int x1, .int x2, .int x3] (wI wd_M g S)) (qc_w wd_M g q) 0 0 (aw g) := by
  refine mt_start (own := RX6) hg (by decide) rfl (Nat.le_of_ble_eq_true rfl) (fun p e s m args below meth c ls H locs cx hw hr hlk hl => ?_)
  have hx := cx.1
  have hb := cx.2.1
  have hown := cx.2.2.2.1
  have hts := cx.2.2.2.2.1
  have hl : lv_has ls 5 [(0, .ref (gg_o g 0)), (1, .int x1), (2, .int x2), (3, .int x3)] := hl
  replace hf := h_top hf
  unfold f_X6_mirror at hf
  refine lv_aload_n hx hb dX6_mirror_0 rfl (lv_at hl 0 rfl) ?_
  refine lv_iload_n hx hb dX6_mirror_1 rfl (lv_at hl 1 rfl) ?_
  refine r_V_i (As := [.int x1]) (rest := []) cx hw hf hM.2.1 (by rw [hM.1]; rfl) lk_X6_416 (fun q1 hq => k_X6_isMirror l g hg  hM S x1 q1 hq) ⟨⟨rfl, rfl⟩, Nat.le_of_ble_eq_true rfl, Nat.le_of_ble_eq_true rfl⟩ rfl hl.1 rfl (Nat.le_of_ble_eq_true rfl) dX6_mirror_2 ⟨Nat.zero_le _, Nat.zero_le _⟩ (fun q1 H locs hw hf => ?_)
  refine lv_if_eq hx hb dX6_mirror_5 (tgt := 16) rfl (fun hc2 => ?_) (fun hc2 => ?_)
  · replace hf := h_pos hc2 hf
    refine lv_iconst (v := -1) hx hb dX6_mirror_16 (by decide) ?_
    exact r_iretw cx hw hr hlk hf dX6_mirror_17
  replace hf := h_neg hc2 hf
  refine lv_aload_n hx hb dX6_mirror_8 rfl (lv_at hl 0 rfl) ?_
  refine lv_iload_n hx hb dX6_mirror_9 rfl (lv_at hl 2 rfl) ?_
  refine r_V_i (As := [.int x2]) (rest := []) cx hw hf hM.2.1 (by rw [hM.1]; rfl) lk_X6_413 (fun q3 hq => k_X6_isPast l g hg  hM S x2 q3 hq) ⟨⟨rfl, rfl⟩, Nat.le_of_ble_eq_true rfl, Nat.le_of_ble_eq_true rfl⟩ rfl hl.1 rfl (Nat.le_of_ble_eq_true rfl) dX6_mirror_10 ⟨Nat.zero_le _, Nat.zero_le _⟩ (fun q3 H locs hw hf => ?_)
  refine lv_if_ne hx hb dX6_mirror_13 (tgt := 18) rfl (fun hc4 => ?_) (fun hc4 => ?_)
  · replace hf := h_neg hc4 hf
    refine lv_aload_n hx hb dX6_mirror_18 rfl (lv_at hl 0 rfl) ?_
    refine r_V_v (As := []) (rest := []) cx hw hf hM.2.1 (by rw [hM.1]; rfl) lk_X6_419 (fun q5 hq => k_X6_copies l g hg  hM S  q5 hq) ⟨⟨rfl, rfl⟩, Nat.le_of_ble_eq_true rfl, Nat.le_of_ble_eq_true rfl⟩ rfl hl.1 rfl (Nat.le_of_ble_eq_true rfl) dX6_mirror_19 ⟨Nat.zero_le _, Nat.zero_le _⟩ (fun q5 H locs hw hf => ?_)
    refine lv_aload_n hx hb dX6_mirror_22 rfl (lv_at hl 0 rfl) ?_
    refine lv_iload_n hx hb dX6_mirror_23 rfl (lv_at hl 1 rfl) ?_
    refine lv_iload_n hx hb dX6_mirror_24 rfl (lv_at hl 2 rfl) ?_
    refine r_V_i (As := [.int x1, .int x2]) (rest := []) cx hw hf hM.2.1 (by rw [hM.1]; rfl) lk_X6_395 (fun q6 hq => k_X6_showsAt l g hg  hM q5 x1 x2 q6 hq) ⟨⟨rfl, rfl⟩, Nat.le_of_ble_eq_true rfl, Nat.le_of_ble_eq_true rfl⟩ rfl hl.1 rfl (Nat.le_of_ble_eq_true rfl) dX6_mirror_25 ⟨Nat.zero_le _, Nat.zero_le _⟩ (fun q6 H locs hw hf => ?_)
    refine lv_istore hx hb dX6_mirror_28 hl (by decide) (lv' := [(4, .int q6), (0, .ref (gg_o g 0)), (1, .int x1), (2, .int x2), (3, .int x3)]) rfl (fun ls hl => ?_)
    refine lv_iload_n hx hb dX6_mirror_30 rfl (lv_at hl 4 rfl) ?_
    by_cases hc7_0 : x3 = 0
    · replace hf := h_pos hc7_0 hf
      refine lv_tableIn hx hb dX6_mirror_31 (by rw [hc7_0]; decide) (by rw [hc7_0]; decide) (off := 41) (by rw [hc7_0]; rfl) (tgt := 72) rfl ?_
      refine lv_aload_n hx hb dX6_mirror_72 rfl (lv_at hl 1 rfl) ?_
      refine lv_iload_n hx hb dX6_mirror_73 rfl (lv_at hl 2 rfl) ?_
      refine lv_iload_n hx hb dX6_mirror_74 rfl (lv_at hl 3 rfl) ?_
      refine r_V_i (As := [.int x1, .int x2]) (rest := []) cx hw hf hM.2.1 (by rw [hM.1]; rfl) lk_X6_392 (fun q8 hq => k_X6_hungIn l g hg  hM q5 x1 x2 q8 hq) ⟨⟨rfl, rfl⟩, Nat.le_of_ble_eq_true rfl, Nat.le_of_ble_eq_true rfl⟩ rfl hl.1 rfl (Nat.le_of_ble_eq_true rfl) dX6_mirror_75 ⟨Nat.zero_le _, Nat.zero_le _⟩ (fun q8 H locs hw hf => ?_)
      exact r_iretw cx hw hr hlk hf dX6_mirror_78
    replace hf := h_neg hc7_0 hf
    by_cases hc7_1 : x3 = 1
    · replace hf := h_pos hc7_1 hf
      refine lv_tableIn hx hb dX6_mirror_31 (by rw [hc7_1]; decide) (by rw [hc7_1]; decide) (off := 48) (by rw [hc7_1]; rfl) (tgt := 79) rfl ?_
      refine lv_aload_n hx hb dX6_mirror_79 rfl (lv_at hl 1 rfl) ?_
      refine gf_X6_131 cx hw hM dX6_mirror_80 ?_
      refine lv_bipush (v := 36) hx hb dX6_mirror_83 (by decide) ?_
      refine lv_iload_n hx hb dX6_mirror_85 rfl (lv_at hl 3 rfl) ?_
      refine lv_imul hx hb dX6_mirror_86 ?_
      refine lv_bipush (v := 28) hx hb dX6_mirror_87 (by decide) ?_
      refine lv_iadd hx hb dX6_mirror_89 ?_
      refine lv_iload_n hx hb dX6_mirror_90 rfl (lv_at hl 2 rfl) ?_
      refine lv_iadd hx hb dX6_mirror_91 ?_
      refine r_iald cx hw (hM.2.2.1 56 rfl) rfl rfl hf dX6_mirror_92 (fun hf => ?_)
      exact r_iretw cx hw hr hlk hf dX6_mirror_93
    replace hf := h_neg hc7_1 hf
    by_cases hc7_2 : x3 = 2
    · replace hf := h_pos hc7_2 hf
      refine lv_tableIn hx hb dX6_mirror_31 (by rw [hc7_2]; decide) (by rw [hc7_2]; decide) (off := 63) (by rw [hc7_2]; rfl) (tgt := 94) rfl ?_
      refine lv_aload_n hx hb dX6_mirror_94 rfl (lv_at hl 1 rfl) ?_
      refine lv_iload_n hx hb dX6_mirror_95 rfl (lv_at hl 2 rfl) ?_
      refine lv_iload_n hx hb dX6_mirror_96 rfl (lv_at hl 3 rfl) ?_
      refine r_V_i (As := [.int x1, .int x2]) (rest := []) cx hw hf hM.2.1 (by rw [hM.1]; rfl) lk_X6_388 (fun q9 hq => k_X6_isTurned l g hg  hM q5 x1 x2 q9 hq) ⟨⟨rfl, rfl⟩, Nat.le_of_ble_eq_true rfl, Nat.le_of_ble_eq_true rfl⟩ rfl hl.1 rfl (Nat.le_of_ble_eq_true rfl) dX6_mirror_97 ⟨Nat.zero_le _, Nat.zero_le _⟩ (fun q9 H locs hw hf => ?_)
      refine lv_if_eq hx hb dX6_mirror_100 (tgt := 107) rfl (fun hc10 => ?_) (fun hc10 => ?_)
      · replace hf := h_pos hc10 hf
        refine lv_iconst (v := 0) hx hb dX6_mirror_107 (by decide) ?_
        exact r_iretw cx hw hr hlk hf dX6_mirror_108
      replace hf := h_neg hc10 hf
      refine lv_iconst (v := 1) hx hb dX6_mirror_103 (by decide) ?_
      refine lv_goto hx hb dX6_mirror_104 (tgt := 108) rfl ?_
      exact r_iretw cx hw hr hlk hf dX6_mirror_108
    replace hf := h_neg hc7_2 hf
    by_cases hc7_3 : x3 = 3
    · replace hf := h_pos hc7_3 hf
      refine lv_tableIn hx hb dX6_mirror_31 (by rw [hc7_3]; decide) (by rw [hc7_3]; decide) (off := 78) (by rw [hc7_3]; rfl) (tgt := 109) rfl ?_
      refine lv_aload_n hx hb dX6_mirror_109 rfl (lv_at hl 1 rfl) ?_
      refine gf_X6_134 cx hw hM dX6_mirror_110 ?_
      refine lv_iload_n hx hb dX6_mirror_113 rfl (lv_at hl 2 rfl) ?_
      refine r_iald cx hw (hM.2.2.1 58 rfl) rfl rfl hf dX6_mirror_114 (fun hf => ?_)
      refine lv_iconst (v := -1) hx hb dX6_mirror_115 (by decide) ?_
      refine lv_icmp_eq hx hb dX6_mirror_116 (tgt := 133) rfl (fun hc11 => ?_) (fun hc11 => ?_)
      · replace hf := h_pos hc11 hf
        refine lv_iconst (v := 0) hx hb dX6_mirror_133 (by decide) ?_
        exact r_iretw cx hw hr hlk hf dX6_mirror_134
      replace hf := h_neg hc11 hf
      refine lv_aload_n hx hb dX6_mirror_119 rfl (lv_at hl 1 rfl) ?_
      refine gf_X6_134 cx hw hM dX6_mirror_120 ?_
      refine lv_iload_n hx hb dX6_mirror_123 rfl (lv_at hl 2 rfl) ?_
      refine r_iald cx hw (hM.2.2.1 58 rfl) rfl rfl hf dX6_mirror_124 (fun hf => ?_)
      refine lv_iload_n hx hb dX6_mirror_125 rfl (lv_at hl 3 rfl) ?_
      refine lv_icmp_gt hx hb dX6_mirror_126 (tgt := 133) rfl (fun hc12 => ?_) (fun hc12 => ?_)
      · replace hf := h_pos hc12 hf
        refine lv_iconst (v := 0) hx hb dX6_mirror_133 (by decide) ?_
        exact r_iretw cx hw hr hlk hf dX6_mirror_134
      replace hf := h_neg hc12 hf
      refine lv_iconst (v := 1) hx hb dX6_mirror_129 (by decide) ?_
      refine lv_goto hx hb dX6_mirror_130 (tgt := 134) rfl ?_
      exact r_iretw cx hw hr hlk hf dX6_mirror_134
    replace hf := h_neg hc7_3 hf
    by_cases hc7_4 : x3 = 4
    · replace hf := h_pos hc7_4 hf
      refine lv_tableIn hx hb dX6_mirror_31 (by rw [hc7_4]; decide) (by rw [hc7_4]; decide) (off := 104) (by rw [hc7_4]; rfl) (tgt := 135) rfl ?_
      refine lv_iload hx hb dX6_mirror_135 (lv_at hl 0 rfl) ?_
      exact r_iretw cx hw hr hlk hf dX6_mirror_137
    replace hf := h_neg hc7_4 hf
    by_cases hc7_5 : x3 = 5
    · replace hf := h_pos hc7_5 hf
      refine lv_tableIn hx hb dX6_mirror_31 (by rw [hc7_5]; decide) (by rw [hc7_5]; decide) (off := 107) (by rw [hc7_5]; rfl) (tgt := 138) rfl ?_
      refine lv_iload hx hb dX6_mirror_138 (lv_at hl 0 rfl) ?_
      refine lv_if_ge hx hb dX6_mirror_140 (tgt := 148) rfl (fun hc13 => ?_) (fun hc13 => ?_)
      · replace hf := h_pos hc13 hf
        refine lv_aload_n hx hb dX6_mirror_148 rfl (lv_at hl 1 rfl) ?_
        refine lv_iload_n hx hb dX6_mirror_149 rfl (lv_at hl 2 rfl) ?_
        refine lv_iload hx hb dX6_mirror_150 (lv_at hl 0 rfl) ?_
        refine r_V_i (As := [.int x1, .int q6]) (rest := []) cx hw hf hM.2.1 (by rw [hM.1]; rfl) lk_X6_392 (fun q14 hq => k_X6_hungIn l g hg  hM q5 x1 q6 q14 hq) ⟨⟨rfl, rfl⟩, Nat.le_of_ble_eq_true rfl, Nat.le_of_ble_eq_true rfl⟩ rfl hl.1 rfl (Nat.le_of_ble_eq_true rfl) dX6_mirror_152 ⟨Nat.zero_le _, Nat.zero_le _⟩ (fun q14 H locs hw hf => ?_)
        exact r_iretw cx hw hr hlk hf dX6_mirror_155
      replace hf := h_neg hc13 hf
      refine lv_bipush (v := -2) hx hb dX6_mirror_143 (by decide) ?_
      refine lv_goto hx hb dX6_mirror_145 (tgt := 155) rfl ?_
      exact r_iretw cx hw hr hlk hf dX6_mirror_155
    replace hf := h_neg hc7_5 hf
    by_cases hc7_6 : x3 = 6
    · replace hf := h_pos hc7_6 hf
      refine lv_tableIn hx hb dX6_mirror_31 (by rw [hc7_6]; decide) (by rw [hc7_6]; decide) (off := 125) (by rw [hc7_6]; rfl) (tgt := 156) rfl ?_
      refine lv_aload_n hx hb dX6_mirror_156 rfl (lv_at hl 1 rfl) ?_
      refine lv_iload_n hx hb dX6_mirror_157 rfl (lv_at hl 2 rfl) ?_
      refine lv_iload hx hb dX6_mirror_158 (lv_at hl 0 rfl) ?_
      refine r_V_i (As := [.int x1, .int q6]) (rest := []) cx hw hf hM.2.1 (by rw [hM.1]; rfl) lk_X6_422 (fun q15 hq => k_X6_menShown l g hg  hM q5 x1 q6 q15 hq) ⟨⟨rfl, rfl⟩, Nat.le_of_ble_eq_true rfl, Nat.le_of_ble_eq_true rfl⟩ rfl hl.1 rfl (Nat.le_of_ble_eq_true rfl) dX6_mirror_160 ⟨Nat.zero_le _, Nat.zero_le _⟩ (fun q15 H locs hw hf => ?_)
      exact r_iretw cx hw hr hlk hf dX6_mirror_163
    replace hf := h_neg hc7_6 hf
    have hD31 : W p l e rm_X6_mirror s m args below meth c H locs 0 0 (MQ below (qc_w wd_M g q) args s 0 0 (aw g)) (F0 m 164 ls []) := by
      refine lv_iconst (v := -1) hx hb dX6_mirror_164 (by decide) ?_
      exact r_iretw cx hw hr hlk hf dX6_mirror_165
    refine lv_tableOut hx hb dX6_mirror_31 (ts_out (lo := 0) (hi := 6) (by decide) (by decide) (fun i h1 h2 => ?_)) (tgt := 164) rfl hD31
    rcases (show i = 0 ∨ i = 1 ∨ i = 2 ∨ i = 3 ∨ i = 4 ∨ i = 5 ∨ i = 6 by omega) with rfl | rfl | rfl | rfl | rfl | rfl | rfl
    · exact hc7_0
    · exact hc7_1
    · exact hc7_2
    · exact hc7_3
    · exact hc7_4
    · exact hc7_5
    · exact hc7_6
  replace hf := h_pos hc4 hf
  refine lv_iconst (v := -1) hx hb dX6_mirror_16 (by decide) ?_
  exact r_iretw cx hw hr hlk hf dX6_mirror_17
theorem dX6_keeps_0 : decode cX6_keeps 0 = .ok (.aload_n 0, 1) := by decide +kernel
theorem dX6_keeps_1 : decode cX6_keeps 1 = .ok (.getfield 275, 3) := by decide +kernel
theorem dX6_keeps_4 : decode cX6_keeps 4 = .ok (.bipush 20, 2) := by decide +kernel
theorem dX6_keeps_6 : decode cX6_keeps 6 = .ok (.if_icmp .ne 43, 3) := by decide +kernel
theorem dX6_keeps_9 : decode cX6_keeps 9 = .ok (.iconst 0, 1) := by decide +kernel
theorem dX6_keeps_10 : decode cX6_keeps 10 = .ok (.istore_n 1, 1) := by decide +kernel
theorem dX6_keeps_11 : decode cX6_keeps 11 = .ok (.iload_n 1, 1) := by decide +kernel
theorem dX6_keeps_12 : decode cX6_keeps 12 = .ok (.sipush 1007, 3) := by decide +kernel
theorem dX6_keeps_15 : decode cX6_keeps 15 = .ok (.if_icmp .ge 24, 3) := by decide +kernel
theorem dX6_keeps_18 : decode cX6_keeps 18 = .ok (.aload_n 0, 1) := by decide +kernel
theorem dX6_keeps_19 : decode cX6_keeps 19 = .ok (.getfield 140, 3) := by decide +kernel
theorem dX6_keeps_22 : decode cX6_keeps 22 = .ok (.iload_n 1, 1) := by decide +kernel
theorem dX6_keeps_23 : decode cX6_keeps 23 = .ok (.aload_n 0, 1) := by decide +kernel
theorem dX6_keeps_24 : decode cX6_keeps 24 = .ok (.getfield 140, 3) := by decide +kernel
theorem dX6_keeps_27 : decode cX6_keeps 27 = .ok (.iload_n 1, 1) := by decide +kernel
theorem dX6_keeps_28 : decode cX6_keeps 28 = .ok (.bipush 53, 2) := by decide +kernel
theorem dX6_keeps_30 : decode cX6_keeps 30 = .ok (.iadd, 1) := by decide +kernel
theorem dX6_keeps_31 : decode cX6_keeps 31 = .ok (.iaload, 1) := by decide +kernel
theorem dX6_keeps_32 : decode cX6_keeps 32 = .ok (.iastore, 1) := by decide +kernel
theorem dX6_keeps_33 : decode cX6_keeps 33 = .ok (.iinc 1 1, 3) := by decide +kernel
theorem dX6_keeps_36 : decode cX6_keeps 36 = .ok (.goto (-25), 3) := by decide +kernel
theorem dX6_keeps_39 : decode cX6_keeps 39 = .ok (.aload_n 0, 1) := by decide +kernel
theorem dX6_keeps_40 : decode cX6_keeps 40 = .ok (.dup, 1) := by decide +kernel
theorem dX6_keeps_41 : decode cX6_keeps 41 = .ok (.getfield 275, 3) := by decide +kernel
theorem dX6_keeps_44 : decode cX6_keeps 44 = .ok (.iconst 1, 1) := by decide +kernel
theorem dX6_keeps_45 : decode cX6_keeps 45 = .ok (.isub, 1) := by decide +kernel
theorem dX6_keeps_46 : decode cX6_keeps 46 = .ok (.putfield 275, 3) := by decide +kernel
theorem dX6_keeps_49 : decode cX6_keeps 49 = .ok (.bipush 53, 2) := by decide +kernel
theorem dX6_keeps_51 : decode cX6_keeps 51 = .ok (.aload_n 0, 1) := by decide +kernel
theorem dX6_keeps_52 : decode cX6_keeps 52 = .ok (.getfield 275, 3) := by decide +kernel
theorem dX6_keeps_55 : decode cX6_keeps 55 = .ok (.imul, 1) := by decide +kernel
theorem dX6_keeps_56 : decode cX6_keeps 56 = .ok (.istore_n 1, 1) := by decide +kernel
theorem dX6_keeps_57 : decode cX6_keeps 57 = .ok (.aload_n 0, 1) := by decide +kernel
theorem dX6_keeps_58 : decode cX6_keeps 58 = .ok (.getfield 140, 3) := by decide +kernel
theorem dX6_keeps_61 : decode cX6_keeps 61 = .ok (.iload_n 1, 1) := by decide +kernel
theorem dX6_keeps_62 : decode cX6_keeps 62 = .ok (.aload_n 0, 1) := by decide +kernel
theorem dX6_keeps_63 : decode cX6_keeps 63 = .ok (.getfield 345, 3) := by decide +kernel
theorem dX6_keeps_66 : decode cX6_keeps 66 = .ok (.iastore, 1) := by decide +kernel
theorem dX6_keeps_67 : decode cX6_keeps 67 = .ok (.iconst 0, 1) := by decide +kernel
theorem dX6_keeps_68 : decode cX6_keeps 68 = .ok (.istore_n 2, 1) := by decide +kernel
theorem dX6_keeps_69 : decode cX6_keeps 69 = .ok (.iload_n 2, 1) := by decide +kernel
theorem dX6_keeps_70 : decode cX6_keeps 70 = .ok (.bipush 36, 2) := by decide +kernel
theorem dX6_keeps_72 : decode cX6_keeps 72 = .ok (.if_icmp .ge 33, 3) := by decide +kernel
theorem dX6_keeps_75 : decode cX6_keeps 75 = .ok (.aload_n 0, 1) := by decide +kernel
theorem dX6_keeps_76 : decode cX6_keeps 76 = .ok (.getfield 140, 3) := by decide +kernel
theorem dX6_keeps_79 : decode cX6_keeps 79 = .ok (.iload_n 1, 1) := by decide +kernel
theorem dX6_keeps_80 : decode cX6_keeps 80 = .ok (.iconst 1, 1) := by decide +kernel
theorem dX6_keeps_81 : decode cX6_keeps 81 = .ok (.iadd, 1) := by decide +kernel
theorem dX6_keeps_82 : decode cX6_keeps 82 = .ok (.iload_n 2, 1) := by decide +kernel
theorem dX6_keeps_83 : decode cX6_keeps 83 = .ok (.iadd, 1) := by decide +kernel
theorem dX6_keeps_84 : decode cX6_keeps 84 = .ok (.aload_n 0, 1) := by decide +kernel
theorem dX6_keeps_85 : decode cX6_keeps 85 = .ok (.getfield 122, 3) := by decide +kernel
theorem dX6_keeps_88 : decode cX6_keeps 88 = .ok (.bipush 36, 2) := by decide +kernel
theorem dX6_keeps_90 : decode cX6_keeps 90 = .ok (.aload_n 0, 1) := by decide +kernel
theorem dX6_keeps_91 : decode cX6_keeps 91 = .ok (.getfield 345, 3) := by decide +kernel
theorem dX6_keeps_94 : decode cX6_keeps 94 = .ok (.imul, 1) := by decide +kernel
theorem dX6_keeps_95 : decode cX6_keeps 95 = .ok (.iload_n 2, 1) := by decide +kernel
theorem dX6_keeps_96 : decode cX6_keeps 96 = .ok (.iadd, 1) := by decide +kernel
theorem dX6_keeps_97 : decode cX6_keeps 97 = .ok (.iaload, 1) := by decide +kernel
theorem dX6_keeps_98 : decode cX6_keeps 98 = .ok (.iastore, 1) := by decide +kernel
theorem dX6_keeps_99 : decode cX6_keeps 99 = .ok (.iinc 2 1, 3) := by decide +kernel
theorem dX6_keeps_102 : decode cX6_keeps 102 = .ok (.goto (-33), 3) := by decide +kernel
theorem dX6_keeps_105 : decode cX6_keeps 105 = .ok (.iconst 0, 1) := by decide +kernel
theorem dX6_keeps_106 : decode cX6_keeps 106 = .ok (.istore_n 2, 1) := by decide +kernel
theorem dX6_keeps_107 : decode cX6_keeps 107 = .ok (.iload_n 2, 1) := by decide +kernel
theorem dX6_keeps_108 : decode cX6_keeps 108 = .ok (.bipush 8, 2) := by decide +kernel
theorem dX6_keeps_110 : decode cX6_keeps 110 = .ok (.if_icmp .ge 43, 3) := by decide +kernel
theorem dX6_keeps_113 : decode cX6_keeps 113 = .ok (.aload_n 0, 1) := by decide +kernel
theorem dX6_keeps_114 : decode cX6_keeps 114 = .ok (.getfield 140, 3) := by decide +kernel
theorem dX6_keeps_117 : decode cX6_keeps 117 = .ok (.iload_n 1, 1) := by decide +kernel
theorem dX6_keeps_118 : decode cX6_keeps 118 = .ok (.bipush 37, 2) := by decide +kernel
theorem dX6_keeps_120 : decode cX6_keeps 120 = .ok (.iadd, 1) := by decide +kernel
theorem dX6_keeps_121 : decode cX6_keeps 121 = .ok (.iload_n 2, 1) := by decide +kernel
theorem dX6_keeps_122 : decode cX6_keeps 122 = .ok (.iadd, 1) := by decide +kernel
theorem dX6_keeps_123 : decode cX6_keeps 123 = .ok (.aload_n 0, 1) := by decide +kernel
theorem dX6_keeps_124 : decode cX6_keeps 124 = .ok (.getfield 125, 3) := by decide +kernel
theorem dX6_keeps_127 : decode cX6_keeps 127 = .ok (.iload_n 2, 1) := by decide +kernel
theorem dX6_keeps_128 : decode cX6_keeps 128 = .ok (.iaload, 1) := by decide +kernel
theorem dX6_keeps_129 : decode cX6_keeps 129 = .ok (.iastore, 1) := by decide +kernel
theorem dX6_keeps_130 : decode cX6_keeps 130 = .ok (.aload_n 0, 1) := by decide +kernel
theorem dX6_keeps_131 : decode cX6_keeps 131 = .ok (.getfield 140, 3) := by decide +kernel
theorem dX6_keeps_134 : decode cX6_keeps 134 = .ok (.iload_n 1, 1) := by decide +kernel
theorem dX6_keeps_135 : decode cX6_keeps 135 = .ok (.bipush 45, 2) := by decide +kernel
theorem dX6_keeps_137 : decode cX6_keeps 137 = .ok (.iadd, 1) := by decide +kernel
theorem dX6_keeps_138 : decode cX6_keeps 138 = .ok (.iload_n 2, 1) := by decide +kernel
theorem dX6_keeps_139 : decode cX6_keeps 139 = .ok (.iadd, 1) := by decide +kernel
theorem dX6_keeps_140 : decode cX6_keeps 140 = .ok (.aload_n 0, 1) := by decide +kernel
theorem dX6_keeps_141 : decode cX6_keeps 141 = .ok (.getfield 128, 3) := by decide +kernel
theorem dX6_keeps_144 : decode cX6_keeps 144 = .ok (.iload_n 2, 1) := by decide +kernel
theorem dX6_keeps_145 : decode cX6_keeps 145 = .ok (.iaload, 1) := by decide +kernel
theorem dX6_keeps_146 : decode cX6_keeps 146 = .ok (.iastore, 1) := by decide +kernel
theorem dX6_keeps_147 : decode cX6_keeps 147 = .ok (.iinc 2 1, 3) := by decide +kernel
theorem dX6_keeps_150 : decode cX6_keeps 150 = .ok (.goto (-43), 3) := by decide +kernel
theorem dX6_keeps_153 : decode cX6_keeps 153 = .ok (.aload_n 0, 1) := by decide +kernel
theorem dX6_keeps_154 : decode cX6_keeps 154 = .ok (.dup, 1) := by decide +kernel
theorem dX6_keeps_155 : decode cX6_keeps 155 = .ok (.getfield 275, 3) := by decide +kernel
theorem dX6_keeps_158 : decode cX6_keeps 158 = .ok (.iconst 1, 1) := by decide +kernel
theorem dX6_keeps_159 : decode cX6_keeps 159 = .ok (.iadd, 1) := by decide +kernel
theorem dX6_keeps_160 : decode cX6_keeps 160 = .ok (.putfield 275, 3) := by decide +kernel
theorem dX6_keeps_163 : decode cX6_keeps 163 = .ok (.aload_n 0, 1) := by decide +kernel
theorem dX6_keeps_164 : decode cX6_keeps 164 = .ok (.aload_n 0, 1) := by decide +kernel
theorem dX6_keeps_165 : decode cX6_keeps 165 = .ok (.getfield 345, 3) := by decide +kernel
theorem dX6_keeps_168 : decode cX6_keeps 168 = .ok (.invokevirtual 187, 3) := by decide +kernel
theorem dX6_keeps_171 : decode cX6_keeps 171 = .ok (.return_, 1) := by decide +kernel
abbrev rm_X6_keeps : Room := { frames := 1, cells := 0, slots := 0, locals := 22 }
def f_X6_keeps_L69 (x1 : Int32) (z69 : Int32 × St) : Option ((Int32 × St) ⊕ (St)) :=
  if (36 : Int32) ≤ z69.1 then (some (.inr z69.2)) else (chk (ib (((36 : Int32) * (st_I z69.2 (ky 0 53))) + z69.1) 10800) (chk (ib ((x1 + (1 : Int32)) + z69.1) 1060) (lt_v (up_A z69.2 (ky 0 62) (upd (st_A z69.2 (ky 0 62)) ((x1 + (1 : Int32)) + z69.1).toNatClampNeg (st_A z69.2 (ky 0 52) (((36 : Int32) * (st_I z69.2 (ky 0 53))) + z69.1).toNatClampNeg))) (fun (S4 : St) => some (.inl ((z69.1 + 1), S4))))))
def f_X6_keeps_L107 (x1 : Int32) (z107 : Int32 × St) : Option ((Int32 × St) ⊕ (St)) :=
  if (8 : Int32) ≤ z107.1 then (some (.inr z107.2)) else (chk (ib z107.1 8) (chk (ib ((x1 + (37 : Int32)) + z107.1) 1060) (lt_v (up_A z107.2 (ky 0 62) (upd (st_A z107.2 (ky 0 62)) ((x1 + (37 : Int32)) + z107.1).toNatClampNeg (st_A z107.2 (ky 0 54) z107.1.toNatClampNeg))) (fun (S7 : St) => chk (ib z107.1 8) (chk (ib ((x1 + (45 : Int32)) + z107.1) 1060) (lt_v (up_A S7 (ky 0 62) (upd (st_A S7 (ky 0 62)) ((x1 + (45 : Int32)) + z107.1).toNatClampNeg (st_A S7 (ky 0 55) z107.1.toNatClampNeg))) (fun (S8 : St) => some (.inl ((z107.1 + 1), S8)))))))))
def f_X6_keeps_J49 (S : St)  : Option (St) :=
  chk (ib ((53 : Int32) * (st_I S (ky 0 61))) 1060) (lt_v (up_A S (ky 0 62) (upd (st_A S (ky 0 62)) ((53 : Int32) * (st_I S (ky 0 61))).toNatClampNeg (st_I S (ky 0 53)))) (fun (S2 : St) => (iter (f_X6_keeps_L69   ((53 : Int32) * (st_I S (ky 0 61)))) FU ((0 : Int32), S2)).bind (fun (S5 : St) => (iter (f_X6_keeps_L107   ((53 : Int32) * (st_I S (ky 0 61)))) FU ((0 : Int32), S5)).bind (fun (S9 : St) => lt_v (up_I S9 (ky 0 61) ((st_I S9 (ky 0 61)) + (1 : Int32))) (fun (S10 : St) => (f_X6_keepsRows  S10 (st_I S10 (ky 0 53))).bind (fun (q11 : St) => some q11))))))
def f_X6_keeps_L11  (z11 : Int32 × St) : Option ((Int32 × St) ⊕ (St)) :=
  if (1007 : Int32) ≤ z11.1 then (some (.inr z11.2)) else (chk (ib (z11.1 + (53 : Int32)) 1060) (chk (ib z11.1 1060) (lt_v (up_A z11.2 (ky 0 62) (upd (st_A z11.2 (ky 0 62)) z11.1.toNatClampNeg (st_A z11.2 (ky 0 62) (z11.1 + (53 : Int32)).toNatClampNeg))) (fun (S15 : St) => some (.inl ((z11.1 + 1), S15))))))
def f_X6_keeps (S : St)  : Option (St) :=
  if (st_I S (ky 0 61)) = (20 : Int32) then ((iter (f_X6_keeps_L11   ) FU ((0 : Int32), S)).bind (fun (S16 : St) => lt_v (up_I S16 (ky 0 61) ((st_I S16 (ky 0 61)) - (1 : Int32))) (fun (S17 : St) => f_X6_keeps_J49  S17 ))) else (f_X6_keeps_J49  S )
set_option maxRecDepth 100000 in
set_option maxHeartbeats 4000000 in
theorem k_X6_keeps (l : Launch) (g : GG) (hg : gd wd_M g)  (hM : hs wd_M g 0 6) (S : St)  (q : St) (hf : f_X6_keeps  S  = some q) : Met l yX6_keeps (Cond.code yX6_keeps cX6_keeps 3 none :: gw_tbl) rm_X6_keeps (va_Pc [.ref (gg_o g 0)] (wI wd_M g S)) (qc_v wd_M g q) 0 0 (aw g) := by
  refine mt_start (own := RX6) hg (by decide) rfl (Nat.le_of_ble_eq_true rfl) (fun p e s m args below meth c ls H locs cx hw hr hlk hl => ?_)
  have hx := cx.1
  have hb := cx.2.1
  have hown := cx.2.2.2.1
  have hts := cx.2.2.2.2.1
  have hl : lv_has ls 3 [(0, .ref (gg_o g 0))] := hl
  replace hf := h_top hf
  unfold f_X6_keeps at hf
  have J49 : ∀ (ls : Array Slot) (H : Heap) (locs : List Loc) (S : St) , lv_has ls 3 [(0, .ref (gg_o g 0))] → HH wd_M g s S H locs → (f_X6_keeps_J49  S ).bind some = some q → W p l e rm_X6_keeps s m args below meth c H locs 0 0 (MQ below (qc_v wd_M g q) args s 0 0 (aw g)) (F0 m 49 ls []) := by
    intro ls H locs S  hl hw hf
    unfold f_X6_keeps_J49 at hf
    refine lv_bipush (v := 53) hx hb dX6_keeps_49 (by decide) ?_
    refine lv_aload_n hx hb dX6_keeps_51 rfl (lv_at hl 0 rfl) ?_
    refine gf_X6_275 cx hw hM dX6_keeps_52 ?_
    refine lv_imul hx hb dX6_keeps_55 ?_
    refine lv_istore_n hx hb dX6_keeps_56 rfl hl (by decide) (lv' := [(1, .int ((53 : Int32) * (st_I S (ky 0 61)))), (0, .ref (gg_o g 0))]) rfl (fun ls hl => ?_)
    refine lv_aload_n hx hb dX6_keeps_57 rfl (lv_at hl 1 rfl) ?_
    refine gf_X6_140 cx hw hM dX6_keeps_58 ?_
    refine lv_iload_n hx hb dX6_keeps_61 rfl (lv_at hl 0 rfl) ?_
    refine lv_aload_n hx hb dX6_keeps_62 rfl (lv_at hl 1 rfl) ?_
    refine gf_X6_345 cx hw hM dX6_keeps_63 ?_
    refine r_iast cx hw (hM.2.2.1 62 rfl) rfl rfl hf dX6_keeps_66 (fun S2 H locs hw hf => ?_)
    refine lv_iconst (v := 0) hx hb dX6_keeps_67 (by decide) ?_
    refine lv_istore_n hx hb dX6_keeps_68 rfl hl (by decide) (lv' := [(2, .int (0 : Int32)), (1, .int ((53 : Int32) * (st_I S (ky 0 61)))), (0, .ref (gg_o g 0))]) rfl (fun ls hl => ?_)
    have L69 : ∀ (x1 : Int32) (aft69 : St → Option (St)), (∀ (ls : Array Slot) (H : Heap) (locs : List Loc) (S1 : St), lv_has ls 3 [(0, .ref (gg_o g 0)), (1, .int x1)] → HH wd_M g s S1 H locs → aft69 S1 = some q → W p l e rm_X6_keeps s m args below meth c H locs 0 0 (MQ below (qc_v wd_M g q) args s 0 0 (aw g)) (F0 m 105 ls [])) → ∀ (n69 : Nat) (ls : Array Slot) (H : Heap) (locs : List Loc) (z69 : Int32 × St), lv_has ls 3 [(0, .ref (gg_o g 0)), (1, .int x1), (2, .int z69.1)] → HH wd_M g s z69.2 H locs → (iter (f_X6_keeps_L69   x1) n69 z69).bind aft69 = some q → W p l e rm_X6_keeps s m args below meth c H locs 0 0 (MQ below (qc_v wd_M g q) args s 0 0 (aw g)) (F0 m 69 ls []) := by
      intro x1 aft69 hX69 n69
      induction n69 with
      | zero => intro ls H locs z69 hl hw hf; exact h_iter0 hf
      | succ n69 ih69 =>
        intro ls H locs z69 hl hw hf
        replace hf := h_iter hf
        unfold f_X6_keeps_L69 at hf
        refine lv_iload_n hx hb dX6_keeps_69 rfl (lv_at hl 2 rfl) ?_
        refine lv_bipush (v := 36) hx hb dX6_keeps_70 (by decide) ?_
        refine lv_icmp_ge hx hb dX6_keeps_72 (tgt := 105) rfl (fun hc3 => ?_) (fun hc3 => ?_)
        · replace hf := h_pos hc3 hf
          exact hX69 _ _ _ z69.2 (lv_sub hl [0, 1] rfl) hw hf
        replace hf := h_neg hc3 hf
        refine lv_aload_n hx hb dX6_keeps_75 rfl (lv_at hl 0 rfl) ?_
        refine gf_X6_140 cx hw hM dX6_keeps_76 ?_
        refine lv_iload_n hx hb dX6_keeps_79 rfl (lv_at hl 1 rfl) ?_
        refine lv_iconst (v := 1) hx hb dX6_keeps_80 (by decide) ?_
        refine lv_iadd hx hb dX6_keeps_81 ?_
        refine lv_iload_n hx hb dX6_keeps_82 rfl (lv_at hl 2 rfl) ?_
        refine lv_iadd hx hb dX6_keeps_83 ?_
        refine lv_aload_n hx hb dX6_keeps_84 rfl (lv_at hl 0 rfl) ?_
        refine gf_X6_122 cx hw hM dX6_keeps_85 ?_
        refine lv_bipush (v := 36) hx hb dX6_keeps_88 (by decide) ?_
        refine lv_aload_n hx hb dX6_keeps_90 rfl (lv_at hl 0 rfl) ?_
        refine gf_X6_345 cx hw hM dX6_keeps_91 ?_
        refine lv_imul hx hb dX6_keeps_94 ?_
        refine lv_iload_n hx hb dX6_keeps_95 rfl (lv_at hl 2 rfl) ?_
        refine lv_iadd hx hb dX6_keeps_96 ?_
        refine r_iald cx hw (hM.2.2.1 52 rfl) rfl rfl hf dX6_keeps_97 (fun hf => ?_)
        refine r_iast cx hw (hM.2.2.1 62 rfl) rfl rfl hf dX6_keeps_98 (fun S4 H locs hw hf => ?_)
        refine lv_iinc hx hb dX6_keeps_99 hl (k := 2) rfl (congrArg (HAdd.hAdd _) (show Int32.ofInt (1) = 1 by decide)) (by decide) (lv' := [(2, .int (z69.1 + 1)), (0, .ref (gg_o g 0)), (1, .int x1)]) rfl (fun ls hl => ?_)
        refine lv_goto hx hb dX6_keeps_102 (tgt := 69) rfl ?_
        exact ih69 _ _ _ ((z69.1 + 1), S4) (lv_sub hl [1, 2, 0] rfl) hw hf
    refine L69 ((53 : Int32) * (st_I S (ky 0 61))) _ (fun ls H locs S5 hl hw hf => ?_) FU _ _ _ ((0 : Int32), S2) (lv_sub hl [2, 1, 0] rfl) hw (h_assoc hf)
    try dsimp only at hf
    refine lv_iconst (v := 0) hx hb dX6_keeps_105 (by decide) ?_
    refine lv_istore_n hx hb dX6_keeps_106 rfl hl (by decide) (lv' := [(2, .int (0 : Int32)), (0, .ref (gg_o g 0)), (1, .int ((53 : Int32) * (st_I S (ky 0 61))))]) rfl (fun ls hl => ?_)
    have L107 : ∀ (x1 : Int32) (aft107 : St → Option (St)), (∀ (ls : Array Slot) (H : Heap) (locs : List Loc) (S1 : St), lv_has ls 3 [(0, .ref (gg_o g 0))] → HH wd_M g s S1 H locs → aft107 S1 = some q → W p l e rm_X6_keeps s m args below meth c H locs 0 0 (MQ below (qc_v wd_M g q) args s 0 0 (aw g)) (F0 m 153 ls [])) → ∀ (n107 : Nat) (ls : Array Slot) (H : Heap) (locs : List Loc) (z107 : Int32 × St), lv_has ls 3 [(0, .ref (gg_o g 0)), (1, .int x1), (2, .int z107.1)] → HH wd_M g s z107.2 H locs → (iter (f_X6_keeps_L107   x1) n107 z107).bind aft107 = some q → W p l e rm_X6_keeps s m args below meth c H locs 0 0 (MQ below (qc_v wd_M g q) args s 0 0 (aw g)) (F0 m 107 ls []) := by
      intro x1 aft107 hX107 n107
      induction n107 with
      | zero => intro ls H locs z107 hl hw hf; exact h_iter0 hf
      | succ n107 ih107 =>
        intro ls H locs z107 hl hw hf
        replace hf := h_iter hf
        unfold f_X6_keeps_L107 at hf
        refine lv_iload_n hx hb dX6_keeps_107 rfl (lv_at hl 2 rfl) ?_
        refine lv_bipush (v := 8) hx hb dX6_keeps_108 (by decide) ?_
        refine lv_icmp_ge hx hb dX6_keeps_110 (tgt := 153) rfl (fun hc6 => ?_) (fun hc6 => ?_)
        · replace hf := h_pos hc6 hf
          exact hX107 _ _ _ z107.2 (lv_sub hl [0] rfl) hw hf
        replace hf := h_neg hc6 hf
        refine lv_aload_n hx hb dX6_keeps_113 rfl (lv_at hl 0 rfl) ?_
        refine gf_X6_140 cx hw hM dX6_keeps_114 ?_
        refine lv_iload_n hx hb dX6_keeps_117 rfl (lv_at hl 1 rfl) ?_
        refine lv_bipush (v := 37) hx hb dX6_keeps_118 (by decide) ?_
        refine lv_iadd hx hb dX6_keeps_120 ?_
        refine lv_iload_n hx hb dX6_keeps_121 rfl (lv_at hl 2 rfl) ?_
        refine lv_iadd hx hb dX6_keeps_122 ?_
        refine lv_aload_n hx hb dX6_keeps_123 rfl (lv_at hl 0 rfl) ?_
        refine gf_X6_125 cx hw hM dX6_keeps_124 ?_
        refine lv_iload_n hx hb dX6_keeps_127 rfl (lv_at hl 2 rfl) ?_
        refine r_iald cx hw (hM.2.2.1 54 rfl) rfl rfl hf dX6_keeps_128 (fun hf => ?_)
        refine r_iast cx hw (hM.2.2.1 62 rfl) rfl rfl hf dX6_keeps_129 (fun S7 H locs hw hf => ?_)
        refine lv_aload_n hx hb dX6_keeps_130 rfl (lv_at hl 0 rfl) ?_
        refine gf_X6_140 cx hw hM dX6_keeps_131 ?_
        refine lv_iload_n hx hb dX6_keeps_134 rfl (lv_at hl 1 rfl) ?_
        refine lv_bipush (v := 45) hx hb dX6_keeps_135 (by decide) ?_
        refine lv_iadd hx hb dX6_keeps_137 ?_
        refine lv_iload_n hx hb dX6_keeps_138 rfl (lv_at hl 2 rfl) ?_
        refine lv_iadd hx hb dX6_keeps_139 ?_
        refine lv_aload_n hx hb dX6_keeps_140 rfl (lv_at hl 0 rfl) ?_
        refine gf_X6_128 cx hw hM dX6_keeps_141 ?_
        refine lv_iload_n hx hb dX6_keeps_144 rfl (lv_at hl 2 rfl) ?_
        refine r_iald cx hw (hM.2.2.1 55 rfl) rfl rfl hf dX6_keeps_145 (fun hf => ?_)
        refine r_iast cx hw (hM.2.2.1 62 rfl) rfl rfl hf dX6_keeps_146 (fun S8 H locs hw hf => ?_)
        refine lv_iinc hx hb dX6_keeps_147 hl (k := 2) rfl (congrArg (HAdd.hAdd _) (show Int32.ofInt (1) = 1 by decide)) (by decide) (lv' := [(2, .int (z107.1 + 1)), (0, .ref (gg_o g 0)), (1, .int x1)]) rfl (fun ls hl => ?_)
        refine lv_goto hx hb dX6_keeps_150 (tgt := 107) rfl ?_
        exact ih107 _ _ _ ((z107.1 + 1), S8) (lv_sub hl [1, 2, 0] rfl) hw hf
    refine L107 ((53 : Int32) * (st_I S (ky 0 61))) _ (fun ls H locs S9 hl hw hf => ?_) FU _ _ _ ((0 : Int32), S5) (lv_sub hl [1, 2, 0] rfl) hw (h_assoc hf)
    try dsimp only at hf
    refine lv_aload_n hx hb dX6_keeps_153 rfl (lv_at hl 0 rfl) ?_
    refine lv_dup hx hb dX6_keeps_154 rfl ?_
    refine gf_X6_275 cx hw hM dX6_keeps_155 ?_
    refine lv_iconst (v := 1) hx hb dX6_keeps_158 (by decide) ?_
    refine lv_iadd hx hb dX6_keeps_159 ?_
    refine pf_X6_275 cx hw hM hf dX6_keeps_160 (fun S10 H locs hw hf => ?_)
    refine lv_aload_n hx hb dX6_keeps_163 rfl (lv_at hl 0 rfl) ?_
    refine lv_aload_n hx hb dX6_keeps_164 rfl (lv_at hl 0 rfl) ?_
    refine gf_X6_345 cx hw hM dX6_keeps_165 ?_
    refine r_V_v (As := [.int (st_I S10 (ky 0 53))]) (rest := []) cx hw hf hM.2.1 (by rw [hM.1]; rfl) lk_X6_187 (fun q11 hq => k_X6_keepsRows l g hg  hM S10 (st_I S10 (ky 0 53)) q11 hq) ⟨⟨rfl, rfl⟩, Nat.le_of_ble_eq_true rfl, Nat.le_of_ble_eq_true rfl⟩ rfl hl.1 rfl (Nat.le_of_ble_eq_true rfl) dX6_keeps_168 ⟨Nat.zero_le _, Nat.zero_le _⟩ (fun q11 H locs hw hf => ?_)
    exact r_vret cx hw hr hlk hf dX6_keeps_171
  refine lv_aload_n hx hb dX6_keeps_0 rfl (lv_at hl 0 rfl) ?_
  refine gf_X6_275 cx hw hM dX6_keeps_1 ?_
  refine lv_bipush (v := 20) hx hb dX6_keeps_4 (by decide) ?_
  refine lv_icmp_ne hx hb dX6_keeps_6 (tgt := 49) rfl (fun hc1 => ?_) (fun hc1 => ?_)
  · replace hf := h_neg hc1 hf
    exact J49 _ _ _ S (lv_sub hl [0] rfl) hw hf
  replace hf := h_pos hc1 hf
  refine lv_iconst (v := 0) hx hb dX6_keeps_9 (by decide) ?_
  refine lv_istore_n hx hb dX6_keeps_10 rfl hl (by decide) (lv' := [(1, .int (0 : Int32)), (0, .ref (gg_o g 0))]) rfl (fun ls hl => ?_)
  have L11 : ∀  (aft11 : St → Option (St)), (∀ (ls : Array Slot) (H : Heap) (locs : List Loc) (S1 : St), lv_has ls 3 [(0, .ref (gg_o g 0))] → HH wd_M g s S1 H locs → aft11 S1 = some q → W p l e rm_X6_keeps s m args below meth c H locs 0 0 (MQ below (qc_v wd_M g q) args s 0 0 (aw g)) (F0 m 39 ls [])) → ∀ (n11 : Nat) (ls : Array Slot) (H : Heap) (locs : List Loc) (z11 : Int32 × St), lv_has ls 3 [(0, .ref (gg_o g 0)), (1, .int z11.1)] → HH wd_M g s z11.2 H locs → (iter (f_X6_keeps_L11   ) n11 z11).bind aft11 = some q → W p l e rm_X6_keeps s m args below meth c H locs 0 0 (MQ below (qc_v wd_M g q) args s 0 0 (aw g)) (F0 m 11 ls []) := by
    intro aft11 hX11 n11
    induction n11 with
    | zero => intro ls H locs z11 hl hw hf; exact h_iter0 hf
    | succ n11 ih11 =>
      intro ls H locs z11 hl hw hf
      replace hf := h_iter hf
      unfold f_X6_keeps_L11 at hf
      refine lv_iload_n hx hb dX6_keeps_11 rfl (lv_at hl 1 rfl) ?_
      refine lv_sipush (v := 1007) hx hb dX6_keeps_12 (by decide) ?_
      refine lv_icmp_ge hx hb dX6_keeps_15 (tgt := 39) rfl (fun hc14 => ?_) (fun hc14 => ?_)
      · replace hf := h_pos hc14 hf
        exact hX11 _ _ _ z11.2 (lv_sub hl [0] rfl) hw hf
      replace hf := h_neg hc14 hf
      refine lv_aload_n hx hb dX6_keeps_18 rfl (lv_at hl 0 rfl) ?_
      refine gf_X6_140 cx hw hM dX6_keeps_19 ?_
      refine lv_iload_n hx hb dX6_keeps_22 rfl (lv_at hl 1 rfl) ?_
      refine lv_aload_n hx hb dX6_keeps_23 rfl (lv_at hl 0 rfl) ?_
      refine gf_X6_140 cx hw hM dX6_keeps_24 ?_
      refine lv_iload_n hx hb dX6_keeps_27 rfl (lv_at hl 1 rfl) ?_
      refine lv_bipush (v := 53) hx hb dX6_keeps_28 (by decide) ?_
      refine lv_iadd hx hb dX6_keeps_30 ?_
      refine r_iald cx hw (hM.2.2.1 62 rfl) rfl rfl hf dX6_keeps_31 (fun hf => ?_)
      refine r_iast cx hw (hM.2.2.1 62 rfl) rfl rfl hf dX6_keeps_32 (fun S15 H locs hw hf => ?_)
      refine lv_iinc hx hb dX6_keeps_33 hl (k := 1) rfl (congrArg (HAdd.hAdd _) (show Int32.ofInt (1) = 1 by decide)) (by decide) (lv' := [(1, .int (z11.1 + 1)), (0, .ref (gg_o g 0))]) rfl (fun ls hl => ?_)
      refine lv_goto hx hb dX6_keeps_36 (tgt := 11) rfl ?_
      exact ih11 _ _ _ ((z11.1 + 1), S15) (lv_sub hl [1, 0] rfl) hw hf
  refine L11 _ (fun ls H locs S16 hl hw hf => ?_) FU _ _ _ ((0 : Int32), S) (lv_sub hl [1, 0] rfl) hw (h_assoc hf)
  try dsimp only at hf
  refine lv_aload_n hx hb dX6_keeps_39 rfl (lv_at hl 0 rfl) ?_
  refine lv_dup hx hb dX6_keeps_40 rfl ?_
  refine gf_X6_275 cx hw hM dX6_keeps_41 ?_
  refine lv_iconst (v := 1) hx hb dX6_keeps_44 (by decide) ?_
  refine lv_isub hx hb dX6_keeps_45 ?_
  refine pf_X6_275 cx hw hM hf dX6_keeps_46 (fun S17 H locs hw hf => ?_)
  exact J49 _ _ _ S17 (lv_sub hl [0] rfl) hw hf
theorem dX6_minutes_0 : decode cX6_minutes 0 = .ok (.iload_n 1, 1) := by decide +kernel
theorem dX6_minutes_1 : decode cX6_minutes 1 = .ok (.iconst 0, 1) := by decide +kernel
theorem dX6_minutes_2 : decode cX6_minutes 2 = .ok (.sipush 299, 3) := by decide +kernel
theorem dX6_minutes_5 : decode cX6_minutes 5 = .ok (.invokestatic 341, 3) := by decide +kernel
theorem dX6_minutes_8 : decode cX6_minutes 8 = .ok (.ifCond .eq 15, 3) := by decide +kernel
theorem dX6_minutes_11 : decode cX6_minutes 11 = .ok (.aload_n 0, 1) := by decide +kernel
theorem dX6_minutes_12 : decode cX6_minutes 12 = .ok (.getfield 345, 3) := by decide +kernel
theorem dX6_minutes_15 : decode cX6_minutes 15 = .ok (.iload_n 1, 1) := by decide +kernel
theorem dX6_minutes_16 : decode cX6_minutes 16 = .ok (.iadd, 1) := by decide +kernel
theorem dX6_minutes_17 : decode cX6_minutes 17 = .ok (.sipush 299, 3) := by decide +kernel
theorem dX6_minutes_20 : decode cX6_minutes 20 = .ok (.if_icmp .le 5, 3) := by decide +kernel
theorem dX6_minutes_23 : decode cX6_minutes 23 = .ok (.iconst (-1), 1) := by decide +kernel
theorem dX6_minutes_24 : decode cX6_minutes 24 = .ok (.ireturn, 1) := by decide +kernel
theorem dX6_minutes_25 : decode cX6_minutes 25 = .ok (.iload_n 1, 1) := by decide +kernel
theorem dX6_minutes_26 : decode cX6_minutes 26 = .ok (.ifCond .ne 8, 3) := by decide +kernel
theorem dX6_minutes_29 : decode cX6_minutes 29 = .ok (.aload_n 0, 1) := by decide +kernel
theorem dX6_minutes_30 : decode cX6_minutes 30 = .ok (.getfield 345, 3) := by decide +kernel
theorem dX6_minutes_33 : decode cX6_minutes 33 = .ok (.ireturn, 1) := by decide +kernel
theorem dX6_minutes_34 : decode cX6_minutes 34 = .ok (.aload_n 0, 1) := by decide +kernel
theorem dX6_minutes_35 : decode cX6_minutes 35 = .ok (.invokevirtual 419, 3) := by decide +kernel
theorem dX6_minutes_38 : decode cX6_minutes 38 = .ok (.aload_n 0, 1) := by decide +kernel
theorem dX6_minutes_39 : decode cX6_minutes 39 = .ok (.aload_n 0, 1) := by decide +kernel
theorem dX6_minutes_40 : decode cX6_minutes 40 = .ok (.getfield 345, 3) := by decide +kernel
theorem dX6_minutes_43 : decode cX6_minutes 43 = .ok (.iload_n 1, 1) := by decide +kernel
theorem dX6_minutes_44 : decode cX6_minutes 44 = .ok (.iadd, 1) := by decide +kernel
theorem dX6_minutes_45 : decode cX6_minutes 45 = .ok (.invokevirtual 425, 3) := by decide +kernel
theorem dX6_minutes_48 : decode cX6_minutes 48 = .ok (.aload_n 0, 1) := by decide +kernel
theorem dX6_minutes_49 : decode cX6_minutes 49 = .ok (.invokevirtual 428, 3) := by decide +kernel
theorem dX6_minutes_52 : decode cX6_minutes 52 = .ok (.aload_n 0, 1) := by decide +kernel
theorem dX6_minutes_53 : decode cX6_minutes 53 = .ok (.getfield 345, 3) := by decide +kernel
theorem dX6_minutes_56 : decode cX6_minutes 56 = .ok (.ireturn, 1) := by decide +kernel
abbrev rm_X6_minutes : Room := { frames := 6, cells := 0, slots := 0, locals := 142 }
def f_X6_minutes (S : St) (x1 : Int32) : Option (Int32 × St) :=
  (f_X6_in   x1 (0 : Int32) (299 : Int32)).bind (fun (q1 : Int32) => if q1 = 0 then (some ((-1 : Int32), S)) else (if ((st_I S (ky 0 53)) + x1) ≤ (299 : Int32) then (if x1 = 0 then (some ((st_I S (ky 0 53)), S)) else ((f_X6_copies  S ).bind (fun (q5 : St) => (f_X6_goesTill  q5 ((st_I q5 (ky 0 53)) + x1)).bind (fun (q6 : St) => (f_X6_keeps  q6 ).bind (fun (q7 : St) => some ((st_I q7 (ky 0 53)), q7)))))) else (some ((-1 : Int32), S))))
set_option maxRecDepth 100000 in
set_option maxHeartbeats 4000000 in
theorem k_X6_minutes (l : Launch) (g : GG) (hg : gd wd_M g)  (hM : hs wd_M g 0 6) (S : St) (x1 : Int32) (q : Int32 × St) (hf : f_X6_minutes  S x1 = some q) : Met l yX6_minutes (Cond.code yX6_minutes cX6_minutes 2 (some .int) :: gw_tbl) rm_X6_minutes (va_Pc [.ref (gg_o g 0), .int x1] (wI wd_M g S)) (qc_w wd_M g q) 0 0 (aw g) := by
  refine mt_start (own := RX6) hg (by decide) rfl (Nat.le_of_ble_eq_true rfl) (fun p e s m args below meth c ls H locs cx hw hr hlk hl => ?_)
  have hx := cx.1
  have hb := cx.2.1
  have hown := cx.2.2.2.1
  have hts := cx.2.2.2.2.1
  have hl : lv_has ls 2 [(0, .ref (gg_o g 0)), (1, .int x1)] := hl
  replace hf := h_top hf
  unfold f_X6_minutes at hf
  refine lv_iload_n hx hb dX6_minutes_0 rfl (lv_at hl 1 rfl) ?_
  refine lv_iconst (v := 0) hx hb dX6_minutes_1 (by decide) ?_
  refine lv_sipush (v := 299) hx hb dX6_minutes_2 (by decide) ?_
  refine r_S_i (As := [.int x1, .int (0 : Int32), .int (299 : Int32)]) (rest := []) cx hw hf lk_X6_341 (fun q1 hq => k_X6_in l g hg   S x1 (0 : Int32) (299 : Int32) q1 hq) ⟨⟨rfl, rfl⟩, Nat.le_of_ble_eq_true rfl, Nat.le_of_ble_eq_true rfl⟩ rfl hl.1 rfl (Nat.le_of_ble_eq_true rfl) dX6_minutes_5 ⟨Nat.zero_le _, Nat.zero_le _⟩ (fun q1 H locs hw hf => ?_)
  refine lv_if_eq hx hb dX6_minutes_8 (tgt := 23) rfl (fun hc2 => ?_) (fun hc2 => ?_)
  · replace hf := h_pos hc2 hf
    refine lv_iconst (v := -1) hx hb dX6_minutes_23 (by decide) ?_
    exact r_iretw cx hw hr hlk hf dX6_minutes_24
  replace hf := h_neg hc2 hf
  refine lv_aload_n hx hb dX6_minutes_11 rfl (lv_at hl 0 rfl) ?_
  refine gf_X6_345 cx hw hM dX6_minutes_12 ?_
  refine lv_iload_n hx hb dX6_minutes_15 rfl (lv_at hl 1 rfl) ?_
  refine lv_iadd hx hb dX6_minutes_16 ?_
  refine lv_sipush (v := 299) hx hb dX6_minutes_17 (by decide) ?_
  refine lv_icmp_le hx hb dX6_minutes_20 (tgt := 25) rfl (fun hc3 => ?_) (fun hc3 => ?_)
  · replace hf := h_pos hc3 hf
    refine lv_iload_n hx hb dX6_minutes_25 rfl (lv_at hl 1 rfl) ?_
    refine lv_if_ne hx hb dX6_minutes_26 (tgt := 34) rfl (fun hc4 => ?_) (fun hc4 => ?_)
    · replace hf := h_neg hc4 hf
      refine lv_aload_n hx hb dX6_minutes_34 rfl (lv_at hl 0 rfl) ?_
      refine r_V_v (As := []) (rest := []) cx hw hf hM.2.1 (by rw [hM.1]; rfl) lk_X6_419 (fun q5 hq => k_X6_copies l g hg  hM S  q5 hq) ⟨⟨rfl, rfl⟩, Nat.le_of_ble_eq_true rfl, Nat.le_of_ble_eq_true rfl⟩ rfl hl.1 rfl (Nat.le_of_ble_eq_true rfl) dX6_minutes_35 ⟨Nat.zero_le _, Nat.zero_le _⟩ (fun q5 H locs hw hf => ?_)
      refine lv_aload_n hx hb dX6_minutes_38 rfl (lv_at hl 0 rfl) ?_
      refine lv_aload_n hx hb dX6_minutes_39 rfl (lv_at hl 0 rfl) ?_
      refine gf_X6_345 cx hw hM dX6_minutes_40 ?_
      refine lv_iload_n hx hb dX6_minutes_43 rfl (lv_at hl 1 rfl) ?_
      refine lv_iadd hx hb dX6_minutes_44 ?_
      refine r_V_v (As := [.int ((st_I q5 (ky 0 53)) + x1)]) (rest := []) cx hw hf hM.2.1 (by rw [hM.1]; rfl) lk_X6_425 (fun q6 hq => k_X6_goesTill l g hg  hM q5 ((st_I q5 (ky 0 53)) + x1) q6 hq) ⟨⟨rfl, rfl⟩, Nat.le_of_ble_eq_true rfl, Nat.le_of_ble_eq_true rfl⟩ rfl hl.1 rfl (Nat.le_of_ble_eq_true rfl) dX6_minutes_45 ⟨Nat.zero_le _, Nat.zero_le _⟩ (fun q6 H locs hw hf => ?_)
      refine lv_aload_n hx hb dX6_minutes_48 rfl (lv_at hl 0 rfl) ?_
      refine r_V_v (As := []) (rest := []) cx hw hf hM.2.1 (by rw [hM.1]; rfl) lk_X6_428 (fun q7 hq => k_X6_keeps l g hg  hM q6  q7 hq) ⟨⟨rfl, rfl⟩, Nat.le_of_ble_eq_true rfl, Nat.le_of_ble_eq_true rfl⟩ rfl hl.1 rfl (Nat.le_of_ble_eq_true rfl) dX6_minutes_49 ⟨Nat.zero_le _, Nat.zero_le _⟩ (fun q7 H locs hw hf => ?_)
      refine lv_aload_n hx hb dX6_minutes_52 rfl (lv_at hl 0 rfl) ?_
      refine gf_X6_345 cx hw hM dX6_minutes_53 ?_
      exact r_iretw cx hw hr hlk hf dX6_minutes_56
    replace hf := h_pos hc4 hf
    refine lv_aload_n hx hb dX6_minutes_29 rfl (lv_at hl 0 rfl) ?_
    refine gf_X6_345 cx hw hM dX6_minutes_30 ?_
    exact r_iretw cx hw hr hlk hf dX6_minutes_33
  replace hf := h_neg hc3 hf
  refine lv_iconst (v := -1) hx hb dX6_minutes_23 (by decide) ?_
  exact r_iretw cx hw hr hlk hf dX6_minutes_24
theorem dX6_becomes_0 : decode cX6_becomes 0 = .ok (.aload_n 0, 1) := by decide +kernel
theorem dX6_becomes_1 : decode cX6_becomes 1 = .ok (.invokevirtual 419, 3) := by decide +kernel
theorem dX6_becomes_4 : decode cX6_becomes 4 = .ok (.aload_n 0, 1) := by decide +kernel
theorem dX6_becomes_5 : decode cX6_becomes 5 = .ok (.getfield 131, 3) := by decide +kernel
theorem dX6_becomes_8 : decode cX6_becomes 8 = .ok (.bipush 36, 2) := by decide +kernel
theorem dX6_becomes_10 : decode cX6_becomes 10 = .ok (.aload_n 0, 1) := by decide +kernel
theorem dX6_becomes_11 : decode cX6_becomes 11 = .ok (.getfield 348, 3) := by decide +kernel
theorem dX6_becomes_14 : decode cX6_becomes 14 = .ok (.imul, 1) := by decide +kernel
theorem dX6_becomes_15 : decode cX6_becomes 15 = .ok (.iload_n 1, 1) := by decide +kernel
theorem dX6_becomes_16 : decode cX6_becomes 16 = .ok (.iadd, 1) := by decide +kernel
theorem dX6_becomes_17 : decode cX6_becomes 17 = .ok (.iload_n 2, 1) := by decide +kernel
theorem dX6_becomes_18 : decode cX6_becomes 18 = .ok (.iastore, 1) := by decide +kernel
theorem dX6_becomes_19 : decode cX6_becomes 19 = .ok (.aload_n 0, 1) := by decide +kernel
theorem dX6_becomes_20 : decode cX6_becomes 20 = .ok (.invokevirtual 354, 3) := by decide +kernel
theorem dX6_becomes_23 : decode cX6_becomes 23 = .ok (.aload_n 0, 1) := by decide +kernel
theorem dX6_becomes_24 : decode cX6_becomes 24 = .ok (.invokevirtual 428, 3) := by decide +kernel
theorem dX6_becomes_27 : decode cX6_becomes 27 = .ok (.return_, 1) := by decide +kernel
abbrev rm_X6_becomes : Room := { frames := 4, cells := 0, slots := 0, locals := 98 }
def f_X6_becomes (S : St) (x1 : Int32) (x2 : Int32) : Option (St) :=
  (f_X6_copies  S ).bind (fun (q1 : St) => chk (ib (((36 : Int32) * (st_I q1 (ky 0 57))) + x1) 10800) (lt_v (up_A q1 (ky 0 56) (upd (st_A q1 (ky 0 56)) (((36 : Int32) * (st_I q1 (ky 0 57))) + x1).toNatClampNeg x2)) (fun (S2 : St) => (f_X6_fillsLate  S2 ).bind (fun (q3 : St) => (f_X6_keeps  q3 ).bind (fun (q4 : St) => some q4)))))
set_option maxRecDepth 100000 in
set_option maxHeartbeats 4000000 in
theorem k_X6_becomes (l : Launch) (g : GG) (hg : gd wd_M g)  (hM : hs wd_M g 0 6) (S : St) (x1 : Int32) (x2 : Int32) (q : St) (hf : f_X6_becomes  S x1 x2 = some q) : Met l yX6_becomes (Cond.code yX6_becomes cX6_becomes 3 none :: gw_tbl) rm_X6_becomes (va_Pc [.ref (gg_o g 0), .int x1, .int x2] (wI wd_M g S)) (qc_v wd_M g q) 0 0 (aw g) := by
  refine mt_start (own := RX6) hg (by decide) rfl (Nat.le_of_ble_eq_true rfl) (fun p e s m args below meth c ls H locs cx hw hr hlk hl => ?_)
  have hx := cx.1
  have hb := cx.2.1
  have hown := cx.2.2.2.1
  have hts := cx.2.2.2.2.1
  have hl : lv_has ls 3 [(0, .ref (gg_o g 0)), (1, .int x1), (2, .int x2)] := hl
  replace hf := h_top hf
  unfold f_X6_becomes at hf
  refine lv_aload_n hx hb dX6_becomes_0 rfl (lv_at hl 0 rfl) ?_
  refine r_V_v (As := []) (rest := []) cx hw hf hM.2.1 (by rw [hM.1]; rfl) lk_X6_419 (fun q1 hq => k_X6_copies l g hg  hM S  q1 hq) ⟨⟨rfl, rfl⟩, Nat.le_of_ble_eq_true rfl, Nat.le_of_ble_eq_true rfl⟩ rfl hl.1 rfl (Nat.le_of_ble_eq_true rfl) dX6_becomes_1 ⟨Nat.zero_le _, Nat.zero_le _⟩ (fun q1 H locs hw hf => ?_)
  refine lv_aload_n hx hb dX6_becomes_4 rfl (lv_at hl 0 rfl) ?_
  refine gf_X6_131 cx hw hM dX6_becomes_5 ?_
  refine lv_bipush (v := 36) hx hb dX6_becomes_8 (by decide) ?_
  refine lv_aload_n hx hb dX6_becomes_10 rfl (lv_at hl 0 rfl) ?_
  refine gf_X6_348 cx hw hM dX6_becomes_11 ?_
  refine lv_imul hx hb dX6_becomes_14 ?_
  refine lv_iload_n hx hb dX6_becomes_15 rfl (lv_at hl 1 rfl) ?_
  refine lv_iadd hx hb dX6_becomes_16 ?_
  refine lv_iload_n hx hb dX6_becomes_17 rfl (lv_at hl 2 rfl) ?_
  refine r_iast cx hw (hM.2.2.1 56 rfl) rfl rfl hf dX6_becomes_18 (fun S2 H locs hw hf => ?_)
  refine lv_aload_n hx hb dX6_becomes_19 rfl (lv_at hl 0 rfl) ?_
  refine r_V_v (As := []) (rest := []) cx hw hf hM.2.1 (by rw [hM.1]; rfl) lk_X6_354 (fun q3 hq => k_X6_fillsLate l g hg  hM S2  q3 hq) ⟨⟨rfl, rfl⟩, Nat.le_of_ble_eq_true rfl, Nat.le_of_ble_eq_true rfl⟩ rfl hl.1 rfl (Nat.le_of_ble_eq_true rfl) dX6_becomes_20 ⟨Nat.zero_le _, Nat.zero_le _⟩ (fun q3 H locs hw hf => ?_)
  refine lv_aload_n hx hb dX6_becomes_23 rfl (lv_at hl 0 rfl) ?_
  refine r_V_v (As := []) (rest := []) cx hw hf hM.2.1 (by rw [hM.1]; rfl) lk_X6_428 (fun q4 hq => k_X6_keeps l g hg  hM q3  q4 hq) ⟨⟨rfl, rfl⟩, Nat.le_of_ble_eq_true rfl, Nat.le_of_ble_eq_true rfl⟩ rfl hl.1 rfl (Nat.le_of_ble_eq_true rfl) dX6_becomes_24 ⟨Nat.zero_le _, Nat.zero_le _⟩ (fun q4 H locs hw hf => ?_)
  exact r_vret cx hw hr hlk hf dX6_becomes_27
theorem dX6_nowOf_0 : decode cX6_nowOf 0 = .ok (.aload_n 0, 1) := by decide +kernel
theorem dX6_nowOf_1 : decode cX6_nowOf 1 = .ok (.getfield 122, 3) := by decide +kernel
theorem dX6_nowOf_4 : decode cX6_nowOf 4 = .ok (.bipush 36, 2) := by decide +kernel
theorem dX6_nowOf_6 : decode cX6_nowOf 6 = .ok (.aload_n 0, 1) := by decide +kernel
theorem dX6_nowOf_7 : decode cX6_nowOf 7 = .ok (.getfield 345, 3) := by decide +kernel
theorem dX6_nowOf_10 : decode cX6_nowOf 10 = .ok (.imul, 1) := by decide +kernel
theorem dX6_nowOf_11 : decode cX6_nowOf 11 = .ok (.iload_n 1, 1) := by decide +kernel
theorem dX6_nowOf_12 : decode cX6_nowOf 12 = .ok (.iadd, 1) := by decide +kernel
theorem dX6_nowOf_13 : decode cX6_nowOf 13 = .ok (.iaload, 1) := by decide +kernel
theorem dX6_nowOf_14 : decode cX6_nowOf 14 = .ok (.ireturn, 1) := by decide +kernel
abbrev rm_X6_nowOf : Room := { frames := 0, cells := 0, slots := 0, locals := 0 }
def f_X6_nowOf (S : St) (x1 : Int32) : Option (Int32) :=
  chk (ib (((36 : Int32) * (st_I S (ky 0 53))) + x1) 10800) (some (st_A S (ky 0 52) (((36 : Int32) * (st_I S (ky 0 53))) + x1).toNatClampNeg))
set_option maxRecDepth 100000 in
set_option maxHeartbeats 4000000 in
theorem k_X6_nowOf (l : Launch) (g : GG) (hg : gd wd_M g)  (hM : hs wd_M g 0 6) (S : St) (x1 : Int32) (q : Int32) (hf : f_X6_nowOf  S x1 = some q) : Met l yX6_nowOf (Cond.code yX6_nowOf cX6_nowOf 2 (some .int) :: gw_tbl) rm_X6_nowOf (va_Pc [.ref (gg_o g 0), .int x1] (wI wd_M g S)) (qc_i wd_M g S q) 0 0 (aw g) := by
  refine mt_start (own := RX6) hg (by decide) rfl (Nat.le_of_ble_eq_true rfl) (fun p e s m args below meth c ls H locs cx hw hr hlk hl => ?_)
  have hx := cx.1
  have hb := cx.2.1
  have hown := cx.2.2.2.1
  have hts := cx.2.2.2.2.1
  have hl : lv_has ls 2 [(0, .ref (gg_o g 0)), (1, .int x1)] := hl
  replace hf := h_top hf
  unfold f_X6_nowOf at hf
  refine lv_aload_n hx hb dX6_nowOf_0 rfl (lv_at hl 0 rfl) ?_
  refine gf_X6_122 cx hw hM dX6_nowOf_1 ?_
  refine lv_bipush (v := 36) hx hb dX6_nowOf_4 (by decide) ?_
  refine lv_aload_n hx hb dX6_nowOf_6 rfl (lv_at hl 0 rfl) ?_
  refine gf_X6_345 cx hw hM dX6_nowOf_7 ?_
  refine lv_imul hx hb dX6_nowOf_10 ?_
  refine lv_iload_n hx hb dX6_nowOf_11 rfl (lv_at hl 1 rfl) ?_
  refine lv_iadd hx hb dX6_nowOf_12 ?_
  refine r_iald cx hw (hM.2.2.1 52 rfl) rfl rfl hf dX6_nowOf_13 (fun hf => ?_)
  exact r_iret cx hw hr hlk hf dX6_nowOf_14
theorem dX6_go_0 : decode cX6_go 0 = .ok (.aload_n 0, 1) := by decide +kernel
theorem dX6_go_1 : decode cX6_go 1 = .ok (.iload_n 1, 1) := by decide +kernel
theorem dX6_go_2 : decode cX6_go 2 = .ok (.invokevirtual 410, 3) := by decide +kernel
theorem dX6_go_5 : decode cX6_go 5 = .ok (.ifCond .eq 21, 3) := by decide +kernel
theorem dX6_go_8 : decode cX6_go 8 = .ok (.iload_n 2, 1) := by decide +kernel
theorem dX6_go_9 : decode cX6_go 9 = .ok (.iconst 1, 1) := by decide +kernel
theorem dX6_go_10 : decode cX6_go 10 = .ok (.if_icmp .lt 16, 3) := by decide +kernel
theorem dX6_go_13 : decode cX6_go 13 = .ok (.iload_n 2, 1) := by decide +kernel
theorem dX6_go_14 : decode cX6_go 14 = .ok (.aload_n 0, 1) := by decide +kernel
theorem dX6_go_15 : decode cX6_go 15 = .ok (.aload_n 0, 1) := by decide +kernel
theorem dX6_go_16 : decode cX6_go 16 = .ok (.iload_n 1, 1) := by decide +kernel
theorem dX6_go_17 : decode cX6_go 17 = .ok (.invokevirtual 431, 3) := by decide +kernel
theorem dX6_go_20 : decode cX6_go 20 = .ok (.invokevirtual 363, 3) := by decide +kernel
theorem dX6_go_23 : decode cX6_go 23 = .ok (.if_icmp .le 5, 3) := by decide +kernel
theorem dX6_go_26 : decode cX6_go 26 = .ok (.iconst 0, 1) := by decide +kernel
theorem dX6_go_27 : decode cX6_go 27 = .ok (.ireturn, 1) := by decide +kernel
theorem dX6_go_28 : decode cX6_go 28 = .ok (.aload_n 0, 1) := by decide +kernel
theorem dX6_go_29 : decode cX6_go 29 = .ok (.iload_n 1, 1) := by decide +kernel
theorem dX6_go_30 : decode cX6_go 30 = .ok (.aload_n 0, 1) := by decide +kernel
theorem dX6_go_31 : decode cX6_go 31 = .ok (.aload_n 0, 1) := by decide +kernel
theorem dX6_go_32 : decode cX6_go 32 = .ok (.iload_n 1, 1) := by decide +kernel
theorem dX6_go_33 : decode cX6_go 33 = .ok (.invokevirtual 431, 3) := by decide +kernel
theorem dX6_go_36 : decode cX6_go 36 = .ok (.iload_n 2, 1) := by decide +kernel
theorem dX6_go_37 : decode cX6_go 37 = .ok (.invokevirtual 385, 3) := by decide +kernel
theorem dX6_go_40 : decode cX6_go 40 = .ok (.invokevirtual 434, 3) := by decide +kernel
theorem dX6_go_43 : decode cX6_go 43 = .ok (.iconst 1, 1) := by decide +kernel
theorem dX6_go_44 : decode cX6_go 44 = .ok (.ireturn, 1) := by decide +kernel
abbrev rm_X6_go : Room := { frames := 5, cells := 0, slots := 0, locals := 120 }
def f_X6_go (S : St) (x1 : Int32) (x2 : Int32) : Option (Int32 × St) :=
  (f_X6_isMan  S x1).bind (fun (q1 : Int32) => if q1 = 0 then (some ((0 : Int32), S)) else (if x2 < (1 : Int32) then (some ((0 : Int32), S)) else ((f_X6_nowOf  S x1).bind (fun (q4 : Int32) => (f_X6_waysOf  S q4).bind (fun (q5 : Int32) => if x2 ≤ q5 then ((f_X6_nowOf  S x1).bind (fun (q7 : Int32) => (f_X6_through  S q7 x2).bind (fun (q8 : Int32) => (f_X6_becomes  S x1 q8).bind (fun (q9 : St) => some ((1 : Int32), q9))))) else (some ((0 : Int32), S)))))))
set_option maxRecDepth 100000 in
set_option maxHeartbeats 4000000 in
theorem k_X6_go (l : Launch) (g : GG) (hg : gd wd_M g)  (hM : hs wd_M g 0 6) (S : St) (x1 : Int32) (x2 : Int32) (q : Int32 × St) (hf : f_X6_go  S x1 x2 = some q) : Met l yX6_go (Cond.code yX6_go cX6_go 3 (some .boolean) :: gw_tbl) rm_X6_go (va_Pc [.ref (gg_o g 0), .int x1, .int x2] (wI wd_M g S)) (qc_w wd_M g q) 0 0 (aw g) := by
  refine mt_start (own := RX6) hg (by decide) rfl (Nat.le_of_ble_eq_true rfl) (fun p e s m args below meth c ls H locs cx hw hr hlk hl => ?_)
  have hx := cx.1
  have hb := cx.2.1
  have hown := cx.2.2.2.1
  have hts := cx.2.2.2.2.1
  have hl : lv_has ls 3 [(0, .ref (gg_o g 0)), (1, .int x1), (2, .int x2)] := hl
  replace hf := h_top hf
  unfold f_X6_go at hf
  refine lv_aload_n hx hb dX6_go_0 rfl (lv_at hl 0 rfl) ?_
  refine lv_iload_n hx hb dX6_go_1 rfl (lv_at hl 1 rfl) ?_
  refine r_V_i (As := [.int x1]) (rest := []) cx hw hf hM.2.1 (by rw [hM.1]; rfl) lk_X6_410 (fun q1 hq => k_X6_isMan l g hg  hM S x1 q1 hq) ⟨⟨rfl, rfl⟩, Nat.le_of_ble_eq_true rfl, Nat.le_of_ble_eq_true rfl⟩ rfl hl.1 rfl (Nat.le_of_ble_eq_true rfl) dX6_go_2 ⟨Nat.zero_le _, Nat.zero_le _⟩ (fun q1 H locs hw hf => ?_)
  refine lv_if_eq hx hb dX6_go_5 (tgt := 26) rfl (fun hc2 => ?_) (fun hc2 => ?_)
  · replace hf := h_pos hc2 hf
    refine lv_iconst (v := 0) hx hb dX6_go_26 (by decide) ?_
    exact r_zretw cx hw hr hlk (Or.inl rfl) hf dX6_go_27
  replace hf := h_neg hc2 hf
  refine lv_iload_n hx hb dX6_go_8 rfl (lv_at hl 2 rfl) ?_
  refine lv_iconst (v := 1) hx hb dX6_go_9 (by decide) ?_
  refine lv_icmp_lt hx hb dX6_go_10 (tgt := 26) rfl (fun hc3 => ?_) (fun hc3 => ?_)
  · replace hf := h_pos hc3 hf
    refine lv_iconst (v := 0) hx hb dX6_go_26 (by decide) ?_
    exact r_zretw cx hw hr hlk (Or.inl rfl) hf dX6_go_27
  replace hf := h_neg hc3 hf
  refine lv_iload_n hx hb dX6_go_13 rfl (lv_at hl 2 rfl) ?_
  refine lv_aload_n hx hb dX6_go_14 rfl (lv_at hl 0 rfl) ?_
  refine lv_aload_n hx hb dX6_go_15 rfl (lv_at hl 0 rfl) ?_
  refine lv_iload_n hx hb dX6_go_16 rfl (lv_at hl 1 rfl) ?_
  refine r_V_i (As := [.int x1]) (rest := [.ref (gg_o g 0), .int x2]) cx hw hf hM.2.1 (by rw [hM.1]; rfl) lk_X6_431 (fun q4 hq => k_X6_nowOf l g hg  hM S x1 q4 hq) ⟨⟨rfl, rfl⟩, Nat.le_of_ble_eq_true rfl, Nat.le_of_ble_eq_true rfl⟩ rfl hl.1 rfl (Nat.le_of_ble_eq_true rfl) dX6_go_17 ⟨Nat.zero_le _, Nat.zero_le _⟩ (fun q4 H locs hw hf => ?_)
  refine r_V_i (As := [.int q4]) (rest := [.int x2]) cx hw hf hM.2.1 (by rw [hM.1]; rfl) lk_X6_363 (fun q5 hq => k_X6_waysOf l g hg  hM S q4 q5 hq) ⟨⟨rfl, rfl⟩, Nat.le_of_ble_eq_true rfl, Nat.le_of_ble_eq_true rfl⟩ rfl hl.1 rfl (Nat.le_of_ble_eq_true rfl) dX6_go_20 ⟨Nat.zero_le _, Nat.zero_le _⟩ (fun q5 H locs hw hf => ?_)
  refine lv_icmp_le hx hb dX6_go_23 (tgt := 28) rfl (fun hc6 => ?_) (fun hc6 => ?_)
  · replace hf := h_pos hc6 hf
    refine lv_aload_n hx hb dX6_go_28 rfl (lv_at hl 0 rfl) ?_
    refine lv_iload_n hx hb dX6_go_29 rfl (lv_at hl 1 rfl) ?_
    refine lv_aload_n hx hb dX6_go_30 rfl (lv_at hl 0 rfl) ?_
    refine lv_aload_n hx hb dX6_go_31 rfl (lv_at hl 0 rfl) ?_
    refine lv_iload_n hx hb dX6_go_32 rfl (lv_at hl 1 rfl) ?_
    refine r_V_i (As := [.int x1]) (rest := [.ref (gg_o g 0), .int x1, .ref (gg_o g 0)]) cx hw hf hM.2.1 (by rw [hM.1]; rfl) lk_X6_431 (fun q7 hq => k_X6_nowOf l g hg  hM S x1 q7 hq) ⟨⟨rfl, rfl⟩, Nat.le_of_ble_eq_true rfl, Nat.le_of_ble_eq_true rfl⟩ rfl hl.1 rfl (Nat.le_of_ble_eq_true rfl) dX6_go_33 ⟨Nat.zero_le _, Nat.zero_le _⟩ (fun q7 H locs hw hf => ?_)
    refine lv_iload_n hx hb dX6_go_36 rfl (lv_at hl 2 rfl) ?_
    refine r_V_i (As := [.int q7, .int x2]) (rest := [.int x1, .ref (gg_o g 0)]) cx hw hf hM.2.1 (by rw [hM.1]; rfl) lk_X6_385 (fun q8 hq => k_X6_through l g hg  hM S q7 x2 q8 hq) ⟨⟨rfl, rfl⟩, Nat.le_of_ble_eq_true rfl, Nat.le_of_ble_eq_true rfl⟩ rfl hl.1 rfl (Nat.le_of_ble_eq_true rfl) dX6_go_37 ⟨Nat.zero_le _, Nat.zero_le _⟩ (fun q8 H locs hw hf => ?_)
    refine r_V_v (As := [.int x1, .int q8]) (rest := []) cx hw hf hM.2.1 (by rw [hM.1]; rfl) lk_X6_434 (fun q9 hq => k_X6_becomes l g hg  hM S x1 q8 q9 hq) ⟨⟨rfl, rfl⟩, Nat.le_of_ble_eq_true rfl, Nat.le_of_ble_eq_true rfl⟩ rfl hl.1 rfl (Nat.le_of_ble_eq_true rfl) dX6_go_40 ⟨Nat.zero_le _, Nat.zero_le _⟩ (fun q9 H locs hw hf => ?_)
    refine lv_iconst (v := 1) hx hb dX6_go_43 (by decide) ?_
    exact r_zretw cx hw hr hlk (Or.inr rfl) hf dX6_go_44
  replace hf := h_neg hc6 hf
  refine lv_iconst (v := 0) hx hb dX6_go_26 (by decide) ?_
  exact r_zretw cx hw hr hlk (Or.inl rfl) hf dX6_go_27
theorem dX6_raise_0 : decode cX6_raise 0 = .ok (.aload_n 0, 1) := by decide +kernel
theorem dX6_raise_1 : decode cX6_raise 1 = .ok (.iload_n 1, 1) := by decide +kernel
theorem dX6_raise_2 : decode cX6_raise 2 = .ok (.invokevirtual 410, 3) := by decide +kernel
theorem dX6_raise_5 : decode cX6_raise 5 = .ok (.ifCond .eq 25, 3) := by decide +kernel
theorem dX6_raise_8 : decode cX6_raise 8 = .ok (.iload_n 2, 1) := by decide +kernel
theorem dX6_raise_9 : decode cX6_raise 9 = .ok (.iconst 0, 1) := by decide +kernel
theorem dX6_raise_10 : decode cX6_raise 10 = .ok (.bipush 20, 2) := by decide +kernel
theorem dX6_raise_12 : decode cX6_raise 12 = .ok (.invokestatic 341, 3) := by decide +kernel
theorem dX6_raise_15 : decode cX6_raise 15 = .ok (.ifCond .eq 15, 3) := by decide +kernel
theorem dX6_raise_18 : decode cX6_raise 18 = .ok (.aload_n 0, 1) := by decide +kernel
theorem dX6_raise_19 : decode cX6_raise 19 = .ok (.bipush 6, 2) := by decide +kernel
theorem dX6_raise_21 : decode cX6_raise 21 = .ok (.iload_n 1, 1) := by decide +kernel
theorem dX6_raise_22 : decode cX6_raise 22 = .ok (.iadd, 1) := by decide +kernel
theorem dX6_raise_23 : decode cX6_raise 23 = .ok (.invokevirtual 431, 3) := by decide +kernel
theorem dX6_raise_26 : decode cX6_raise 26 = .ok (.iload_n 2, 1) := by decide +kernel
theorem dX6_raise_27 : decode cX6_raise 27 = .ok (.if_icmp .ne 5, 3) := by decide +kernel
theorem dX6_raise_30 : decode cX6_raise 30 = .ok (.iconst 0, 1) := by decide +kernel
theorem dX6_raise_31 : decode cX6_raise 31 = .ok (.ireturn, 1) := by decide +kernel
theorem dX6_raise_32 : decode cX6_raise 32 = .ok (.aload_n 0, 1) := by decide +kernel
theorem dX6_raise_33 : decode cX6_raise 33 = .ok (.bipush 6, 2) := by decide +kernel
theorem dX6_raise_35 : decode cX6_raise 35 = .ok (.iload_n 1, 1) := by decide +kernel
theorem dX6_raise_36 : decode cX6_raise 36 = .ok (.iadd, 1) := by decide +kernel
theorem dX6_raise_37 : decode cX6_raise 37 = .ok (.iload_n 2, 1) := by decide +kernel
theorem dX6_raise_38 : decode cX6_raise 38 = .ok (.invokevirtual 434, 3) := by decide +kernel
theorem dX6_raise_41 : decode cX6_raise 41 = .ok (.iconst 1, 1) := by decide +kernel
theorem dX6_raise_42 : decode cX6_raise 42 = .ok (.ireturn, 1) := by decide +kernel
abbrev rm_X6_raise : Room := { frames := 5, cells := 0, slots := 0, locals := 120 }
def f_X6_raise (S : St) (x1 : Int32) (x2 : Int32) : Option (Int32 × St) :=
  (f_X6_isMan  S x1).bind (fun (q1 : Int32) => if q1 = 0 then (some ((0 : Int32), S)) else ((f_X6_in   x2 (0 : Int32) (20 : Int32)).bind (fun (q3 : Int32) => if q3 = 0 then (some ((0 : Int32), S)) else ((f_X6_nowOf  S ((6 : Int32) + x1)).bind (fun (q5 : Int32) => if q5 = x2 then (some ((0 : Int32), S)) else ((f_X6_becomes  S ((6 : Int32) + x1) x2).bind (fun (q7 : St) => some ((1 : Int32), q7))))))))
set_option maxRecDepth 100000 in
set_option maxHeartbeats 4000000 in
theorem k_X6_raise (l : Launch) (g : GG) (hg : gd wd_M g)  (hM : hs wd_M g 0 6) (S : St) (x1 : Int32) (x2 : Int32) (q : Int32 × St) (hf : f_X6_raise  S x1 x2 = some q) : Met l yX6_raise (Cond.code yX6_raise cX6_raise 3 (some .boolean) :: gw_tbl) rm_X6_raise (va_Pc [.ref (gg_o g 0), .int x1, .int x2] (wI wd_M g S)) (qc_w wd_M g q) 0 0 (aw g) := by
  refine mt_start (own := RX6) hg (by decide) rfl (Nat.le_of_ble_eq_true rfl) (fun p e s m args below meth c ls H locs cx hw hr hlk hl => ?_)
  have hx := cx.1
  have hb := cx.2.1
  have hown := cx.2.2.2.1
  have hts := cx.2.2.2.2.1
  have hl : lv_has ls 3 [(0, .ref (gg_o g 0)), (1, .int x1), (2, .int x2)] := hl
  replace hf := h_top hf
  unfold f_X6_raise at hf
  refine lv_aload_n hx hb dX6_raise_0 rfl (lv_at hl 0 rfl) ?_
  refine lv_iload_n hx hb dX6_raise_1 rfl (lv_at hl 1 rfl) ?_
  refine r_V_i (As := [.int x1]) (rest := []) cx hw hf hM.2.1 (by rw [hM.1]; rfl) lk_X6_410 (fun q1 hq => k_X6_isMan l g hg  hM S x1 q1 hq) ⟨⟨rfl, rfl⟩, Nat.le_of_ble_eq_true rfl, Nat.le_of_ble_eq_true rfl⟩ rfl hl.1 rfl (Nat.le_of_ble_eq_true rfl) dX6_raise_2 ⟨Nat.zero_le _, Nat.zero_le _⟩ (fun q1 H locs hw hf => ?_)
  refine lv_if_eq hx hb dX6_raise_5 (tgt := 30) rfl (fun hc2 => ?_) (fun hc2 => ?_)
  · replace hf := h_pos hc2 hf
    refine lv_iconst (v := 0) hx hb dX6_raise_30 (by decide) ?_
    exact r_zretw cx hw hr hlk (Or.inl rfl) hf dX6_raise_31
  replace hf := h_neg hc2 hf
  refine lv_iload_n hx hb dX6_raise_8 rfl (lv_at hl 2 rfl) ?_
  refine lv_iconst (v := 0) hx hb dX6_raise_9 (by decide) ?_
  refine lv_bipush (v := 20) hx hb dX6_raise_10 (by decide) ?_
  refine r_S_i (As := [.int x2, .int (0 : Int32), .int (20 : Int32)]) (rest := []) cx hw hf lk_X6_341 (fun q3 hq => k_X6_in l g hg   S x2 (0 : Int32) (20 : Int32) q3 hq) ⟨⟨rfl, rfl⟩, Nat.le_of_ble_eq_true rfl, Nat.le_of_ble_eq_true rfl⟩ rfl hl.1 rfl (Nat.le_of_ble_eq_true rfl) dX6_raise_12 ⟨Nat.zero_le _, Nat.zero_le _⟩ (fun q3 H locs hw hf => ?_)
  refine lv_if_eq hx hb dX6_raise_15 (tgt := 30) rfl (fun hc4 => ?_) (fun hc4 => ?_)
  · replace hf := h_pos hc4 hf
    refine lv_iconst (v := 0) hx hb dX6_raise_30 (by decide) ?_
    exact r_zretw cx hw hr hlk (Or.inl rfl) hf dX6_raise_31
  replace hf := h_neg hc4 hf
  refine lv_aload_n hx hb dX6_raise_18 rfl (lv_at hl 0 rfl) ?_
  refine lv_bipush (v := 6) hx hb dX6_raise_19 (by decide) ?_
  refine lv_iload_n hx hb dX6_raise_21 rfl (lv_at hl 1 rfl) ?_
  refine lv_iadd hx hb dX6_raise_22 ?_
  refine r_V_i (As := [.int ((6 : Int32) + x1)]) (rest := []) cx hw hf hM.2.1 (by rw [hM.1]; rfl) lk_X6_431 (fun q5 hq => k_X6_nowOf l g hg  hM S ((6 : Int32) + x1) q5 hq) ⟨⟨rfl, rfl⟩, Nat.le_of_ble_eq_true rfl, Nat.le_of_ble_eq_true rfl⟩ rfl hl.1 rfl (Nat.le_of_ble_eq_true rfl) dX6_raise_23 ⟨Nat.zero_le _, Nat.zero_le _⟩ (fun q5 H locs hw hf => ?_)
  refine lv_iload_n hx hb dX6_raise_26 rfl (lv_at hl 2 rfl) ?_
  refine lv_icmp_ne hx hb dX6_raise_27 (tgt := 32) rfl (fun hc6 => ?_) (fun hc6 => ?_)
  · replace hf := h_neg hc6 hf
    refine lv_aload_n hx hb dX6_raise_32 rfl (lv_at hl 0 rfl) ?_
    refine lv_bipush (v := 6) hx hb dX6_raise_33 (by decide) ?_
    refine lv_iload_n hx hb dX6_raise_35 rfl (lv_at hl 1 rfl) ?_
    refine lv_iadd hx hb dX6_raise_36 ?_
    refine lv_iload_n hx hb dX6_raise_37 rfl (lv_at hl 2 rfl) ?_
    refine r_V_v (As := [.int ((6 : Int32) + x1), .int x2]) (rest := []) cx hw hf hM.2.1 (by rw [hM.1]; rfl) lk_X6_434 (fun q7 hq => k_X6_becomes l g hg  hM S ((6 : Int32) + x1) x2 q7 hq) ⟨⟨rfl, rfl⟩, Nat.le_of_ble_eq_true rfl, Nat.le_of_ble_eq_true rfl⟩ rfl hl.1 rfl (Nat.le_of_ble_eq_true rfl) dX6_raise_38 ⟨Nat.zero_le _, Nat.zero_le _⟩ (fun q7 H locs hw hf => ?_)
    refine lv_iconst (v := 1) hx hb dX6_raise_41 (by decide) ?_
    exact r_zretw cx hw hr hlk (Or.inr rfl) hf dX6_raise_42
  replace hf := h_pos hc6 hf
  refine lv_iconst (v := 0) hx hb dX6_raise_30 (by decide) ?_
  exact r_zretw cx hw hr hlk (Or.inl rfl) hf dX6_raise_31
theorem dX6_carry_0 : decode cX6_carry 0 = .ok (.aload_n 0, 1) := by decide +kernel
theorem dX6_carry_1 : decode cX6_carry 1 = .ok (.iload_n 1, 1) := by decide +kernel
theorem dX6_carry_2 : decode cX6_carry 2 = .ok (.invokevirtual 416, 3) := by decide +kernel
theorem dX6_carry_5 : decode cX6_carry 5 = .ok (.ifCond .eq 23, 3) := by decide +kernel
theorem dX6_carry_8 : decode cX6_carry 8 = .ok (.aload_n 0, 1) := by decide +kernel
theorem dX6_carry_9 : decode cX6_carry 9 = .ok (.iload_n 2, 1) := by decide +kernel
theorem dX6_carry_10 : decode cX6_carry 10 = .ok (.invokevirtual 437, 3) := by decide +kernel
theorem dX6_carry_13 : decode cX6_carry 13 = .ok (.ifCond .eq 15, 3) := by decide +kernel
theorem dX6_carry_16 : decode cX6_carry 16 = .ok (.aload_n 0, 1) := by decide +kernel
theorem dX6_carry_17 : decode cX6_carry 17 = .ok (.bipush 12, 2) := by decide +kernel
theorem dX6_carry_19 : decode cX6_carry 19 = .ok (.iload_n 1, 1) := by decide +kernel
theorem dX6_carry_20 : decode cX6_carry 20 = .ok (.iadd, 1) := by decide +kernel
theorem dX6_carry_21 : decode cX6_carry 21 = .ok (.invokevirtual 431, 3) := by decide +kernel
theorem dX6_carry_24 : decode cX6_carry 24 = .ok (.iload_n 2, 1) := by decide +kernel
theorem dX6_carry_25 : decode cX6_carry 25 = .ok (.if_icmp .ne 5, 3) := by decide +kernel
theorem dX6_carry_28 : decode cX6_carry 28 = .ok (.iconst 0, 1) := by decide +kernel
theorem dX6_carry_29 : decode cX6_carry 29 = .ok (.ireturn, 1) := by decide +kernel
theorem dX6_carry_30 : decode cX6_carry 30 = .ok (.aload_n 0, 1) := by decide +kernel
theorem dX6_carry_31 : decode cX6_carry 31 = .ok (.bipush 12, 2) := by decide +kernel
theorem dX6_carry_33 : decode cX6_carry 33 = .ok (.iload_n 1, 1) := by decide +kernel
theorem dX6_carry_34 : decode cX6_carry 34 = .ok (.iadd, 1) := by decide +kernel
theorem dX6_carry_35 : decode cX6_carry 35 = .ok (.iload_n 2, 1) := by decide +kernel
theorem dX6_carry_36 : decode cX6_carry 36 = .ok (.invokevirtual 434, 3) := by decide +kernel
theorem dX6_carry_39 : decode cX6_carry 39 = .ok (.iconst 1, 1) := by decide +kernel
theorem dX6_carry_40 : decode cX6_carry 40 = .ok (.ireturn, 1) := by decide +kernel
abbrev rm_X6_carry : Room := { frames := 5, cells := 0, slots := 0, locals := 120 }
def f_X6_carry (S : St) (x1 : Int32) (x2 : Int32) : Option (Int32 × St) :=
  (f_X6_isMirror  S x1).bind (fun (q1 : Int32) => if q1 = 0 then (some ((0 : Int32), S)) else ((f_X6_isRoom  S x2).bind (fun (q3 : Int32) => if q3 = 0 then (some ((0 : Int32), S)) else ((f_X6_nowOf  S ((12 : Int32) + x1)).bind (fun (q5 : Int32) => if q5 = x2 then (some ((0 : Int32), S)) else ((f_X6_becomes  S ((12 : Int32) + x1) x2).bind (fun (q7 : St) => some ((1 : Int32), q7))))))))
set_option maxRecDepth 100000 in
set_option maxHeartbeats 4000000 in
theorem k_X6_carry (l : Launch) (g : GG) (hg : gd wd_M g)  (hM : hs wd_M g 0 6) (S : St) (x1 : Int32) (x2 : Int32) (q : Int32 × St) (hf : f_X6_carry  S x1 x2 = some q) : Met l yX6_carry (Cond.code yX6_carry cX6_carry 3 (some .boolean) :: gw_tbl) rm_X6_carry (va_Pc [.ref (gg_o g 0), .int x1, .int x2] (wI wd_M g S)) (qc_w wd_M g q) 0 0 (aw g) := by
  refine mt_start (own := RX6) hg (by decide) rfl (Nat.le_of_ble_eq_true rfl) (fun p e s m args below meth c ls H locs cx hw hr hlk hl => ?_)
  have hx := cx.1
  have hb := cx.2.1
  have hown := cx.2.2.2.1
  have hts := cx.2.2.2.2.1
  have hl : lv_has ls 3 [(0, .ref (gg_o g 0)), (1, .int x1), (2, .int x2)] := hl
  replace hf := h_top hf
  unfold f_X6_carry at hf
  refine lv_aload_n hx hb dX6_carry_0 rfl (lv_at hl 0 rfl) ?_
  refine lv_iload_n hx hb dX6_carry_1 rfl (lv_at hl 1 rfl) ?_
  refine r_V_i (As := [.int x1]) (rest := []) cx hw hf hM.2.1 (by rw [hM.1]; rfl) lk_X6_416 (fun q1 hq => k_X6_isMirror l g hg  hM S x1 q1 hq) ⟨⟨rfl, rfl⟩, Nat.le_of_ble_eq_true rfl, Nat.le_of_ble_eq_true rfl⟩ rfl hl.1 rfl (Nat.le_of_ble_eq_true rfl) dX6_carry_2 ⟨Nat.zero_le _, Nat.zero_le _⟩ (fun q1 H locs hw hf => ?_)
  refine lv_if_eq hx hb dX6_carry_5 (tgt := 28) rfl (fun hc2 => ?_) (fun hc2 => ?_)
  · replace hf := h_pos hc2 hf
    refine lv_iconst (v := 0) hx hb dX6_carry_28 (by decide) ?_
    exact r_zretw cx hw hr hlk (Or.inl rfl) hf dX6_carry_29
  replace hf := h_neg hc2 hf
  refine lv_aload_n hx hb dX6_carry_8 rfl (lv_at hl 0 rfl) ?_
  refine lv_iload_n hx hb dX6_carry_9 rfl (lv_at hl 2 rfl) ?_
  refine r_V_i (As := [.int x2]) (rest := []) cx hw hf hM.2.1 (by rw [hM.1]; rfl) lk_X6_437 (fun q3 hq => k_X6_isRoom l g hg  hM S x2 q3 hq) ⟨⟨rfl, rfl⟩, Nat.le_of_ble_eq_true rfl, Nat.le_of_ble_eq_true rfl⟩ rfl hl.1 rfl (Nat.le_of_ble_eq_true rfl) dX6_carry_10 ⟨Nat.zero_le _, Nat.zero_le _⟩ (fun q3 H locs hw hf => ?_)
  refine lv_if_eq hx hb dX6_carry_13 (tgt := 28) rfl (fun hc4 => ?_) (fun hc4 => ?_)
  · replace hf := h_pos hc4 hf
    refine lv_iconst (v := 0) hx hb dX6_carry_28 (by decide) ?_
    exact r_zretw cx hw hr hlk (Or.inl rfl) hf dX6_carry_29
  replace hf := h_neg hc4 hf
  refine lv_aload_n hx hb dX6_carry_16 rfl (lv_at hl 0 rfl) ?_
  refine lv_bipush (v := 12) hx hb dX6_carry_17 (by decide) ?_
  refine lv_iload_n hx hb dX6_carry_19 rfl (lv_at hl 1 rfl) ?_
  refine lv_iadd hx hb dX6_carry_20 ?_
  refine r_V_i (As := [.int ((12 : Int32) + x1)]) (rest := []) cx hw hf hM.2.1 (by rw [hM.1]; rfl) lk_X6_431 (fun q5 hq => k_X6_nowOf l g hg  hM S ((12 : Int32) + x1) q5 hq) ⟨⟨rfl, rfl⟩, Nat.le_of_ble_eq_true rfl, Nat.le_of_ble_eq_true rfl⟩ rfl hl.1 rfl (Nat.le_of_ble_eq_true rfl) dX6_carry_21 ⟨Nat.zero_le _, Nat.zero_le _⟩ (fun q5 H locs hw hf => ?_)
  refine lv_iload_n hx hb dX6_carry_24 rfl (lv_at hl 2 rfl) ?_
  refine lv_icmp_ne hx hb dX6_carry_25 (tgt := 30) rfl (fun hc6 => ?_) (fun hc6 => ?_)
  · replace hf := h_neg hc6 hf
    refine lv_aload_n hx hb dX6_carry_30 rfl (lv_at hl 0 rfl) ?_
    refine lv_bipush (v := 12) hx hb dX6_carry_31 (by decide) ?_
    refine lv_iload_n hx hb dX6_carry_33 rfl (lv_at hl 1 rfl) ?_
    refine lv_iadd hx hb dX6_carry_34 ?_
    refine lv_iload_n hx hb dX6_carry_35 rfl (lv_at hl 2 rfl) ?_
    refine r_V_v (As := [.int ((12 : Int32) + x1), .int x2]) (rest := []) cx hw hf hM.2.1 (by rw [hM.1]; rfl) lk_X6_434 (fun q7 hq => k_X6_becomes l g hg  hM S ((12 : Int32) + x1) x2 q7 hq) ⟨⟨rfl, rfl⟩, Nat.le_of_ble_eq_true rfl, Nat.le_of_ble_eq_true rfl⟩ rfl hl.1 rfl (Nat.le_of_ble_eq_true rfl) dX6_carry_36 ⟨Nat.zero_le _, Nat.zero_le _⟩ (fun q7 H locs hw hf => ?_)
    refine lv_iconst (v := 1) hx hb dX6_carry_39 (by decide) ?_
    exact r_zretw cx hw hr hlk (Or.inr rfl) hf dX6_carry_40
  replace hf := h_pos hc6 hf
  refine lv_iconst (v := 0) hx hb dX6_carry_28 (by decide) ?_
  exact r_zretw cx hw hr hlk (Or.inl rfl) hf dX6_carry_29
theorem dX6_turn_0 : decode cX6_turn 0 = .ok (.aload_n 0, 1) := by decide +kernel
theorem dX6_turn_1 : decode cX6_turn 1 = .ok (.iload_n 1, 1) := by decide +kernel
theorem dX6_turn_2 : decode cX6_turn 2 = .ok (.invokevirtual 416, 3) := by decide +kernel
theorem dX6_turn_5 : decode cX6_turn 5 = .ok (.ifCond .eq 24, 3) := by decide +kernel
theorem dX6_turn_8 : decode cX6_turn 8 = .ok (.aload_n 0, 1) := by decide +kernel
theorem dX6_turn_9 : decode cX6_turn 9 = .ok (.bipush 20, 2) := by decide +kernel
theorem dX6_turn_11 : decode cX6_turn 11 = .ok (.iload_n 1, 1) := by decide +kernel
theorem dX6_turn_12 : decode cX6_turn 12 = .ok (.iadd, 1) := by decide +kernel
theorem dX6_turn_13 : decode cX6_turn 13 = .ok (.invokevirtual 431, 3) := by decide +kernel
theorem dX6_turn_16 : decode cX6_turn 16 = .ok (.iconst 1, 1) := by decide +kernel
theorem dX6_turn_17 : decode cX6_turn 17 = .ok (.if_icmp .ne 7, 3) := by decide +kernel
theorem dX6_turn_20 : decode cX6_turn 20 = .ok (.iconst 1, 1) := by decide +kernel
theorem dX6_turn_21 : decode cX6_turn 21 = .ok (.goto 4, 3) := by decide +kernel
theorem dX6_turn_24 : decode cX6_turn 24 = .ok (.iconst 0, 1) := by decide +kernel
theorem dX6_turn_25 : decode cX6_turn 25 = .ok (.iload_n 2, 1) := by decide +kernel
theorem dX6_turn_26 : decode cX6_turn 26 = .ok (.if_icmp .ne 5, 3) := by decide +kernel
theorem dX6_turn_29 : decode cX6_turn 29 = .ok (.iconst 0, 1) := by decide +kernel
theorem dX6_turn_30 : decode cX6_turn 30 = .ok (.ireturn, 1) := by decide +kernel
theorem dX6_turn_31 : decode cX6_turn 31 = .ok (.aload_n 0, 1) := by decide +kernel
theorem dX6_turn_32 : decode cX6_turn 32 = .ok (.bipush 20, 2) := by decide +kernel
theorem dX6_turn_34 : decode cX6_turn 34 = .ok (.iload_n 1, 1) := by decide +kernel
theorem dX6_turn_35 : decode cX6_turn 35 = .ok (.iadd, 1) := by decide +kernel
theorem dX6_turn_36 : decode cX6_turn 36 = .ok (.iload_n 2, 1) := by decide +kernel
theorem dX6_turn_37 : decode cX6_turn 37 = .ok (.ifCond .eq 7, 3) := by decide +kernel
theorem dX6_turn_40 : decode cX6_turn 40 = .ok (.iconst 1, 1) := by decide +kernel
theorem dX6_turn_41 : decode cX6_turn 41 = .ok (.goto 4, 3) := by decide +kernel
theorem dX6_turn_44 : decode cX6_turn 44 = .ok (.iconst 0, 1) := by decide +kernel
theorem dX6_turn_45 : decode cX6_turn 45 = .ok (.invokevirtual 434, 3) := by decide +kernel
theorem dX6_turn_48 : decode cX6_turn 48 = .ok (.iconst 1, 1) := by decide +kernel
theorem dX6_turn_49 : decode cX6_turn 49 = .ok (.ireturn, 1) := by decide +kernel
abbrev rm_X6_turn : Room := { frames := 5, cells := 0, slots := 0, locals := 120 }
def f_X6_turn_J45 (S : St) (y0 : Int32) (y1 : Int32) : Option (Int32 × St) :=
  (f_X6_becomes  S y1 y0).bind (fun (q7 : St) => some ((1 : Int32), q7))
def f_X6_turn_J25 (S : St) (x1 : Int32) (x2 : Int32) (y0 : Int32) : Option (Int32 × St) :=
  if y0 = x2 then (some ((0 : Int32), S)) else (if x2 = 0 then (f_X6_turn_J45  S (0 : Int32) ((20 : Int32) + x1)) else (f_X6_turn_J45  S (1 : Int32) ((20 : Int32) + x1)))
def f_X6_turn (S : St) (x1 : Int32) (x2 : Int32) : Option (Int32 × St) :=
  (f_X6_isMirror  S x1).bind (fun (q1 : Int32) => if q1 = 0 then (some ((0 : Int32), S)) else ((f_X6_nowOf  S ((20 : Int32) + x1)).bind (fun (q3 : Int32) => if q3 = (1 : Int32) then (f_X6_turn_J25  S x1 x2 (1 : Int32)) else (f_X6_turn_J25  S x1 x2 (0 : Int32)))))
set_option maxRecDepth 100000 in
set_option maxHeartbeats 4000000 in
theorem k_X6_turn (l : Launch) (g : GG) (hg : gd wd_M g)  (hM : hs wd_M g 0 6) (S : St) (x1 : Int32) (x2 : Int32) (q : Int32 × St) (hf : f_X6_turn  S x1 x2 = some q) : Met l yX6_turn (Cond.code yX6_turn cX6_turn 3 (some .boolean) :: gw_tbl) rm_X6_turn (va_Pc [.ref (gg_o g 0), .int x1, .int x2] (wI wd_M g S)) (qc_w wd_M g q) 0 0 (aw g) := by
  refine mt_start (own := RX6) hg (by decide) rfl (Nat.le_of_ble_eq_true rfl) (fun p e s m args below meth c ls H locs cx hw hr hlk hl => ?_)
  have hx := cx.1
  have hb := cx.2.1
  have hown := cx.2.2.2.1
  have hts := cx.2.2.2.2.1
  have hl : lv_has ls 3 [(0, .ref (gg_o g 0)), (1, .int x1), (2, .int x2)] := hl
  replace hf := h_top hf
  unfold f_X6_turn at hf
  have J45 : ∀ (ls : Array Slot) (H : Heap) (locs : List Loc) (S : St) (y0 : Int32) (y1 : Int32), lv_has ls 3 [] → HH wd_M g s S H locs → (f_X6_turn_J45  S y0 y1).bind some = some q → W p l e rm_X6_turn s m args below meth c H locs 0 0 (MQ below (qc_w wd_M g q) args s 0 0 (aw g)) (F0 m 45 ls [.int y0, .int y1, .ref (gg_o g 0)]) := by
    intro ls H locs S y0 y1 hl hw hf
    unfold f_X6_turn_J45 at hf
    refine r_V_v (As := [.int y1, .int y0]) (rest := []) cx hw hf hM.2.1 (by rw [hM.1]; rfl) lk_X6_434 (fun q7 hq => k_X6_becomes l g hg  hM S y1 y0 q7 hq) ⟨⟨rfl, rfl⟩, Nat.le_of_ble_eq_true rfl, Nat.le_of_ble_eq_true rfl⟩ rfl hl.1 rfl (Nat.le_of_ble_eq_true rfl) dX6_turn_45 ⟨Nat.zero_le _, Nat.zero_le _⟩ (fun q7 H locs hw hf => ?_)
    refine lv_iconst (v := 1) hx hb dX6_turn_48 (by decide) ?_
    exact r_zretw cx hw hr hlk (Or.inr rfl) hf dX6_turn_49
  have J25 : ∀ (ls : Array Slot) (H : Heap) (locs : List Loc) (S : St) (x1 : Int32) (x2 : Int32) (y0 : Int32), lv_has ls 3 [(0, .ref (gg_o g 0)), (1, .int x1), (2, .int x2)] → HH wd_M g s S H locs → (f_X6_turn_J25  S x1 x2 y0).bind some = some q → W p l e rm_X6_turn s m args below meth c H locs 0 0 (MQ below (qc_w wd_M g q) args s 0 0 (aw g)) (F0 m 25 ls [.int y0]) := by
    intro ls H locs S x1 x2 y0 hl hw hf
    unfold f_X6_turn_J25 at hf
    refine lv_iload_n hx hb dX6_turn_25 rfl (lv_at hl 2 rfl) ?_
    refine lv_icmp_ne hx hb dX6_turn_26 (tgt := 31) rfl (fun hc5 => ?_) (fun hc5 => ?_)
    · replace hf := h_neg hc5 hf
      refine lv_aload_n hx hb dX6_turn_31 rfl (lv_at hl 0 rfl) ?_
      refine lv_bipush (v := 20) hx hb dX6_turn_32 (by decide) ?_
      refine lv_iload_n hx hb dX6_turn_34 rfl (lv_at hl 1 rfl) ?_
      refine lv_iadd hx hb dX6_turn_35 ?_
      refine lv_iload_n hx hb dX6_turn_36 rfl (lv_at hl 2 rfl) ?_
      refine lv_if_eq hx hb dX6_turn_37 (tgt := 44) rfl (fun hc6 => ?_) (fun hc6 => ?_)
      · replace hf := h_pos hc6 hf
        refine lv_iconst (v := 0) hx hb dX6_turn_44 (by decide) ?_
        exact J45 _ _ _ S (0 : Int32) ((20 : Int32) + x1) (lv_sub hl [] rfl) hw hf
      replace hf := h_neg hc6 hf
      refine lv_iconst (v := 1) hx hb dX6_turn_40 (by decide) ?_
      refine lv_goto hx hb dX6_turn_41 (tgt := 45) rfl ?_
      exact J45 _ _ _ S (1 : Int32) ((20 : Int32) + x1) (lv_sub hl [] rfl) hw hf
    replace hf := h_pos hc5 hf
    refine lv_iconst (v := 0) hx hb dX6_turn_29 (by decide) ?_
    exact r_zretw cx hw hr hlk (Or.inl rfl) hf dX6_turn_30
  refine lv_aload_n hx hb dX6_turn_0 rfl (lv_at hl 0 rfl) ?_
  refine lv_iload_n hx hb dX6_turn_1 rfl (lv_at hl 1 rfl) ?_
  refine r_V_i (As := [.int x1]) (rest := []) cx hw hf hM.2.1 (by rw [hM.1]; rfl) lk_X6_416 (fun q1 hq => k_X6_isMirror l g hg  hM S x1 q1 hq) ⟨⟨rfl, rfl⟩, Nat.le_of_ble_eq_true rfl, Nat.le_of_ble_eq_true rfl⟩ rfl hl.1 rfl (Nat.le_of_ble_eq_true rfl) dX6_turn_2 ⟨Nat.zero_le _, Nat.zero_le _⟩ (fun q1 H locs hw hf => ?_)
  refine lv_if_eq hx hb dX6_turn_5 (tgt := 29) rfl (fun hc2 => ?_) (fun hc2 => ?_)
  · replace hf := h_pos hc2 hf
    refine lv_iconst (v := 0) hx hb dX6_turn_29 (by decide) ?_
    exact r_zretw cx hw hr hlk (Or.inl rfl) hf dX6_turn_30
  replace hf := h_neg hc2 hf
  refine lv_aload_n hx hb dX6_turn_8 rfl (lv_at hl 0 rfl) ?_
  refine lv_bipush (v := 20) hx hb dX6_turn_9 (by decide) ?_
  refine lv_iload_n hx hb dX6_turn_11 rfl (lv_at hl 1 rfl) ?_
  refine lv_iadd hx hb dX6_turn_12 ?_
  refine r_V_i (As := [.int ((20 : Int32) + x1)]) (rest := []) cx hw hf hM.2.1 (by rw [hM.1]; rfl) lk_X6_431 (fun q3 hq => k_X6_nowOf l g hg  hM S ((20 : Int32) + x1) q3 hq) ⟨⟨rfl, rfl⟩, Nat.le_of_ble_eq_true rfl, Nat.le_of_ble_eq_true rfl⟩ rfl hl.1 rfl (Nat.le_of_ble_eq_true rfl) dX6_turn_13 ⟨Nat.zero_le _, Nat.zero_le _⟩ (fun q3 H locs hw hf => ?_)
  refine lv_iconst (v := 1) hx hb dX6_turn_16 (by decide) ?_
  refine lv_icmp_ne hx hb dX6_turn_17 (tgt := 24) rfl (fun hc4 => ?_) (fun hc4 => ?_)
  · replace hf := h_neg hc4 hf
    refine lv_iconst (v := 0) hx hb dX6_turn_24 (by decide) ?_
    exact J25 _ _ _ S x1 x2 (0 : Int32) (lv_sub hl [0, 1, 2] rfl) hw hf
  replace hf := h_pos hc4 hf
  refine lv_iconst (v := 1) hx hb dX6_turn_20 (by decide) ?_
  refine lv_goto hx hb dX6_turn_21 (tgt := 25) rfl ?_
  exact J25 _ _ _ S x1 x2 (1 : Int32) (lv_sub hl [0, 1, 2] rfl) hw hf
theorem dX6_smash_0 : decode cX6_smash 0 = .ok (.aload_n 0, 1) := by decide +kernel
theorem dX6_smash_1 : decode cX6_smash 1 = .ok (.iload_n 1, 1) := by decide +kernel
theorem dX6_smash_2 : decode cX6_smash 2 = .ok (.invokevirtual 416, 3) := by decide +kernel
theorem dX6_smash_5 : decode cX6_smash 5 = .ok (.ifCond .eq 13, 3) := by decide +kernel
theorem dX6_smash_8 : decode cX6_smash 8 = .ok (.aload_n 0, 1) := by decide +kernel
theorem dX6_smash_9 : decode cX6_smash 9 = .ok (.getfield 125, 3) := by decide +kernel
theorem dX6_smash_12 : decode cX6_smash 12 = .ok (.iload_n 1, 1) := by decide +kernel
theorem dX6_smash_13 : decode cX6_smash 13 = .ok (.iaload, 1) := by decide +kernel
theorem dX6_smash_14 : decode cX6_smash 14 = .ok (.iconst (-1), 1) := by decide +kernel
theorem dX6_smash_15 : decode cX6_smash 15 = .ok (.if_icmp .eq 5, 3) := by decide +kernel
theorem dX6_smash_18 : decode cX6_smash 18 = .ok (.iconst 0, 1) := by decide +kernel
theorem dX6_smash_19 : decode cX6_smash 19 = .ok (.ireturn, 1) := by decide +kernel
theorem dX6_smash_20 : decode cX6_smash 20 = .ok (.aload_n 0, 1) := by decide +kernel
theorem dX6_smash_21 : decode cX6_smash 21 = .ok (.invokevirtual 419, 3) := by decide +kernel
theorem dX6_smash_24 : decode cX6_smash 24 = .ok (.aload_n 0, 1) := by decide +kernel
theorem dX6_smash_25 : decode cX6_smash 25 = .ok (.iload_n 1, 1) := by decide +kernel
theorem dX6_smash_26 : decode cX6_smash 26 = .ok (.invokevirtual 404, 3) := by decide +kernel
theorem dX6_smash_29 : decode cX6_smash 29 = .ok (.aload_n 0, 1) := by decide +kernel
theorem dX6_smash_30 : decode cX6_smash 30 = .ok (.invokevirtual 428, 3) := by decide +kernel
theorem dX6_smash_33 : decode cX6_smash 33 = .ok (.iconst 1, 1) := by decide +kernel
theorem dX6_smash_34 : decode cX6_smash 34 = .ok (.ireturn, 1) := by decide +kernel
abbrev rm_X6_smash : Room := { frames := 3, cells := 0, slots := 0, locals := 66 }
def f_X6_smash (S : St) (x1 : Int32) : Option (Int32 × St) :=
  (f_X6_isMirror  S x1).bind (fun (q1 : Int32) => if q1 = 0 then (some ((0 : Int32), S)) else (chk (ib x1 8) (if (st_A S (ky 0 54) x1.toNatClampNeg) = (-1 : Int32) then ((f_X6_copies  S ).bind (fun (q4 : St) => (f_X6_breaksNow  q4 x1).bind (fun (q5 : St) => (f_X6_keeps  q5 ).bind (fun (q6 : St) => some ((1 : Int32), q6))))) else (some ((0 : Int32), S)))))
set_option maxRecDepth 100000 in
set_option maxHeartbeats 4000000 in
theorem k_X6_smash (l : Launch) (g : GG) (hg : gd wd_M g)  (hM : hs wd_M g 0 6) (S : St) (x1 : Int32) (q : Int32 × St) (hf : f_X6_smash  S x1 = some q) : Met l yX6_smash (Cond.code yX6_smash cX6_smash 2 (some .boolean) :: gw_tbl) rm_X6_smash (va_Pc [.ref (gg_o g 0), .int x1] (wI wd_M g S)) (qc_w wd_M g q) 0 0 (aw g) := by
  refine mt_start (own := RX6) hg (by decide) rfl (Nat.le_of_ble_eq_true rfl) (fun p e s m args below meth c ls H locs cx hw hr hlk hl => ?_)
  have hx := cx.1
  have hb := cx.2.1
  have hown := cx.2.2.2.1
  have hts := cx.2.2.2.2.1
  have hl : lv_has ls 2 [(0, .ref (gg_o g 0)), (1, .int x1)] := hl
  replace hf := h_top hf
  unfold f_X6_smash at hf
  refine lv_aload_n hx hb dX6_smash_0 rfl (lv_at hl 0 rfl) ?_
  refine lv_iload_n hx hb dX6_smash_1 rfl (lv_at hl 1 rfl) ?_
  refine r_V_i (As := [.int x1]) (rest := []) cx hw hf hM.2.1 (by rw [hM.1]; rfl) lk_X6_416 (fun q1 hq => k_X6_isMirror l g hg  hM S x1 q1 hq) ⟨⟨rfl, rfl⟩, Nat.le_of_ble_eq_true rfl, Nat.le_of_ble_eq_true rfl⟩ rfl hl.1 rfl (Nat.le_of_ble_eq_true rfl) dX6_smash_2 ⟨Nat.zero_le _, Nat.zero_le _⟩ (fun q1 H locs hw hf => ?_)
  refine lv_if_eq hx hb dX6_smash_5 (tgt := 18) rfl (fun hc2 => ?_) (fun hc2 => ?_)
  · replace hf := h_pos hc2 hf
    refine lv_iconst (v := 0) hx hb dX6_smash_18 (by decide) ?_
    exact r_zretw cx hw hr hlk (Or.inl rfl) hf dX6_smash_19
  replace hf := h_neg hc2 hf
  refine lv_aload_n hx hb dX6_smash_8 rfl (lv_at hl 0 rfl) ?_
  refine gf_X6_125 cx hw hM dX6_smash_9 ?_
  refine lv_iload_n hx hb dX6_smash_12 rfl (lv_at hl 1 rfl) ?_
  refine r_iald cx hw (hM.2.2.1 54 rfl) rfl rfl hf dX6_smash_13 (fun hf => ?_)
  refine lv_iconst (v := -1) hx hb dX6_smash_14 (by decide) ?_
  refine lv_icmp_eq hx hb dX6_smash_15 (tgt := 20) rfl (fun hc3 => ?_) (fun hc3 => ?_)
  · replace hf := h_pos hc3 hf
    refine lv_aload_n hx hb dX6_smash_20 rfl (lv_at hl 0 rfl) ?_
    refine r_V_v (As := []) (rest := []) cx hw hf hM.2.1 (by rw [hM.1]; rfl) lk_X6_419 (fun q4 hq => k_X6_copies l g hg  hM S  q4 hq) ⟨⟨rfl, rfl⟩, Nat.le_of_ble_eq_true rfl, Nat.le_of_ble_eq_true rfl⟩ rfl hl.1 rfl (Nat.le_of_ble_eq_true rfl) dX6_smash_21 ⟨Nat.zero_le _, Nat.zero_le _⟩ (fun q4 H locs hw hf => ?_)
    refine lv_aload_n hx hb dX6_smash_24 rfl (lv_at hl 0 rfl) ?_
    refine lv_iload_n hx hb dX6_smash_25 rfl (lv_at hl 1 rfl) ?_
    refine r_V_v (As := [.int x1]) (rest := []) cx hw hf hM.2.1 (by rw [hM.1]; rfl) lk_X6_404 (fun q5 hq => k_X6_breaksNow l g hg  hM q4 x1 q5 hq) ⟨⟨rfl, rfl⟩, Nat.le_of_ble_eq_true rfl, Nat.le_of_ble_eq_true rfl⟩ rfl hl.1 rfl (Nat.le_of_ble_eq_true rfl) dX6_smash_26 ⟨Nat.zero_le _, Nat.zero_le _⟩ (fun q5 H locs hw hf => ?_)
    refine lv_aload_n hx hb dX6_smash_29 rfl (lv_at hl 0 rfl) ?_
    refine r_V_v (As := []) (rest := []) cx hw hf hM.2.1 (by rw [hM.1]; rfl) lk_X6_428 (fun q6 hq => k_X6_keeps l g hg  hM q5  q6 hq) ⟨⟨rfl, rfl⟩, Nat.le_of_ble_eq_true rfl, Nat.le_of_ble_eq_true rfl⟩ rfl hl.1 rfl (Nat.le_of_ble_eq_true rfl) dX6_smash_30 ⟨Nat.zero_le _, Nat.zero_le _⟩ (fun q6 H locs hw hf => ?_)
    refine lv_iconst (v := 1) hx hb dX6_smash_33 (by decide) ?_
    exact r_zretw cx hw hr hlk (Or.inr rfl) hf dX6_smash_34
  replace hf := h_neg hc3 hf
  refine lv_iconst (v := 0) hx hb dX6_smash_18 (by decide) ?_
  exact r_zretw cx hw hr hlk (Or.inl rfl) hf dX6_smash_19
theorem dX6_undo_0 : decode cX6_undo 0 = .ok (.aload_n 0, 1) := by decide +kernel
theorem dX6_undo_1 : decode cX6_undo 1 = .ok (.getfield 275, 3) := by decide +kernel
theorem dX6_undo_4 : decode cX6_undo 4 = .ok (.ifCond .ne 5, 3) := by decide +kernel
theorem dX6_undo_7 : decode cX6_undo 7 = .ok (.iconst 0, 1) := by decide +kernel
theorem dX6_undo_8 : decode cX6_undo 8 = .ok (.ireturn, 1) := by decide +kernel
theorem dX6_undo_9 : decode cX6_undo 9 = .ok (.aload_n 0, 1) := by decide +kernel
theorem dX6_undo_10 : decode cX6_undo 10 = .ok (.dup, 1) := by decide +kernel
theorem dX6_undo_11 : decode cX6_undo 11 = .ok (.getfield 275, 3) := by decide +kernel
theorem dX6_undo_14 : decode cX6_undo 14 = .ok (.iconst 1, 1) := by decide +kernel
theorem dX6_undo_15 : decode cX6_undo 15 = .ok (.isub, 1) := by decide +kernel
theorem dX6_undo_16 : decode cX6_undo 16 = .ok (.putfield 275, 3) := by decide +kernel
theorem dX6_undo_19 : decode cX6_undo 19 = .ok (.bipush 53, 2) := by decide +kernel
theorem dX6_undo_21 : decode cX6_undo 21 = .ok (.aload_n 0, 1) := by decide +kernel
theorem dX6_undo_22 : decode cX6_undo 22 = .ok (.getfield 275, 3) := by decide +kernel
theorem dX6_undo_25 : decode cX6_undo 25 = .ok (.imul, 1) := by decide +kernel
theorem dX6_undo_26 : decode cX6_undo 26 = .ok (.istore_n 1, 1) := by decide +kernel
theorem dX6_undo_27 : decode cX6_undo 27 = .ok (.aload_n 0, 1) := by decide +kernel
theorem dX6_undo_28 : decode cX6_undo 28 = .ok (.aload_n 0, 1) := by decide +kernel
theorem dX6_undo_29 : decode cX6_undo 29 = .ok (.getfield 140, 3) := by decide +kernel
theorem dX6_undo_32 : decode cX6_undo 32 = .ok (.iload_n 1, 1) := by decide +kernel
theorem dX6_undo_33 : decode cX6_undo 33 = .ok (.iaload, 1) := by decide +kernel
theorem dX6_undo_34 : decode cX6_undo 34 = .ok (.putfield 345, 3) := by decide +kernel
theorem dX6_undo_37 : decode cX6_undo 37 = .ok (.iconst 0, 1) := by decide +kernel
theorem dX6_undo_38 : decode cX6_undo 38 = .ok (.istore_n 2, 1) := by decide +kernel
theorem dX6_undo_39 : decode cX6_undo 39 = .ok (.iload_n 2, 1) := by decide +kernel
theorem dX6_undo_40 : decode cX6_undo 40 = .ok (.bipush 36, 2) := by decide +kernel
theorem dX6_undo_42 : decode cX6_undo 42 = .ok (.if_icmp .ge 33, 3) := by decide +kernel
theorem dX6_undo_45 : decode cX6_undo 45 = .ok (.aload_n 0, 1) := by decide +kernel
theorem dX6_undo_46 : decode cX6_undo 46 = .ok (.getfield 122, 3) := by decide +kernel
theorem dX6_undo_49 : decode cX6_undo 49 = .ok (.bipush 36, 2) := by decide +kernel
theorem dX6_undo_51 : decode cX6_undo 51 = .ok (.aload_n 0, 1) := by decide +kernel
theorem dX6_undo_52 : decode cX6_undo 52 = .ok (.getfield 345, 3) := by decide +kernel
theorem dX6_undo_55 : decode cX6_undo 55 = .ok (.imul, 1) := by decide +kernel
theorem dX6_undo_56 : decode cX6_undo 56 = .ok (.iload_n 2, 1) := by decide +kernel
theorem dX6_undo_57 : decode cX6_undo 57 = .ok (.iadd, 1) := by decide +kernel
theorem dX6_undo_58 : decode cX6_undo 58 = .ok (.aload_n 0, 1) := by decide +kernel
theorem dX6_undo_59 : decode cX6_undo 59 = .ok (.getfield 140, 3) := by decide +kernel
theorem dX6_undo_62 : decode cX6_undo 62 = .ok (.iload_n 1, 1) := by decide +kernel
theorem dX6_undo_63 : decode cX6_undo 63 = .ok (.iconst 1, 1) := by decide +kernel
theorem dX6_undo_64 : decode cX6_undo 64 = .ok (.iadd, 1) := by decide +kernel
theorem dX6_undo_65 : decode cX6_undo 65 = .ok (.iload_n 2, 1) := by decide +kernel
theorem dX6_undo_66 : decode cX6_undo 66 = .ok (.iadd, 1) := by decide +kernel
theorem dX6_undo_67 : decode cX6_undo 67 = .ok (.iaload, 1) := by decide +kernel
theorem dX6_undo_68 : decode cX6_undo 68 = .ok (.iastore, 1) := by decide +kernel
theorem dX6_undo_69 : decode cX6_undo 69 = .ok (.iinc 2 1, 3) := by decide +kernel
theorem dX6_undo_72 : decode cX6_undo 72 = .ok (.goto (-33), 3) := by decide +kernel
theorem dX6_undo_75 : decode cX6_undo 75 = .ok (.iconst 0, 1) := by decide +kernel
theorem dX6_undo_76 : decode cX6_undo 76 = .ok (.istore_n 2, 1) := by decide +kernel
theorem dX6_undo_77 : decode cX6_undo 77 = .ok (.iload_n 2, 1) := by decide +kernel
theorem dX6_undo_78 : decode cX6_undo 78 = .ok (.bipush 8, 2) := by decide +kernel
theorem dX6_undo_80 : decode cX6_undo 80 = .ok (.if_icmp .ge 43, 3) := by decide +kernel
theorem dX6_undo_83 : decode cX6_undo 83 = .ok (.aload_n 0, 1) := by decide +kernel
theorem dX6_undo_84 : decode cX6_undo 84 = .ok (.getfield 125, 3) := by decide +kernel
theorem dX6_undo_87 : decode cX6_undo 87 = .ok (.iload_n 2, 1) := by decide +kernel
theorem dX6_undo_88 : decode cX6_undo 88 = .ok (.aload_n 0, 1) := by decide +kernel
theorem dX6_undo_89 : decode cX6_undo 89 = .ok (.getfield 140, 3) := by decide +kernel
theorem dX6_undo_92 : decode cX6_undo 92 = .ok (.iload_n 1, 1) := by decide +kernel
theorem dX6_undo_93 : decode cX6_undo 93 = .ok (.bipush 37, 2) := by decide +kernel
theorem dX6_undo_95 : decode cX6_undo 95 = .ok (.iadd, 1) := by decide +kernel
theorem dX6_undo_96 : decode cX6_undo 96 = .ok (.iload_n 2, 1) := by decide +kernel
theorem dX6_undo_97 : decode cX6_undo 97 = .ok (.iadd, 1) := by decide +kernel
theorem dX6_undo_98 : decode cX6_undo 98 = .ok (.iaload, 1) := by decide +kernel
theorem dX6_undo_99 : decode cX6_undo 99 = .ok (.iastore, 1) := by decide +kernel
theorem dX6_undo_100 : decode cX6_undo 100 = .ok (.aload_n 0, 1) := by decide +kernel
theorem dX6_undo_101 : decode cX6_undo 101 = .ok (.getfield 128, 3) := by decide +kernel
theorem dX6_undo_104 : decode cX6_undo 104 = .ok (.iload_n 2, 1) := by decide +kernel
theorem dX6_undo_105 : decode cX6_undo 105 = .ok (.aload_n 0, 1) := by decide +kernel
theorem dX6_undo_106 : decode cX6_undo 106 = .ok (.getfield 140, 3) := by decide +kernel
theorem dX6_undo_109 : decode cX6_undo 109 = .ok (.iload_n 1, 1) := by decide +kernel
theorem dX6_undo_110 : decode cX6_undo 110 = .ok (.bipush 45, 2) := by decide +kernel
theorem dX6_undo_112 : decode cX6_undo 112 = .ok (.iadd, 1) := by decide +kernel
theorem dX6_undo_113 : decode cX6_undo 113 = .ok (.iload_n 2, 1) := by decide +kernel
theorem dX6_undo_114 : decode cX6_undo 114 = .ok (.iadd, 1) := by decide +kernel
theorem dX6_undo_115 : decode cX6_undo 115 = .ok (.iaload, 1) := by decide +kernel
theorem dX6_undo_116 : decode cX6_undo 116 = .ok (.iastore, 1) := by decide +kernel
theorem dX6_undo_117 : decode cX6_undo 117 = .ok (.iinc 2 1, 3) := by decide +kernel
theorem dX6_undo_120 : decode cX6_undo 120 = .ok (.goto (-43), 3) := by decide +kernel
theorem dX6_undo_123 : decode cX6_undo 123 = .ok (.iconst 1, 1) := by decide +kernel
theorem dX6_undo_124 : decode cX6_undo 124 = .ok (.ireturn, 1) := by decide +kernel
abbrev rm_X6_undo : Room := { frames := 0, cells := 0, slots := 0, locals := 0 }
def f_X6_undo_L39 (x1 : Int32) (z39 : Int32 × St) : Option ((Int32 × St) ⊕ (St)) :=
  if (36 : Int32) ≤ z39.1 then (some (.inr z39.2)) else (chk (ib ((x1 + (1 : Int32)) + z39.1) 1060) (chk (ib (((36 : Int32) * (st_I z39.2 (ky 0 53))) + z39.1) 10800) (lt_v (up_A z39.2 (ky 0 52) (upd (st_A z39.2 (ky 0 52)) (((36 : Int32) * (st_I z39.2 (ky 0 53))) + z39.1).toNatClampNeg (st_A z39.2 (ky 0 62) ((x1 + (1 : Int32)) + z39.1).toNatClampNeg))) (fun (S5 : St) => some (.inl ((z39.1 + 1), S5))))))
def f_X6_undo_L77 (x1 : Int32) (z77 : Int32 × St) : Option ((Int32 × St) ⊕ (Int32 × St)) :=
  if (8 : Int32) ≤ z77.1 then (some (.inr ((1 : Int32), z77.2))) else (chk (ib ((x1 + (37 : Int32)) + z77.1) 1060) (chk (ib z77.1 8) (lt_v (up_A z77.2 (ky 0 54) (upd (st_A z77.2 (ky 0 54)) z77.1.toNatClampNeg (st_A z77.2 (ky 0 62) ((x1 + (37 : Int32)) + z77.1).toNatClampNeg))) (fun (S8 : St) => chk (ib ((x1 + (45 : Int32)) + z77.1) 1060) (chk (ib z77.1 8) (lt_v (up_A S8 (ky 0 55) (upd (st_A S8 (ky 0 55)) z77.1.toNatClampNeg (st_A S8 (ky 0 62) ((x1 + (45 : Int32)) + z77.1).toNatClampNeg))) (fun (S9 : St) => some (.inl ((z77.1 + 1), S9)))))))))
def f_X6_undo (S : St)  : Option (Int32 × St) :=
  if (st_I S (ky 0 61)) = 0 then (some ((0 : Int32), S)) else (lt_v (up_I S (ky 0 61) ((st_I S (ky 0 61)) - (1 : Int32))) (fun (S2 : St) => chk (ib ((53 : Int32) * (st_I S2 (ky 0 61))) 1060) (lt_v (up_I S2 (ky 0 53) (st_A S2 (ky 0 62) ((53 : Int32) * (st_I S2 (ky 0 61))).toNatClampNeg)) (fun (S3 : St) => (iter (f_X6_undo_L39   ((53 : Int32) * (st_I S2 (ky 0 61)))) FU ((0 : Int32), S3)).bind (fun (S6 : St) => iter (f_X6_undo_L77   ((53 : Int32) * (st_I S2 (ky 0 61)))) FU ((0 : Int32), S6))))))
set_option maxRecDepth 100000 in
set_option maxHeartbeats 4000000 in
theorem k_X6_undo (l : Launch) (g : GG) (hg : gd wd_M g)  (hM : hs wd_M g 0 6) (S : St)  (q : Int32 × St) (hf : f_X6_undo  S  = some q) : Met l yX6_undo (Cond.code yX6_undo cX6_undo 3 (some .boolean) :: gw_tbl) rm_X6_undo (va_Pc [.ref (gg_o g 0)] (wI wd_M g S)) (qc_w wd_M g q) 0 0 (aw g) := by
  refine mt_start (own := RX6) hg (by decide) rfl (Nat.le_of_ble_eq_true rfl) (fun p e s m args below meth c ls H locs cx hw hr hlk hl => ?_)
  have hx := cx.1
  have hb := cx.2.1
  have hown := cx.2.2.2.1
  have hts := cx.2.2.2.2.1
  have hl : lv_has ls 3 [(0, .ref (gg_o g 0))] := hl
  replace hf := h_top hf
  unfold f_X6_undo at hf
  refine lv_aload_n hx hb dX6_undo_0 rfl (lv_at hl 0 rfl) ?_
  refine gf_X6_275 cx hw hM dX6_undo_1 ?_
  refine lv_if_ne hx hb dX6_undo_4 (tgt := 9) rfl (fun hc1 => ?_) (fun hc1 => ?_)
  · replace hf := h_neg hc1 hf
    refine lv_aload_n hx hb dX6_undo_9 rfl (lv_at hl 0 rfl) ?_
    refine lv_dup hx hb dX6_undo_10 rfl ?_
    refine gf_X6_275 cx hw hM dX6_undo_11 ?_
    refine lv_iconst (v := 1) hx hb dX6_undo_14 (by decide) ?_
    refine lv_isub hx hb dX6_undo_15 ?_
    refine pf_X6_275 cx hw hM hf dX6_undo_16 (fun S2 H locs hw hf => ?_)
    refine lv_bipush (v := 53) hx hb dX6_undo_19 (by decide) ?_
    refine lv_aload_n hx hb dX6_undo_21 rfl (lv_at hl 0 rfl) ?_
    refine gf_X6_275 cx hw hM dX6_undo_22 ?_
    refine lv_imul hx hb dX6_undo_25 ?_
    refine lv_istore_n hx hb dX6_undo_26 rfl hl (by decide) (lv' := [(1, .int ((53 : Int32) * (st_I S2 (ky 0 61)))), (0, .ref (gg_o g 0))]) rfl (fun ls hl => ?_)
    refine lv_aload_n hx hb dX6_undo_27 rfl (lv_at hl 1 rfl) ?_
    refine lv_aload_n hx hb dX6_undo_28 rfl (lv_at hl 1 rfl) ?_
    refine gf_X6_140 cx hw hM dX6_undo_29 ?_
    refine lv_iload_n hx hb dX6_undo_32 rfl (lv_at hl 0 rfl) ?_
    refine r_iald cx hw (hM.2.2.1 62 rfl) rfl rfl hf dX6_undo_33 (fun hf => ?_)
    refine pf_X6_345 cx hw hM hf dX6_undo_34 (fun S3 H locs hw hf => ?_)
    refine lv_iconst (v := 0) hx hb dX6_undo_37 (by decide) ?_
    refine lv_istore_n hx hb dX6_undo_38 rfl hl (by decide) (lv' := [(2, .int (0 : Int32)), (1, .int ((53 : Int32) * (st_I S2 (ky 0 61)))), (0, .ref (gg_o g 0))]) rfl (fun ls hl => ?_)
    have L39 : ∀ (x1 : Int32) (aft39 : St → Option (Int32 × St)), (∀ (ls : Array Slot) (H : Heap) (locs : List Loc) (S1 : St), lv_has ls 3 [(0, .ref (gg_o g 0)), (1, .int x1)] → HH wd_M g s S1 H locs → aft39 S1 = some q → W p l e rm_X6_undo s m args below meth c H locs 0 0 (MQ below (qc_w wd_M g q) args s 0 0 (aw g)) (F0 m 75 ls [])) → ∀ (n39 : Nat) (ls : Array Slot) (H : Heap) (locs : List Loc) (z39 : Int32 × St), lv_has ls 3 [(0, .ref (gg_o g 0)), (1, .int x1), (2, .int z39.1)] → HH wd_M g s z39.2 H locs → (iter (f_X6_undo_L39   x1) n39 z39).bind aft39 = some q → W p l e rm_X6_undo s m args below meth c H locs 0 0 (MQ below (qc_w wd_M g q) args s 0 0 (aw g)) (F0 m 39 ls []) := by
      intro x1 aft39 hX39 n39
      induction n39 with
      | zero => intro ls H locs z39 hl hw hf; exact h_iter0 hf
      | succ n39 ih39 =>
        intro ls H locs z39 hl hw hf
        replace hf := h_iter hf
        unfold f_X6_undo_L39 at hf
        refine lv_iload_n hx hb dX6_undo_39 rfl (lv_at hl 2 rfl) ?_
        refine lv_bipush (v := 36) hx hb dX6_undo_40 (by decide) ?_
        refine lv_icmp_ge hx hb dX6_undo_42 (tgt := 75) rfl (fun hc4 => ?_) (fun hc4 => ?_)
        · replace hf := h_pos hc4 hf
          exact hX39 _ _ _ z39.2 (lv_sub hl [0, 1] rfl) hw hf
        replace hf := h_neg hc4 hf
        refine lv_aload_n hx hb dX6_undo_45 rfl (lv_at hl 0 rfl) ?_
        refine gf_X6_122 cx hw hM dX6_undo_46 ?_
        refine lv_bipush (v := 36) hx hb dX6_undo_49 (by decide) ?_
        refine lv_aload_n hx hb dX6_undo_51 rfl (lv_at hl 0 rfl) ?_
        refine gf_X6_345 cx hw hM dX6_undo_52 ?_
        refine lv_imul hx hb dX6_undo_55 ?_
        refine lv_iload_n hx hb dX6_undo_56 rfl (lv_at hl 2 rfl) ?_
        refine lv_iadd hx hb dX6_undo_57 ?_
        refine lv_aload_n hx hb dX6_undo_58 rfl (lv_at hl 0 rfl) ?_
        refine gf_X6_140 cx hw hM dX6_undo_59 ?_
        refine lv_iload_n hx hb dX6_undo_62 rfl (lv_at hl 1 rfl) ?_
        refine lv_iconst (v := 1) hx hb dX6_undo_63 (by decide) ?_
        refine lv_iadd hx hb dX6_undo_64 ?_
        refine lv_iload_n hx hb dX6_undo_65 rfl (lv_at hl 2 rfl) ?_
        refine lv_iadd hx hb dX6_undo_66 ?_
        refine r_iald cx hw (hM.2.2.1 62 rfl) rfl rfl hf dX6_undo_67 (fun hf => ?_)
        refine r_iast cx hw (hM.2.2.1 52 rfl) rfl rfl hf dX6_undo_68 (fun S5 H locs hw hf => ?_)
        refine lv_iinc hx hb dX6_undo_69 hl (k := 2) rfl (congrArg (HAdd.hAdd _) (show Int32.ofInt (1) = 1 by decide)) (by decide) (lv' := [(2, .int (z39.1 + 1)), (0, .ref (gg_o g 0)), (1, .int x1)]) rfl (fun ls hl => ?_)
        refine lv_goto hx hb dX6_undo_72 (tgt := 39) rfl ?_
        exact ih39 _ _ _ ((z39.1 + 1), S5) (lv_sub hl [1, 2, 0] rfl) hw hf
    refine L39 ((53 : Int32) * (st_I S2 (ky 0 61))) _ (fun ls H locs S6 hl hw hf => ?_) FU _ _ _ ((0 : Int32), S3) (lv_sub hl [2, 1, 0] rfl) hw (h_assoc hf)
    try dsimp only at hf
    refine lv_iconst (v := 0) hx hb dX6_undo_75 (by decide) ?_
    refine lv_istore_n hx hb dX6_undo_76 rfl hl (by decide) (lv' := [(2, .int (0 : Int32)), (0, .ref (gg_o g 0)), (1, .int ((53 : Int32) * (st_I S2 (ky 0 61))))]) rfl (fun ls hl => ?_)
    have L77 : ∀ (x1 : Int32) (aft77 : (Int32 × St) → Option (Int32 × St)), (∀ v : Int32 × St, aft77 v = some q → (some v : Option (Int32 × St)).bind some = some q) → ∀ (n77 : Nat) (ls : Array Slot) (H : Heap) (locs : List Loc) (z77 : Int32 × St), lv_has ls 3 [(0, .ref (gg_o g 0)), (1, .int x1), (2, .int z77.1)] → HH wd_M g s z77.2 H locs → (iter (f_X6_undo_L77   x1) n77 z77).bind aft77 = some q → W p l e rm_X6_undo s m args below meth c H locs 0 0 (MQ below (qc_w wd_M g q) args s 0 0 (aw g)) (F0 m 77 ls []) := by
      intro x1 aft77 hR77 n77
      induction n77 with
      | zero => intro ls H locs z77 hl hw hf; exact h_iter0 hf
      | succ n77 ih77 =>
        intro ls H locs z77 hl hw hf
        replace hf := h_iter hf
        unfold f_X6_undo_L77 at hf
        refine lv_iload_n hx hb dX6_undo_77 rfl (lv_at hl 2 rfl) ?_
        refine lv_bipush (v := 8) hx hb dX6_undo_78 (by decide) ?_
        refine lv_icmp_ge hx hb dX6_undo_80 (tgt := 123) rfl (fun hc7 => ?_) (fun hc7 => ?_)
        · replace hf := h_pos hc7 hf
          refine lv_iconst (v := 1) hx hb dX6_undo_123 (by decide) ?_
          replace hf := hR77 ((1 : Int32), z77.2) hf
          exact r_zretw cx hw hr hlk (Or.inr rfl) hf dX6_undo_124
        replace hf := h_neg hc7 hf
        refine lv_aload_n hx hb dX6_undo_83 rfl (lv_at hl 0 rfl) ?_
        refine gf_X6_125 cx hw hM dX6_undo_84 ?_
        refine lv_iload_n hx hb dX6_undo_87 rfl (lv_at hl 2 rfl) ?_
        refine lv_aload_n hx hb dX6_undo_88 rfl (lv_at hl 0 rfl) ?_
        refine gf_X6_140 cx hw hM dX6_undo_89 ?_
        refine lv_iload_n hx hb dX6_undo_92 rfl (lv_at hl 1 rfl) ?_
        refine lv_bipush (v := 37) hx hb dX6_undo_93 (by decide) ?_
        refine lv_iadd hx hb dX6_undo_95 ?_
        refine lv_iload_n hx hb dX6_undo_96 rfl (lv_at hl 2 rfl) ?_
        refine lv_iadd hx hb dX6_undo_97 ?_
        refine r_iald cx hw (hM.2.2.1 62 rfl) rfl rfl hf dX6_undo_98 (fun hf => ?_)
        refine r_iast cx hw (hM.2.2.1 54 rfl) rfl rfl hf dX6_undo_99 (fun S8 H locs hw hf => ?_)
        refine lv_aload_n hx hb dX6_undo_100 rfl (lv_at hl 0 rfl) ?_
        refine gf_X6_128 cx hw hM dX6_undo_101 ?_
        refine lv_iload_n hx hb dX6_undo_104 rfl (lv_at hl 2 rfl) ?_
        refine lv_aload_n hx hb dX6_undo_105 rfl (lv_at hl 0 rfl) ?_
        refine gf_X6_140 cx hw hM dX6_undo_106 ?_
        refine lv_iload_n hx hb dX6_undo_109 rfl (lv_at hl 1 rfl) ?_
        refine lv_bipush (v := 45) hx hb dX6_undo_110 (by decide) ?_
        refine lv_iadd hx hb dX6_undo_112 ?_
        refine lv_iload_n hx hb dX6_undo_113 rfl (lv_at hl 2 rfl) ?_
        refine lv_iadd hx hb dX6_undo_114 ?_
        refine r_iald cx hw (hM.2.2.1 62 rfl) rfl rfl hf dX6_undo_115 (fun hf => ?_)
        refine r_iast cx hw (hM.2.2.1 55 rfl) rfl rfl hf dX6_undo_116 (fun S9 H locs hw hf => ?_)
        refine lv_iinc hx hb dX6_undo_117 hl (k := 2) rfl (congrArg (HAdd.hAdd _) (show Int32.ofInt (1) = 1 by decide)) (by decide) (lv' := [(2, .int (z77.1 + 1)), (0, .ref (gg_o g 0)), (1, .int x1)]) rfl (fun ls hl => ?_)
        refine lv_goto hx hb dX6_undo_120 (tgt := 77) rfl ?_
        exact ih77 _ _ _ ((z77.1 + 1), S9) (lv_sub hl [1, 2, 0] rfl) hw hf
    exact L77 ((53 : Int32) * (st_I S2 (ky 0 61))) some (fun v h => h) FU _ _ _ ((0 : Int32), S6) (lv_sub hl [1, 2, 0] rfl) hw hf
  replace hf := h_pos hc1 hf
  refine lv_iconst (v := 0) hx hb dX6_undo_7 (by decide) ?_
  exact r_zretw cx hw hr hlk (Or.inl rfl) hf dX6_undo_8
theorem dX6_seenIn_0 : decode cX6_seenIn 0 = .ok (.iload_n 2, 1) := by decide +kernel
theorem dX6_seenIn_1 : decode cX6_seenIn 1 = .ok (.ifCond .lt 23, 3) := by decide +kernel
theorem dX6_seenIn_4 : decode cX6_seenIn 4 = .ok (.iload_n 1, 1) := by decide +kernel
theorem dX6_seenIn_5 : decode cX6_seenIn 5 = .ok (.iload_n 3, 1) := by decide +kernel
theorem dX6_seenIn_6 : decode cX6_seenIn 6 = .ok (.if_icmp .eq 18, 3) := by decide +kernel
theorem dX6_seenIn_9 : decode cX6_seenIn 9 = .ok (.aload_n 0, 1) := by decide +kernel
theorem dX6_seenIn_10 : decode cX6_seenIn 10 = .ok (.iload_n 3, 1) := by decide +kernel
theorem dX6_seenIn_11 : decode cX6_seenIn 11 = .ok (.iload_n 2, 1) := by decide +kernel
theorem dX6_seenIn_12 : decode cX6_seenIn 12 = .ok (.invokevirtual 392, 3) := by decide +kernel
theorem dX6_seenIn_15 : decode cX6_seenIn 15 = .ok (.aload_n 0, 1) := by decide +kernel
theorem dX6_seenIn_16 : decode cX6_seenIn 16 = .ok (.iload_n 1, 1) := by decide +kernel
theorem dX6_seenIn_17 : decode cX6_seenIn 17 = .ok (.iload_n 2, 1) := by decide +kernel
theorem dX6_seenIn_18 : decode cX6_seenIn 18 = .ok (.invokevirtual 392, 3) := by decide +kernel
theorem dX6_seenIn_21 : decode cX6_seenIn 21 = .ok (.if_icmp .eq 8, 3) := by decide +kernel
theorem dX6_seenIn_24 : decode cX6_seenIn 24 = .ok (.bipush (-2), 2) := by decide +kernel
theorem dX6_seenIn_26 : decode cX6_seenIn 26 = .ok (.goto 9, 3) := by decide +kernel
theorem dX6_seenIn_29 : decode cX6_seenIn 29 = .ok (.aload_n 0, 1) := by decide +kernel
theorem dX6_seenIn_30 : decode cX6_seenIn 30 = .ok (.iload_n 3, 1) := by decide +kernel
theorem dX6_seenIn_31 : decode cX6_seenIn 31 = .ok (.iload_n 2, 1) := by decide +kernel
theorem dX6_seenIn_32 : decode cX6_seenIn 32 = .ok (.invokevirtual 395, 3) := by decide +kernel
theorem dX6_seenIn_35 : decode cX6_seenIn 35 = .ok (.ireturn, 1) := by decide +kernel
abbrev rm_X6_seenIn : Room := { frames := 2, cells := 0, slots := 0, locals := 45 }
def f_X6_seenIn (S : St) (x1 : Int32) (x2 : Int32) (x3 : Int32) : Option (Int32) :=
  if x2 < 0 then (some (-2 : Int32)) else (if x1 = x3 then (some (-2 : Int32)) else ((f_X6_hungIn  S x3 x2).bind (fun (q3 : Int32) => (f_X6_hungIn  S x1 x2).bind (fun (q4 : Int32) => if q3 = q4 then ((f_X6_showsAt  S x3 x2).bind (fun (q6 : Int32) => some q6)) else (some (-2 : Int32))))))
set_option maxRecDepth 100000 in
set_option maxHeartbeats 4000000 in
theorem k_X6_seenIn (l : Launch) (g : GG) (hg : gd wd_M g)  (hM : hs wd_M g 0 6) (S : St) (x1 : Int32) (x2 : Int32) (x3 : Int32) (q : Int32) (hf : f_X6_seenIn  S x1 x2 x3 = some q) : Met l yX6_seenIn (Cond.code yX6_seenIn cX6_seenIn 4 (some .int) :: gw_tbl) rm_X6_seenIn (va_Pc [.ref (gg_o g 0), .int x1, .int x2, .int x3] (wI wd_M g S)) (qc_i wd_M g S q) 0 0 (aw g) := by
  refine mt_start (own := RX6) hg (by decide) rfl (Nat.le_of_ble_eq_true rfl) (fun p e s m args below meth c ls H locs cx hw hr hlk hl => ?_)
  have hx := cx.1
  have hb := cx.2.1
  have hown := cx.2.2.2.1
  have hts := cx.2.2.2.2.1
  have hl : lv_has ls 4 [(0, .ref (gg_o g 0)), (1, .int x1), (2, .int x2), (3, .int x3)] := hl
  replace hf := h_top hf
  unfold f_X6_seenIn at hf
  refine lv_iload_n hx hb dX6_seenIn_0 rfl (lv_at hl 2 rfl) ?_
  refine lv_if_lt hx hb dX6_seenIn_1 (tgt := 24) rfl (fun hc1 => ?_) (fun hc1 => ?_)
  · replace hf := h_pos hc1 hf
    refine lv_bipush (v := -2) hx hb dX6_seenIn_24 (by decide) ?_
    refine lv_goto hx hb dX6_seenIn_26 (tgt := 35) rfl ?_
    exact r_iret cx hw hr hlk hf dX6_seenIn_35
  replace hf := h_neg hc1 hf
  refine lv_iload_n hx hb dX6_seenIn_4 rfl (lv_at hl 1 rfl) ?_
  refine lv_iload_n hx hb dX6_seenIn_5 rfl (lv_at hl 3 rfl) ?_
  refine lv_icmp_eq hx hb dX6_seenIn_6 (tgt := 24) rfl (fun hc2 => ?_) (fun hc2 => ?_)
  · replace hf := h_pos hc2 hf
    refine lv_bipush (v := -2) hx hb dX6_seenIn_24 (by decide) ?_
    refine lv_goto hx hb dX6_seenIn_26 (tgt := 35) rfl ?_
    exact r_iret cx hw hr hlk hf dX6_seenIn_35
  replace hf := h_neg hc2 hf
  refine lv_aload_n hx hb dX6_seenIn_9 rfl (lv_at hl 0 rfl) ?_
  refine lv_iload_n hx hb dX6_seenIn_10 rfl (lv_at hl 3 rfl) ?_
  refine lv_iload_n hx hb dX6_seenIn_11 rfl (lv_at hl 2 rfl) ?_
  refine r_V_i (As := [.int x3, .int x2]) (rest := []) cx hw hf hM.2.1 (by rw [hM.1]; rfl) lk_X6_392 (fun q3 hq => k_X6_hungIn l g hg  hM S x3 x2 q3 hq) ⟨⟨rfl, rfl⟩, Nat.le_of_ble_eq_true rfl, Nat.le_of_ble_eq_true rfl⟩ rfl hl.1 rfl (Nat.le_of_ble_eq_true rfl) dX6_seenIn_12 ⟨Nat.zero_le _, Nat.zero_le _⟩ (fun q3 H locs hw hf => ?_)
  refine lv_aload_n hx hb dX6_seenIn_15 rfl (lv_at hl 0 rfl) ?_
  refine lv_iload_n hx hb dX6_seenIn_16 rfl (lv_at hl 1 rfl) ?_
  refine lv_iload_n hx hb dX6_seenIn_17 rfl (lv_at hl 2 rfl) ?_
  refine r_V_i (As := [.int x1, .int x2]) (rest := [.int q3]) cx hw hf hM.2.1 (by rw [hM.1]; rfl) lk_X6_392 (fun q4 hq => k_X6_hungIn l g hg  hM S x1 x2 q4 hq) ⟨⟨rfl, rfl⟩, Nat.le_of_ble_eq_true rfl, Nat.le_of_ble_eq_true rfl⟩ rfl hl.1 rfl (Nat.le_of_ble_eq_true rfl) dX6_seenIn_18 ⟨Nat.zero_le _, Nat.zero_le _⟩ (fun q4 H locs hw hf => ?_)
  refine lv_icmp_eq hx hb dX6_seenIn_21 (tgt := 29) rfl (fun hc5 => ?_) (fun hc5 => ?_)
  · replace hf := h_pos hc5 hf
    refine lv_aload_n hx hb dX6_seenIn_29 rfl (lv_at hl 0 rfl) ?_
    refine lv_iload_n hx hb dX6_seenIn_30 rfl (lv_at hl 3 rfl) ?_
    refine lv_iload_n hx hb dX6_seenIn_31 rfl (lv_at hl 2 rfl) ?_
    refine r_V_i (As := [.int x3, .int x2]) (rest := []) cx hw hf hM.2.1 (by rw [hM.1]; rfl) lk_X6_395 (fun q6 hq => k_X6_showsAt l g hg  hM S x3 x2 q6 hq) ⟨⟨rfl, rfl⟩, Nat.le_of_ble_eq_true rfl, Nat.le_of_ble_eq_true rfl⟩ rfl hl.1 rfl (Nat.le_of_ble_eq_true rfl) dX6_seenIn_32 ⟨Nat.zero_le _, Nat.zero_le _⟩ (fun q6 H locs hw hf => ?_)
    exact r_iret cx hw hr hlk hf dX6_seenIn_35
  replace hf := h_neg hc5 hf
  refine lv_bipush (v := -2) hx hb dX6_seenIn_24 (by decide) ?_
  refine lv_goto hx hb dX6_seenIn_26 (tgt := 35) rfl ?_
  exact r_iret cx hw hr hlk hf dX6_seenIn_35
theorem dX6_look_0 : decode cX6_look 0 = .ok (.aload_n 0, 1) := by decide +kernel
theorem dX6_look_1 : decode cX6_look 1 = .ok (.iload_n 1, 1) := by decide +kernel
theorem dX6_look_2 : decode cX6_look 2 = .ok (.invokevirtual 416, 3) := by decide +kernel
theorem dX6_look_5 : decode cX6_look 5 = .ok (.ifCond .eq 34, 3) := by decide +kernel
theorem dX6_look_8 : decode cX6_look 8 = .ok (.aload_n 0, 1) := by decide +kernel
theorem dX6_look_9 : decode cX6_look 9 = .ok (.iload_n 2, 1) := by decide +kernel
theorem dX6_look_10 : decode cX6_look 10 = .ok (.invokevirtual 416, 3) := by decide +kernel
theorem dX6_look_13 : decode cX6_look 13 = .ok (.ifCond .eq 26, 3) := by decide +kernel
theorem dX6_look_16 : decode cX6_look 16 = .ok (.iload_n 3, 1) := by decide +kernel
theorem dX6_look_17 : decode cX6_look 17 = .ok (.iconst (-1), 1) := by decide +kernel
theorem dX6_look_18 : decode cX6_look 18 = .ok (.if_icmp .eq 11, 3) := by decide +kernel
theorem dX6_look_21 : decode cX6_look 21 = .ok (.aload_n 0, 1) := by decide +kernel
theorem dX6_look_22 : decode cX6_look 22 = .ok (.iload_n 3, 1) := by decide +kernel
theorem dX6_look_23 : decode cX6_look 23 = .ok (.invokevirtual 416, 3) := by decide +kernel
theorem dX6_look_26 : decode cX6_look 26 = .ok (.ifCond .eq 13, 3) := by decide +kernel
theorem dX6_look_29 : decode cX6_look 29 = .ok (.iload 4, 2) := by decide +kernel
theorem dX6_look_31 : decode cX6_look 31 = .ok (.iconst 0, 1) := by decide +kernel
theorem dX6_look_32 : decode cX6_look 32 = .ok (.iconst 2, 1) := by decide +kernel
theorem dX6_look_33 : decode cX6_look 33 = .ok (.invokestatic 341, 3) := by decide +kernel
theorem dX6_look_36 : decode cX6_look 36 = .ok (.ifCond .ne 5, 3) := by decide +kernel
theorem dX6_look_39 : decode cX6_look 39 = .ok (.iconst (-1), 1) := by decide +kernel
theorem dX6_look_40 : decode cX6_look 40 = .ok (.ireturn, 1) := by decide +kernel
theorem dX6_look_41 : decode cX6_look 41 = .ok (.aload_n 0, 1) := by decide +kernel
theorem dX6_look_42 : decode cX6_look 42 = .ok (.invokevirtual 419, 3) := by decide +kernel
theorem dX6_look_45 : decode cX6_look 45 = .ok (.iload_n 3, 1) := by decide +kernel
theorem dX6_look_46 : decode cX6_look 46 = .ok (.iconst (-1), 1) := by decide +kernel
theorem dX6_look_47 : decode cX6_look 47 = .ok (.if_icmp .ne 7, 3) := by decide +kernel
theorem dX6_look_50 : decode cX6_look 50 = .ok (.iload_n 2, 1) := by decide +kernel
theorem dX6_look_51 : decode cX6_look 51 = .ok (.goto 4, 3) := by decide +kernel
theorem dX6_look_54 : decode cX6_look 54 = .ok (.iload_n 3, 1) := by decide +kernel
theorem dX6_look_55 : decode cX6_look 55 = .ok (.istore 5, 2) := by decide +kernel
theorem dX6_look_57 : decode cX6_look 57 = .ok (.aload_n 0, 1) := by decide +kernel
theorem dX6_look_58 : decode cX6_look 58 = .ok (.iload_n 1, 1) := by decide +kernel
theorem dX6_look_59 : decode cX6_look 59 = .ok (.aload_n 0, 1) := by decide +kernel
theorem dX6_look_60 : decode cX6_look 60 = .ok (.iload_n 1, 1) := by decide +kernel
theorem dX6_look_61 : decode cX6_look 61 = .ok (.aload_n 0, 1) := by decide +kernel
theorem dX6_look_62 : decode cX6_look 62 = .ok (.getfield 348, 3) := by decide +kernel
theorem dX6_look_65 : decode cX6_look 65 = .ok (.invokevirtual 395, 3) := by decide +kernel
theorem dX6_look_68 : decode cX6_look 68 = .ok (.iload_n 2, 1) := by decide +kernel
theorem dX6_look_69 : decode cX6_look 69 = .ok (.invokevirtual 440, 3) := by decide +kernel
theorem dX6_look_72 : decode cX6_look 72 = .ok (.istore 6, 2) := by decide +kernel
theorem dX6_look_74 : decode cX6_look 74 = .ok (.iload_n 3, 1) := by decide +kernel
theorem dX6_look_75 : decode cX6_look 75 = .ok (.iconst (-1), 1) := by decide +kernel
theorem dX6_look_76 : decode cX6_look 76 = .ok (.if_icmp .eq 13, 3) := by decide +kernel
theorem dX6_look_79 : decode cX6_look 79 = .ok (.aload_n 0, 1) := by decide +kernel
theorem dX6_look_80 : decode cX6_look 80 = .ok (.iload_n 2, 1) := by decide +kernel
theorem dX6_look_81 : decode cX6_look 81 = .ok (.iload 6, 2) := by decide +kernel
theorem dX6_look_83 : decode cX6_look 83 = .ok (.iload_n 3, 1) := by decide +kernel
theorem dX6_look_84 : decode cX6_look 84 = .ok (.invokevirtual 440, 3) := by decide +kernel
theorem dX6_look_87 : decode cX6_look 87 = .ok (.istore 6, 2) := by decide +kernel
theorem dX6_look_89 : decode cX6_look 89 = .ok (.iload 6, 2) := by decide +kernel
theorem dX6_look_91 : decode cX6_look 91 = .ok (.ifCond .ge 6, 3) := by decide +kernel
theorem dX6_look_94 : decode cX6_look 94 = .ok (.bipush (-2), 2) := by decide +kernel
theorem dX6_look_96 : decode cX6_look 96 = .ok (.ireturn, 1) := by decide +kernel
theorem dX6_look_97 : decode cX6_look 97 = .ok (.iload 4, 2) := by decide +kernel
theorem dX6_look_99 : decode cX6_look 99 = .ok (.ifCond .ne 8, 3) := by decide +kernel
theorem dX6_look_102 : decode cX6_look 102 = .ok (.iload 6, 2) := by decide +kernel
theorem dX6_look_104 : decode cX6_look 104 = .ok (.goto 28, 3) := by decide +kernel
theorem dX6_look_107 : decode cX6_look 107 = .ok (.iload 4, 2) := by decide +kernel
theorem dX6_look_109 : decode cX6_look 109 = .ok (.iconst 1, 1) := by decide +kernel
theorem dX6_look_110 : decode cX6_look 110 = .ok (.if_icmp .ne 14, 3) := by decide +kernel
theorem dX6_look_113 : decode cX6_look 113 = .ok (.aload_n 0, 1) := by decide +kernel
theorem dX6_look_114 : decode cX6_look 114 = .ok (.iload 5, 2) := by decide +kernel
theorem dX6_look_116 : decode cX6_look 116 = .ok (.iload 6, 2) := by decide +kernel
theorem dX6_look_118 : decode cX6_look 118 = .ok (.invokevirtual 392, 3) := by decide +kernel
theorem dX6_look_121 : decode cX6_look 121 = .ok (.goto 11, 3) := by decide +kernel
theorem dX6_look_124 : decode cX6_look 124 = .ok (.aload_n 0, 1) := by decide +kernel
theorem dX6_look_125 : decode cX6_look 125 = .ok (.iload 5, 2) := by decide +kernel
theorem dX6_look_127 : decode cX6_look 127 = .ok (.iload 6, 2) := by decide +kernel
theorem dX6_look_129 : decode cX6_look 129 = .ok (.invokevirtual 422, 3) := by decide +kernel
theorem dX6_look_132 : decode cX6_look 132 = .ok (.ireturn, 1) := by decide +kernel
abbrev rm_X6_look : Room := { frames := 3, cells := 0, slots := 0, locals := 68 }
def f_X6_look_J89 (S : St) (x4 : Int32) (x5 : Int32) (x6 : Int32) : Option (Int32 × St) :=
  if 0 ≤ x6 then (if x4 = 0 then (some (x6, S)) else (if x4 = (1 : Int32) then ((f_X6_hungIn  S x5 x6).bind (fun (q17 : Int32) => some (q17, S))) else ((f_X6_menShown  S x5 x6).bind (fun (q16 : Int32) => some (q16, S))))) else (some ((-2 : Int32), S))
def f_X6_look_J55 (S : St) (x1 : Int32) (x2 : Int32) (x3 : Int32) (x4 : Int32) (y0 : Int32) : Option (Int32 × St) :=
  (f_X6_showsAt  S x1 (st_I S (ky 0 57))).bind (fun (q10 : Int32) => (f_X6_seenIn  S x1 q10 x2).bind (fun (q11 : Int32) => if x3 = (-1 : Int32) then (f_X6_look_J89  S x4 y0 q11) else ((f_X6_seenIn  S x2 q11 x3).bind (fun (q18 : Int32) => f_X6_look_J89  S x4 y0 q18))))
def f_X6_look_J29 (S : St) (x1 : Int32) (x2 : Int32) (x3 : Int32) (x4 : Int32) : Option (Int32 × St) :=
  (f_X6_in   x4 (0 : Int32) (2 : Int32)).bind (fun (q6 : Int32) => if q6 = 0 then (some ((-1 : Int32), S)) else ((f_X6_copies  S ).bind (fun (q8 : St) => if x3 = (-1 : Int32) then (f_X6_look_J55  q8 x1 x2 x3 x4 x2) else (f_X6_look_J55  q8 x1 x2 x3 x4 x3))))
def f_X6_look (S : St) (x1 : Int32) (x2 : Int32) (x3 : Int32) (x4 : Int32) : Option (Int32 × St) :=
  (f_X6_isMirror  S x1).bind (fun (q1 : Int32) => if q1 = 0 then (some ((-1 : Int32), S)) else ((f_X6_isMirror  S x2).bind (fun (q3 : Int32) => if q3 = 0 then (some ((-1 : Int32), S)) else (if x3 = (-1 : Int32) then (f_X6_look_J29  S x1 x2 x3 x4) else ((f_X6_isMirror  S x3).bind (fun (q19 : Int32) => if q19 = 0 then (some ((-1 : Int32), S)) else (f_X6_look_J29  S x1 x2 x3 x4)))))))
set_option maxRecDepth 100000 in
set_option maxHeartbeats 4000000 in
theorem k_X6_look (l : Launch) (g : GG) (hg : gd wd_M g)  (hM : hs wd_M g 0 6) (S : St) (x1 : Int32) (x2 : Int32) (x3 : Int32) (x4 : Int32) (q : Int32 × St) (hf : f_X6_look  S x1 x2 x3 x4 = some q) : Met l yX6_look (Cond.code yX6_look cX6_look 7 (some .int) :: gw_tbl) rm_X6_look (va_Pc [.ref (gg_o g 0), .int x1, .int x2, .int x3, .int x4] (wI wd_M g S)) (qc_w wd_M g q) 0 0 (aw g) := by
  refine mt_start (own := RX6) hg (by decide) rfl (Nat.le_of_ble_eq_true rfl) (fun p e s m args below meth c ls H locs cx hw hr hlk hl => ?_)
  have hx := cx.1
  have hb := cx.2.1
  have hown := cx.2.2.2.1
  have hts := cx.2.2.2.2.1
  have hl : lv_has ls 7 [(0, .ref (gg_o g 0)), (1, .int x1), (2, .int x2), (3, .int x3), (4, .int x4)] := hl
  replace hf := h_top hf
  unfold f_X6_look at hf
  have J89 : ∀ (ls : Array Slot) (H : Heap) (locs : List Loc) (S : St) (x4 : Int32) (x5 : Int32) (x6 : Int32), lv_has ls 7 [(0, .ref (gg_o g 0)), (4, .int x4), (5, .int x5), (6, .int x6)] → HH wd_M g s S H locs → (f_X6_look_J89  S x4 x5 x6).bind some = some q → W p l e rm_X6_look s m args below meth c H locs 0 0 (MQ below (qc_w wd_M g q) args s 0 0 (aw g)) (F0 m 89 ls []) := by
    intro ls H locs S x4 x5 x6 hl hw hf
    unfold f_X6_look_J89 at hf
    refine lv_iload hx hb dX6_look_89 (lv_at hl 3 rfl) ?_
    refine lv_if_ge hx hb dX6_look_91 (tgt := 97) rfl (fun hc13 => ?_) (fun hc13 => ?_)
    · replace hf := h_pos hc13 hf
      refine lv_iload hx hb dX6_look_97 (lv_at hl 1 rfl) ?_
      refine lv_if_ne hx hb dX6_look_99 (tgt := 107) rfl (fun hc14 => ?_) (fun hc14 => ?_)
      · replace hf := h_neg hc14 hf
        refine lv_iload hx hb dX6_look_107 (lv_at hl 1 rfl) ?_
        refine lv_iconst (v := 1) hx hb dX6_look_109 (by decide) ?_
        refine lv_icmp_ne hx hb dX6_look_110 (tgt := 124) rfl (fun hc15 => ?_) (fun hc15 => ?_)
        · replace hf := h_neg hc15 hf
          refine lv_aload_n hx hb dX6_look_124 rfl (lv_at hl 0 rfl) ?_
          refine lv_iload hx hb dX6_look_125 (lv_at hl 2 rfl) ?_
          refine lv_iload hx hb dX6_look_127 (lv_at hl 3 rfl) ?_
          refine r_V_i (As := [.int x5, .int x6]) (rest := []) cx hw hf hM.2.1 (by rw [hM.1]; rfl) lk_X6_422 (fun q16 hq => k_X6_menShown l g hg  hM S x5 x6 q16 hq) ⟨⟨rfl, rfl⟩, Nat.le_of_ble_eq_true rfl, Nat.le_of_ble_eq_true rfl⟩ rfl hl.1 rfl (Nat.le_of_ble_eq_true rfl) dX6_look_129 ⟨Nat.zero_le _, Nat.zero_le _⟩ (fun q16 H locs hw hf => ?_)
          exact r_iretw cx hw hr hlk hf dX6_look_132
        replace hf := h_pos hc15 hf
        refine lv_aload_n hx hb dX6_look_113 rfl (lv_at hl 0 rfl) ?_
        refine lv_iload hx hb dX6_look_114 (lv_at hl 2 rfl) ?_
        refine lv_iload hx hb dX6_look_116 (lv_at hl 3 rfl) ?_
        refine r_V_i (As := [.int x5, .int x6]) (rest := []) cx hw hf hM.2.1 (by rw [hM.1]; rfl) lk_X6_392 (fun q17 hq => k_X6_hungIn l g hg  hM S x5 x6 q17 hq) ⟨⟨rfl, rfl⟩, Nat.le_of_ble_eq_true rfl, Nat.le_of_ble_eq_true rfl⟩ rfl hl.1 rfl (Nat.le_of_ble_eq_true rfl) dX6_look_118 ⟨Nat.zero_le _, Nat.zero_le _⟩ (fun q17 H locs hw hf => ?_)
        refine lv_goto hx hb dX6_look_121 (tgt := 132) rfl ?_
        exact r_iretw cx hw hr hlk hf dX6_look_132
      replace hf := h_pos hc14 hf
      refine lv_iload hx hb dX6_look_102 (lv_at hl 3 rfl) ?_
      refine lv_goto hx hb dX6_look_104 (tgt := 132) rfl ?_
      exact r_iretw cx hw hr hlk hf dX6_look_132
    replace hf := h_neg hc13 hf
    refine lv_bipush (v := -2) hx hb dX6_look_94 (by decide) ?_
    exact r_iretw cx hw hr hlk hf dX6_look_96
  have J55 : ∀ (ls : Array Slot) (H : Heap) (locs : List Loc) (S : St) (x1 : Int32) (x2 : Int32) (x3 : Int32) (x4 : Int32) (y0 : Int32), lv_has ls 7 [(0, .ref (gg_o g 0)), (1, .int x1), (2, .int x2), (3, .int x3), (4, .int x4)] → HH wd_M g s S H locs → (f_X6_look_J55  S x1 x2 x3 x4 y0).bind some = some q → W p l e rm_X6_look s m args below meth c H locs 0 0 (MQ below (qc_w wd_M g q) args s 0 0 (aw g)) (F0 m 55 ls [.int y0]) := by
    intro ls H locs S x1 x2 x3 x4 y0 hl hw hf
    unfold f_X6_look_J55 at hf
    refine lv_istore hx hb dX6_look_55 hl (by decide) (lv' := [(5, .int y0), (0, .ref (gg_o g 0)), (1, .int x1), (2, .int x2), (3, .int x3), (4, .int x4)]) rfl (fun ls hl => ?_)
    refine lv_aload_n hx hb dX6_look_57 rfl (lv_at hl 1 rfl) ?_
    refine lv_iload_n hx hb dX6_look_58 rfl (lv_at hl 2 rfl) ?_
    refine lv_aload_n hx hb dX6_look_59 rfl (lv_at hl 1 rfl) ?_
    refine lv_iload_n hx hb dX6_look_60 rfl (lv_at hl 2 rfl) ?_
    refine lv_aload_n hx hb dX6_look_61 rfl (lv_at hl 1 rfl) ?_
    refine gf_X6_348 cx hw hM dX6_look_62 ?_
    refine r_V_i (As := [.int x1, .int (st_I S (ky 0 57))]) (rest := [.int x1, .ref (gg_o g 0)]) cx hw hf hM.2.1 (by rw [hM.1]; rfl) lk_X6_395 (fun q10 hq => k_X6_showsAt l g hg  hM S x1 (st_I S (ky 0 57)) q10 hq) ⟨⟨rfl, rfl⟩, Nat.le_of_ble_eq_true rfl, Nat.le_of_ble_eq_true rfl⟩ rfl hl.1 rfl (Nat.le_of_ble_eq_true rfl) dX6_look_65 ⟨Nat.zero_le _, Nat.zero_le _⟩ (fun q10 H locs hw hf => ?_)
    refine lv_iload_n hx hb dX6_look_68 rfl (lv_at hl 3 rfl) ?_
    refine r_V_i (As := [.int x1, .int q10, .int x2]) (rest := []) cx hw hf hM.2.1 (by rw [hM.1]; rfl) lk_X6_440 (fun q11 hq => k_X6_seenIn l g hg  hM S x1 q10 x2 q11 hq) ⟨⟨rfl, rfl⟩, Nat.le_of_ble_eq_true rfl, Nat.le_of_ble_eq_true rfl⟩ rfl hl.1 rfl (Nat.le_of_ble_eq_true rfl) dX6_look_69 ⟨Nat.zero_le _, Nat.zero_le _⟩ (fun q11 H locs hw hf => ?_)
    refine lv_istore hx hb dX6_look_72 hl (by decide) (lv' := [(6, .int q11), (5, .int y0), (0, .ref (gg_o g 0)), (1, .int x1), (2, .int x2), (3, .int x3), (4, .int x4)]) rfl (fun ls hl => ?_)
    refine lv_iload_n hx hb dX6_look_74 rfl (lv_at hl 5 rfl) ?_
    refine lv_iconst (v := -1) hx hb dX6_look_75 (by decide) ?_
    refine lv_icmp_eq hx hb dX6_look_76 (tgt := 89) rfl (fun hc12 => ?_) (fun hc12 => ?_)
    · replace hf := h_pos hc12 hf
      exact J89 _ _ _ S x4 y0 q11 (lv_sub hl [2, 6, 1, 0] rfl) hw hf
    replace hf := h_neg hc12 hf
    refine lv_aload_n hx hb dX6_look_79 rfl (lv_at hl 2 rfl) ?_
    refine lv_iload_n hx hb dX6_look_80 rfl (lv_at hl 4 rfl) ?_
    refine lv_iload hx hb dX6_look_81 (lv_at hl 0 rfl) ?_
    refine lv_iload_n hx hb dX6_look_83 rfl (lv_at hl 5 rfl) ?_
    refine r_V_i (As := [.int x2, .int q11, .int x3]) (rest := []) cx hw hf hM.2.1 (by rw [hM.1]; rfl) lk_X6_440 (fun q18 hq => k_X6_seenIn l g hg  hM S x2 q11 x3 q18 hq) ⟨⟨rfl, rfl⟩, Nat.le_of_ble_eq_true rfl, Nat.le_of_ble_eq_true rfl⟩ rfl hl.1 rfl (Nat.le_of_ble_eq_true rfl) dX6_look_84 ⟨Nat.zero_le _, Nat.zero_le _⟩ (fun q18 H locs hw hf => ?_)
    refine lv_istore hx hb dX6_look_87 hl (by decide) (lv' := [(6, .int q18), (5, .int y0), (0, .ref (gg_o g 0)), (1, .int x1), (2, .int x2), (3, .int x3), (4, .int x4)]) rfl (fun ls hl => ?_)
    exact J89 _ _ _ S x4 y0 q18 (lv_sub hl [2, 6, 1, 0] rfl) hw hf
  have J29 : ∀ (ls : Array Slot) (H : Heap) (locs : List Loc) (S : St) (x1 : Int32) (x2 : Int32) (x3 : Int32) (x4 : Int32), lv_has ls 7 [(0, .ref (gg_o g 0)), (1, .int x1), (2, .int x2), (3, .int x3), (4, .int x4)] → HH wd_M g s S H locs → (f_X6_look_J29  S x1 x2 x3 x4).bind some = some q → W p l e rm_X6_look s m args below meth c H locs 0 0 (MQ below (qc_w wd_M g q) args s 0 0 (aw g)) (F0 m 29 ls []) := by
    intro ls H locs S x1 x2 x3 x4 hl hw hf
    unfold f_X6_look_J29 at hf
    refine lv_iload hx hb dX6_look_29 (lv_at hl 4 rfl) ?_
    refine lv_iconst (v := 0) hx hb dX6_look_31 (by decide) ?_
    refine lv_iconst (v := 2) hx hb dX6_look_32 (by decide) ?_
    refine r_S_i (As := [.int x4, .int (0 : Int32), .int (2 : Int32)]) (rest := []) cx hw hf lk_X6_341 (fun q6 hq => k_X6_in l g hg   S x4 (0 : Int32) (2 : Int32) q6 hq) ⟨⟨rfl, rfl⟩, Nat.le_of_ble_eq_true rfl, Nat.le_of_ble_eq_true rfl⟩ rfl hl.1 rfl (Nat.le_of_ble_eq_true rfl) dX6_look_33 ⟨Nat.zero_le _, Nat.zero_le _⟩ (fun q6 H locs hw hf => ?_)
    refine lv_if_ne hx hb dX6_look_36 (tgt := 41) rfl (fun hc7 => ?_) (fun hc7 => ?_)
    · replace hf := h_neg hc7 hf
      refine lv_aload_n hx hb dX6_look_41 rfl (lv_at hl 0 rfl) ?_
      refine r_V_v (As := []) (rest := []) cx hw hf hM.2.1 (by rw [hM.1]; rfl) lk_X6_419 (fun q8 hq => k_X6_copies l g hg  hM S  q8 hq) ⟨⟨rfl, rfl⟩, Nat.le_of_ble_eq_true rfl, Nat.le_of_ble_eq_true rfl⟩ rfl hl.1 rfl (Nat.le_of_ble_eq_true rfl) dX6_look_42 ⟨Nat.zero_le _, Nat.zero_le _⟩ (fun q8 H locs hw hf => ?_)
      refine lv_iload_n hx hb dX6_look_45 rfl (lv_at hl 3 rfl) ?_
      refine lv_iconst (v := -1) hx hb dX6_look_46 (by decide) ?_
      refine lv_icmp_ne hx hb dX6_look_47 (tgt := 54) rfl (fun hc9 => ?_) (fun hc9 => ?_)
      · replace hf := h_neg hc9 hf
        refine lv_iload_n hx hb dX6_look_54 rfl (lv_at hl 3 rfl) ?_
        exact J55 _ _ _ q8 x1 x2 x3 x4 x3 (lv_sub hl [0, 1, 2, 3, 4] rfl) hw hf
      replace hf := h_pos hc9 hf
      refine lv_iload_n hx hb dX6_look_50 rfl (lv_at hl 2 rfl) ?_
      refine lv_goto hx hb dX6_look_51 (tgt := 55) rfl ?_
      exact J55 _ _ _ q8 x1 x2 x3 x4 x2 (lv_sub hl [0, 1, 2, 3, 4] rfl) hw hf
    replace hf := h_pos hc7 hf
    refine lv_iconst (v := -1) hx hb dX6_look_39 (by decide) ?_
    exact r_iretw cx hw hr hlk hf dX6_look_40
  refine lv_aload_n hx hb dX6_look_0 rfl (lv_at hl 0 rfl) ?_
  refine lv_iload_n hx hb dX6_look_1 rfl (lv_at hl 1 rfl) ?_
  refine r_V_i (As := [.int x1]) (rest := []) cx hw hf hM.2.1 (by rw [hM.1]; rfl) lk_X6_416 (fun q1 hq => k_X6_isMirror l g hg  hM S x1 q1 hq) ⟨⟨rfl, rfl⟩, Nat.le_of_ble_eq_true rfl, Nat.le_of_ble_eq_true rfl⟩ rfl hl.1 rfl (Nat.le_of_ble_eq_true rfl) dX6_look_2 ⟨Nat.zero_le _, Nat.zero_le _⟩ (fun q1 H locs hw hf => ?_)
  refine lv_if_eq hx hb dX6_look_5 (tgt := 39) rfl (fun hc2 => ?_) (fun hc2 => ?_)
  · replace hf := h_pos hc2 hf
    refine lv_iconst (v := -1) hx hb dX6_look_39 (by decide) ?_
    exact r_iretw cx hw hr hlk hf dX6_look_40
  replace hf := h_neg hc2 hf
  refine lv_aload_n hx hb dX6_look_8 rfl (lv_at hl 0 rfl) ?_
  refine lv_iload_n hx hb dX6_look_9 rfl (lv_at hl 2 rfl) ?_
  refine r_V_i (As := [.int x2]) (rest := []) cx hw hf hM.2.1 (by rw [hM.1]; rfl) lk_X6_416 (fun q3 hq => k_X6_isMirror l g hg  hM S x2 q3 hq) ⟨⟨rfl, rfl⟩, Nat.le_of_ble_eq_true rfl, Nat.le_of_ble_eq_true rfl⟩ rfl hl.1 rfl (Nat.le_of_ble_eq_true rfl) dX6_look_10 ⟨Nat.zero_le _, Nat.zero_le _⟩ (fun q3 H locs hw hf => ?_)
  refine lv_if_eq hx hb dX6_look_13 (tgt := 39) rfl (fun hc4 => ?_) (fun hc4 => ?_)
  · replace hf := h_pos hc4 hf
    refine lv_iconst (v := -1) hx hb dX6_look_39 (by decide) ?_
    exact r_iretw cx hw hr hlk hf dX6_look_40
  replace hf := h_neg hc4 hf
  refine lv_iload_n hx hb dX6_look_16 rfl (lv_at hl 3 rfl) ?_
  refine lv_iconst (v := -1) hx hb dX6_look_17 (by decide) ?_
  refine lv_icmp_eq hx hb dX6_look_18 (tgt := 29) rfl (fun hc5 => ?_) (fun hc5 => ?_)
  · replace hf := h_pos hc5 hf
    exact J29 _ _ _ S x1 x2 x3 x4 (lv_sub hl [0, 1, 2, 3, 4] rfl) hw hf
  replace hf := h_neg hc5 hf
  refine lv_aload_n hx hb dX6_look_21 rfl (lv_at hl 0 rfl) ?_
  refine lv_iload_n hx hb dX6_look_22 rfl (lv_at hl 3 rfl) ?_
  refine r_V_i (As := [.int x3]) (rest := []) cx hw hf hM.2.1 (by rw [hM.1]; rfl) lk_X6_416 (fun q19 hq => k_X6_isMirror l g hg  hM S x3 q19 hq) ⟨⟨rfl, rfl⟩, Nat.le_of_ble_eq_true rfl, Nat.le_of_ble_eq_true rfl⟩ rfl hl.1 rfl (Nat.le_of_ble_eq_true rfl) dX6_look_23 ⟨Nat.zero_le _, Nat.zero_le _⟩ (fun q19 H locs hw hf => ?_)
  refine lv_if_eq hx hb dX6_look_26 (tgt := 39) rfl (fun hc20 => ?_) (fun hc20 => ?_)
  · replace hf := h_pos hc20 hf
    refine lv_iconst (v := -1) hx hb dX6_look_39 (by decide) ?_
    exact r_iretw cx hw hr hlk hf dX6_look_40
  replace hf := h_neg hc20 hf
  exact J29 _ _ _ S x1 x2 x3 x4 (lv_sub hl [0, 1, 2, 3, 4] rfl) hw hf
theorem dX6_facing_0 : decode cX6_facing 0 = .ok (.aload_n 0, 1) := by decide +kernel
theorem dX6_facing_1 : decode cX6_facing 1 = .ok (.iload_n 1, 1) := by decide +kernel
theorem dX6_facing_2 : decode cX6_facing 2 = .ok (.invokevirtual 416, 3) := by decide +kernel
theorem dX6_facing_5 : decode cX6_facing 5 = .ok (.ifCond .eq 21, 3) := by decide +kernel
theorem dX6_facing_8 : decode cX6_facing 8 = .ok (.aload_n 0, 1) := by decide +kernel
theorem dX6_facing_9 : decode cX6_facing 9 = .ok (.iload_n 2, 1) := by decide +kernel
theorem dX6_facing_10 : decode cX6_facing 10 = .ok (.invokevirtual 416, 3) := by decide +kernel
theorem dX6_facing_13 : decode cX6_facing 13 = .ok (.ifCond .eq 13, 3) := by decide +kernel
theorem dX6_facing_16 : decode cX6_facing 16 = .ok (.iload_n 1, 1) := by decide +kernel
theorem dX6_facing_17 : decode cX6_facing 17 = .ok (.iload_n 2, 1) := by decide +kernel
theorem dX6_facing_18 : decode cX6_facing 18 = .ok (.if_icmp .eq 8, 3) := by decide +kernel
theorem dX6_facing_21 : decode cX6_facing 21 = .ok (.iload_n 3, 1) := by decide +kernel
theorem dX6_facing_22 : decode cX6_facing 22 = .ok (.iconst (-1), 1) := by decide +kernel
theorem dX6_facing_23 : decode cX6_facing 23 = .ok (.if_icmp .ge 5, 3) := by decide +kernel
theorem dX6_facing_26 : decode cX6_facing 26 = .ok (.iconst (-1), 1) := by decide +kernel
theorem dX6_facing_27 : decode cX6_facing 27 = .ok (.ireturn, 1) := by decide +kernel
theorem dX6_facing_28 : decode cX6_facing 28 = .ok (.aload_n 0, 1) := by decide +kernel
theorem dX6_facing_29 : decode cX6_facing 29 = .ok (.invokevirtual 419, 3) := by decide +kernel
theorem dX6_facing_32 : decode cX6_facing 32 = .ok (.iconst 0, 1) := by decide +kernel
theorem dX6_facing_33 : decode cX6_facing 33 = .ok (.istore 4, 2) := by decide +kernel
theorem dX6_facing_35 : decode cX6_facing 35 = .ok (.aload_n 0, 1) := by decide +kernel
theorem dX6_facing_36 : decode cX6_facing 36 = .ok (.iload_n 1, 1) := by decide +kernel
theorem dX6_facing_37 : decode cX6_facing 37 = .ok (.aload_n 0, 1) := by decide +kernel
theorem dX6_facing_38 : decode cX6_facing 38 = .ok (.getfield 348, 3) := by decide +kernel
theorem dX6_facing_41 : decode cX6_facing 41 = .ok (.invokevirtual 395, 3) := by decide +kernel
theorem dX6_facing_44 : decode cX6_facing 44 = .ok (.istore 5, 2) := by decide +kernel
theorem dX6_facing_46 : decode cX6_facing 46 = .ok (.iload 4, 2) := by decide +kernel
theorem dX6_facing_48 : decode cX6_facing 48 = .ok (.bipush 20, 2) := by decide +kernel
theorem dX6_facing_50 : decode cX6_facing 50 = .ok (.if_icmp .ge 52, 3) := by decide +kernel
theorem dX6_facing_53 : decode cX6_facing 53 = .ok (.iload 5, 2) := by decide +kernel
theorem dX6_facing_55 : decode cX6_facing 55 = .ok (.ifCond .lt 47, 3) := by decide +kernel
theorem dX6_facing_58 : decode cX6_facing 58 = .ok (.iload 4, 2) := by decide +kernel
theorem dX6_facing_60 : decode cX6_facing 60 = .ok (.iload_n 3, 1) := by decide +kernel
theorem dX6_facing_61 : decode cX6_facing 61 = .ok (.if_icmp .ne 6, 3) := by decide +kernel
theorem dX6_facing_64 : decode cX6_facing 64 = .ok (.iload 5, 2) := by decide +kernel
theorem dX6_facing_66 : decode cX6_facing 66 = .ok (.ireturn, 1) := by decide +kernel
theorem dX6_facing_67 : decode cX6_facing 67 = .ok (.iinc 4 1, 3) := by decide +kernel
theorem dX6_facing_70 : decode cX6_facing 70 = .ok (.iload 4, 2) := by decide +kernel
theorem dX6_facing_72 : decode cX6_facing 72 = .ok (.iconst 2, 1) := by decide +kernel
theorem dX6_facing_73 : decode cX6_facing 73 = .ok (.irem, 1) := by decide +kernel
theorem dX6_facing_74 : decode cX6_facing 74 = .ok (.iconst 1, 1) := by decide +kernel
theorem dX6_facing_75 : decode cX6_facing 75 = .ok (.if_icmp .ne 14, 3) := by decide +kernel
theorem dX6_facing_78 : decode cX6_facing 78 = .ok (.aload_n 0, 1) := by decide +kernel
theorem dX6_facing_79 : decode cX6_facing 79 = .ok (.iload_n 1, 1) := by decide +kernel
theorem dX6_facing_80 : decode cX6_facing 80 = .ok (.iload 5, 2) := by decide +kernel
theorem dX6_facing_82 : decode cX6_facing 82 = .ok (.iload_n 2, 1) := by decide +kernel
theorem dX6_facing_83 : decode cX6_facing 83 = .ok (.invokevirtual 440, 3) := by decide +kernel
theorem dX6_facing_86 : decode cX6_facing 86 = .ok (.goto 11, 3) := by decide +kernel
theorem dX6_facing_89 : decode cX6_facing 89 = .ok (.aload_n 0, 1) := by decide +kernel
theorem dX6_facing_90 : decode cX6_facing 90 = .ok (.iload_n 2, 1) := by decide +kernel
theorem dX6_facing_91 : decode cX6_facing 91 = .ok (.iload 5, 2) := by decide +kernel
theorem dX6_facing_93 : decode cX6_facing 93 = .ok (.iload_n 1, 1) := by decide +kernel
theorem dX6_facing_94 : decode cX6_facing 94 = .ok (.invokevirtual 440, 3) := by decide +kernel
theorem dX6_facing_97 : decode cX6_facing 97 = .ok (.istore 5, 2) := by decide +kernel
theorem dX6_facing_99 : decode cX6_facing 99 = .ok (.goto (-53), 3) := by decide +kernel
theorem dX6_facing_102 : decode cX6_facing 102 = .ok (.iload_n 3, 1) := by decide +kernel
theorem dX6_facing_103 : decode cX6_facing 103 = .ok (.iconst (-1), 1) := by decide +kernel
theorem dX6_facing_104 : decode cX6_facing 104 = .ok (.if_icmp .ne 8, 3) := by decide +kernel
theorem dX6_facing_107 : decode cX6_facing 107 = .ok (.iload 4, 2) := by decide +kernel
theorem dX6_facing_109 : decode cX6_facing 109 = .ok (.goto 4, 3) := by decide +kernel
theorem dX6_facing_112 : decode cX6_facing 112 = .ok (.iconst (-1), 1) := by decide +kernel
theorem dX6_facing_113 : decode cX6_facing 113 = .ok (.ireturn, 1) := by decide +kernel
abbrev rm_X6_facing : Room := { frames := 3, cells := 0, slots := 0, locals := 68 }
def f_X6_facing_L46 (S : St) (x1 : Int32) (x2 : Int32) (x3 : Int32) (z46 : Int32 × Int32) : Option ((Int32 × Int32) ⊕ ((Int32) ⊕ (Int32 × St))) :=
  if (20 : Int32) ≤ z46.1 then (some (.inr (.inl z46.1))) else (if z46.2 < 0 then (some (.inr (.inl z46.1))) else (if z46.1 = x3 then (some (.inr (.inr (z46.2, S)))) else (chk (¬ (2 : Int32) = 0) (if (i_rem (z46.1 + 1) (2 : Int32)) = (1 : Int32) then ((f_X6_seenIn  S x1 z46.2 x2).bind (fun (q15 : Int32) => some (.inl ((z46.1 + 1), q15)))) else ((f_X6_seenIn  S x2 z46.2 x1).bind (fun (q14 : Int32) => some (.inl ((z46.1 + 1), q14))))))))
def f_X6_facing_J102 (S : St) (x3 : Int32) (x4 : Int32) : Option (Int32 × St) :=
  if x3 = (-1 : Int32) then (some (x4, S)) else (some ((-1 : Int32), S))
def f_X6_facing (S : St) (x1 : Int32) (x2 : Int32) (x3 : Int32) : Option (Int32 × St) :=
  (f_X6_isMirror  S x1).bind (fun (q1 : Int32) => if q1 = 0 then (some ((-1 : Int32), S)) else ((f_X6_isMirror  S x2).bind (fun (q3 : Int32) => if q3 = 0 then (some ((-1 : Int32), S)) else (if x1 = x2 then (some ((-1 : Int32), S)) else (if (-1 : Int32) ≤ x3 then ((f_X6_copies  S ).bind (fun (q7 : St) => (f_X6_showsAt  q7 x1 (st_I q7 (ky 0 57))).bind (fun (q8 : Int32) => (iter (f_X6_facing_L46  q7 x1 x2 x3) FU ((0 : Int32), q8)).bind fun z => match z with | .inl z => (fun (e16 : Int32) => f_X6_facing_J102  q7 x3 e16) z | .inr v19 => some v19))) else (some ((-1 : Int32), S)))))))
set_option maxRecDepth 100000 in
set_option maxHeartbeats 4000000 in
theorem k_X6_facing (l : Launch) (g : GG) (hg : gd wd_M g)  (hM : hs wd_M g 0 6) (S : St) (x1 : Int32) (x2 : Int32) (x3 : Int32) (q : Int32 × St) (hf : f_X6_facing  S x1 x2 x3 = some q) : Met l yX6_facing (Cond.code yX6_facing cX6_facing 6 (some .int) :: gw_tbl) rm_X6_facing (va_Pc [.ref (gg_o g 0), .int x1, .int x2, .int x3] (wI wd_M g S)) (qc_w wd_M g q) 0 0 (aw g) := by
  refine mt_start (own := RX6) hg (by decide) rfl (Nat.le_of_ble_eq_true rfl) (fun p e s m args below meth c ls H locs cx hw hr hlk hl => ?_)
  have hx := cx.1
  have hb := cx.2.1
  have hown := cx.2.2.2.1
  have hts := cx.2.2.2.2.1
  have hl : lv_has ls 6 [(0, .ref (gg_o g 0)), (1, .int x1), (2, .int x2), (3, .int x3)] := hl
  replace hf := h_top hf
  unfold f_X6_facing at hf
  have J102 : ∀ (ls : Array Slot) (H : Heap) (locs : List Loc) (S : St) (x3 : Int32) (x4 : Int32), lv_has ls 6 [(3, .int x3), (4, .int x4)] → HH wd_M g s S H locs → (f_X6_facing_J102  S x3 x4).bind some = some q → W p l e rm_X6_facing s m args below meth c H locs 0 0 (MQ below (qc_w wd_M g q) args s 0 0 (aw g)) (F0 m 102 ls []) := by
    intro ls H locs S x3 x4 hl hw hf
    unfold f_X6_facing_J102 at hf
    refine lv_iload_n hx hb dX6_facing_102 rfl (lv_at hl 0 rfl) ?_
    refine lv_iconst (v := -1) hx hb dX6_facing_103 (by decide) ?_
    refine lv_icmp_ne hx hb dX6_facing_104 (tgt := 112) rfl (fun hc17 => ?_) (fun hc17 => ?_)
    · replace hf := h_neg hc17 hf
      refine lv_iconst (v := -1) hx hb dX6_facing_112 (by decide) ?_
      exact r_iretw cx hw hr hlk hf dX6_facing_113
    replace hf := h_pos hc17 hf
    refine lv_iload hx hb dX6_facing_107 (lv_at hl 1 rfl) ?_
    refine lv_goto hx hb dX6_facing_109 (tgt := 113) rfl ?_
    exact r_iretw cx hw hr hlk hf dX6_facing_113
  refine lv_aload_n hx hb dX6_facing_0 rfl (lv_at hl 0 rfl) ?_
  refine lv_iload_n hx hb dX6_facing_1 rfl (lv_at hl 1 rfl) ?_
  refine r_V_i (As := [.int x1]) (rest := []) cx hw hf hM.2.1 (by rw [hM.1]; rfl) lk_X6_416 (fun q1 hq => k_X6_isMirror l g hg  hM S x1 q1 hq) ⟨⟨rfl, rfl⟩, Nat.le_of_ble_eq_true rfl, Nat.le_of_ble_eq_true rfl⟩ rfl hl.1 rfl (Nat.le_of_ble_eq_true rfl) dX6_facing_2 ⟨Nat.zero_le _, Nat.zero_le _⟩ (fun q1 H locs hw hf => ?_)
  refine lv_if_eq hx hb dX6_facing_5 (tgt := 26) rfl (fun hc2 => ?_) (fun hc2 => ?_)
  · replace hf := h_pos hc2 hf
    refine lv_iconst (v := -1) hx hb dX6_facing_26 (by decide) ?_
    exact r_iretw cx hw hr hlk hf dX6_facing_27
  replace hf := h_neg hc2 hf
  refine lv_aload_n hx hb dX6_facing_8 rfl (lv_at hl 0 rfl) ?_
  refine lv_iload_n hx hb dX6_facing_9 rfl (lv_at hl 2 rfl) ?_
  refine r_V_i (As := [.int x2]) (rest := []) cx hw hf hM.2.1 (by rw [hM.1]; rfl) lk_X6_416 (fun q3 hq => k_X6_isMirror l g hg  hM S x2 q3 hq) ⟨⟨rfl, rfl⟩, Nat.le_of_ble_eq_true rfl, Nat.le_of_ble_eq_true rfl⟩ rfl hl.1 rfl (Nat.le_of_ble_eq_true rfl) dX6_facing_10 ⟨Nat.zero_le _, Nat.zero_le _⟩ (fun q3 H locs hw hf => ?_)
  refine lv_if_eq hx hb dX6_facing_13 (tgt := 26) rfl (fun hc4 => ?_) (fun hc4 => ?_)
  · replace hf := h_pos hc4 hf
    refine lv_iconst (v := -1) hx hb dX6_facing_26 (by decide) ?_
    exact r_iretw cx hw hr hlk hf dX6_facing_27
  replace hf := h_neg hc4 hf
  refine lv_iload_n hx hb dX6_facing_16 rfl (lv_at hl 1 rfl) ?_
  refine lv_iload_n hx hb dX6_facing_17 rfl (lv_at hl 2 rfl) ?_
  refine lv_icmp_eq hx hb dX6_facing_18 (tgt := 26) rfl (fun hc5 => ?_) (fun hc5 => ?_)
  · replace hf := h_pos hc5 hf
    refine lv_iconst (v := -1) hx hb dX6_facing_26 (by decide) ?_
    exact r_iretw cx hw hr hlk hf dX6_facing_27
  replace hf := h_neg hc5 hf
  refine lv_iload_n hx hb dX6_facing_21 rfl (lv_at hl 3 rfl) ?_
  refine lv_iconst (v := -1) hx hb dX6_facing_22 (by decide) ?_
  refine lv_icmp_ge hx hb dX6_facing_23 (tgt := 28) rfl (fun hc6 => ?_) (fun hc6 => ?_)
  · replace hf := h_pos hc6 hf
    refine lv_aload_n hx hb dX6_facing_28 rfl (lv_at hl 0 rfl) ?_
    refine r_V_v (As := []) (rest := []) cx hw hf hM.2.1 (by rw [hM.1]; rfl) lk_X6_419 (fun q7 hq => k_X6_copies l g hg  hM S  q7 hq) ⟨⟨rfl, rfl⟩, Nat.le_of_ble_eq_true rfl, Nat.le_of_ble_eq_true rfl⟩ rfl hl.1 rfl (Nat.le_of_ble_eq_true rfl) dX6_facing_29 ⟨Nat.zero_le _, Nat.zero_le _⟩ (fun q7 H locs hw hf => ?_)
    refine lv_iconst (v := 0) hx hb dX6_facing_32 (by decide) ?_
    refine lv_istore hx hb dX6_facing_33 hl (by decide) (lv' := [(4, .int (0 : Int32)), (0, .ref (gg_o g 0)), (1, .int x1), (2, .int x2), (3, .int x3)]) rfl (fun ls hl => ?_)
    refine lv_aload_n hx hb dX6_facing_35 rfl (lv_at hl 1 rfl) ?_
    refine lv_iload_n hx hb dX6_facing_36 rfl (lv_at hl 2 rfl) ?_
    refine lv_aload_n hx hb dX6_facing_37 rfl (lv_at hl 1 rfl) ?_
    refine gf_X6_348 cx hw hM dX6_facing_38 ?_
    refine r_V_i (As := [.int x1, .int (st_I q7 (ky 0 57))]) (rest := []) cx hw hf hM.2.1 (by rw [hM.1]; rfl) lk_X6_395 (fun q8 hq => k_X6_showsAt l g hg  hM q7 x1 (st_I q7 (ky 0 57)) q8 hq) ⟨⟨rfl, rfl⟩, Nat.le_of_ble_eq_true rfl, Nat.le_of_ble_eq_true rfl⟩ rfl hl.1 rfl (Nat.le_of_ble_eq_true rfl) dX6_facing_41 ⟨Nat.zero_le _, Nat.zero_le _⟩ (fun q8 H locs hw hf => ?_)
    refine lv_istore hx hb dX6_facing_44 hl (by decide) (lv' := [(5, .int q8), (4, .int (0 : Int32)), (0, .ref (gg_o g 0)), (1, .int x1), (2, .int x2), (3, .int x3)]) rfl (fun ls hl => ?_)
    have L46 : ∀ (S : St) (x1 : Int32) (x2 : Int32) (x3 : Int32) (aft46 : ((Int32) ⊕ (Int32 × St)) → Option (Int32 × St)), (∀ (ls : Array Slot) (H : Heap) (locs : List Loc) (e4 : Int32), lv_has ls 6 [(3, .int x3), (4, .int e4)] → HH wd_M g s S H locs → aft46 (.inl e4) = some q → W p l e rm_X6_facing s m args below meth c H locs 0 0 (MQ below (qc_w wd_M g q) args s 0 0 (aw g)) (F0 m 102 ls [])) → (∀ v : Int32 × St, aft46 (.inr v) = some q → (some v : Option (Int32 × St)).bind some = some q) → ∀ (n46 : Nat) (ls : Array Slot) (H : Heap) (locs : List Loc) (z46 : Int32 × Int32), lv_has ls 6 [(0, .ref (gg_o g 0)), (1, .int x1), (2, .int x2), (3, .int x3), (4, .int z46.1), (5, .int z46.2)] → HH wd_M g s S H locs → (iter (f_X6_facing_L46  S x1 x2 x3) n46 z46).bind aft46 = some q → W p l e rm_X6_facing s m args below meth c H locs 0 0 (MQ below (qc_w wd_M g q) args s 0 0 (aw g)) (F0 m 46 ls []) := by
      intro S x1 x2 x3 aft46 hX46 hR46 n46
      induction n46 with
      | zero => intro ls H locs z46 hl hw hf; exact h_iter0 hf
      | succ n46 ih46 =>
        intro ls H locs z46 hl hw hf
        replace hf := h_iter hf
        unfold f_X6_facing_L46 at hf
        refine lv_iload hx hb dX6_facing_46 (lv_at hl 4 rfl) ?_
        refine lv_bipush (v := 20) hx hb dX6_facing_48 (by decide) ?_
        refine lv_icmp_ge hx hb dX6_facing_50 (tgt := 102) rfl (fun hc9 => ?_) (fun hc9 => ?_)
        · replace hf := h_pos hc9 hf
          exact hX46 _ _ _ z46.1 (lv_sub hl [3, 4] rfl) hw hf
        replace hf := h_neg hc9 hf
        refine lv_iload hx hb dX6_facing_53 (lv_at hl 5 rfl) ?_
        refine lv_if_lt hx hb dX6_facing_55 (tgt := 102) rfl (fun hc10 => ?_) (fun hc10 => ?_)
        · replace hf := h_pos hc10 hf
          exact hX46 _ _ _ z46.1 (lv_sub hl [3, 4] rfl) hw hf
        replace hf := h_neg hc10 hf
        refine lv_iload hx hb dX6_facing_58 (lv_at hl 4 rfl) ?_
        refine lv_iload_n hx hb dX6_facing_60 rfl (lv_at hl 3 rfl) ?_
        refine lv_icmp_ne hx hb dX6_facing_61 (tgt := 67) rfl (fun hc11 => ?_) (fun hc11 => ?_)
        · replace hf := h_neg hc11 hf
          refine lv_iinc hx hb dX6_facing_67 hl (k := 4) rfl (congrArg (HAdd.hAdd _) (show Int32.ofInt (1) = 1 by decide)) (by decide) (lv' := [(4, .int (z46.1 + 1)), (0, .ref (gg_o g 0)), (1, .int x1), (2, .int x2), (3, .int x3), (5, .int z46.2)]) rfl (fun ls hl => ?_)
          refine lv_iload hx hb dX6_facing_70 (lv_at hl 0 rfl) ?_
          refine lv_iconst (v := 2) hx hb dX6_facing_72 (by decide) ?_
          obtain ⟨hc12, hf⟩ := h_chk hf
          refine lv_irem hx hb dX6_facing_73 hc12 ?_
          refine lv_iconst (v := 1) hx hb dX6_facing_74 (by decide) ?_
          refine lv_icmp_ne hx hb dX6_facing_75 (tgt := 89) rfl (fun hc13 => ?_) (fun hc13 => ?_)
          · replace hf := h_neg hc13 hf
            refine lv_aload_n hx hb dX6_facing_89 rfl (lv_at hl 1 rfl) ?_
            refine lv_iload_n hx hb dX6_facing_90 rfl (lv_at hl 3 rfl) ?_
            refine lv_iload hx hb dX6_facing_91 (lv_at hl 5 rfl) ?_
            refine lv_iload_n hx hb dX6_facing_93 rfl (lv_at hl 2 rfl) ?_
            refine r_V_i (As := [.int x2, .int z46.2, .int x1]) (rest := []) cx hw hf hM.2.1 (by rw [hM.1]; rfl) lk_X6_440 (fun q14 hq => k_X6_seenIn l g hg  hM S x2 z46.2 x1 q14 hq) ⟨⟨rfl, rfl⟩, Nat.le_of_ble_eq_true rfl, Nat.le_of_ble_eq_true rfl⟩ rfl hl.1 rfl (Nat.le_of_ble_eq_true rfl) dX6_facing_94 ⟨Nat.zero_le _, Nat.zero_le _⟩ (fun q14 H locs hw hf => ?_)
            refine lv_istore hx hb dX6_facing_97 hl (by decide) (lv' := [(5, .int q14), (4, .int (z46.1 + 1)), (0, .ref (gg_o g 0)), (1, .int x1), (2, .int x2), (3, .int x3)]) rfl (fun ls hl => ?_)
            refine lv_goto hx hb dX6_facing_99 (tgt := 46) rfl ?_
            exact ih46 _ _ _ ((z46.1 + 1), q14) (lv_sub hl [2, 3, 4, 5, 1, 0] rfl) hw hf
          replace hf := h_pos hc13 hf
          refine lv_aload_n hx hb dX6_facing_78 rfl (lv_at hl 1 rfl) ?_
          refine lv_iload_n hx hb dX6_facing_79 rfl (lv_at hl 2 rfl) ?_
          refine lv_iload hx hb dX6_facing_80 (lv_at hl 5 rfl) ?_
          refine lv_iload_n hx hb dX6_facing_82 rfl (lv_at hl 3 rfl) ?_
          refine r_V_i (As := [.int x1, .int z46.2, .int x2]) (rest := []) cx hw hf hM.2.1 (by rw [hM.1]; rfl) lk_X6_440 (fun q15 hq => k_X6_seenIn l g hg  hM S x1 z46.2 x2 q15 hq) ⟨⟨rfl, rfl⟩, Nat.le_of_ble_eq_true rfl, Nat.le_of_ble_eq_true rfl⟩ rfl hl.1 rfl (Nat.le_of_ble_eq_true rfl) dX6_facing_83 ⟨Nat.zero_le _, Nat.zero_le _⟩ (fun q15 H locs hw hf => ?_)
          refine lv_goto hx hb dX6_facing_86 (tgt := 97) rfl ?_
          refine lv_istore hx hb dX6_facing_97 hl (by decide) (lv' := [(5, .int q15), (4, .int (z46.1 + 1)), (0, .ref (gg_o g 0)), (1, .int x1), (2, .int x2), (3, .int x3)]) rfl (fun ls hl => ?_)
          refine lv_goto hx hb dX6_facing_99 (tgt := 46) rfl ?_
          exact ih46 _ _ _ ((z46.1 + 1), q15) (lv_sub hl [2, 3, 4, 5, 1, 0] rfl) hw hf
        replace hf := h_pos hc11 hf
        refine lv_iload hx hb dX6_facing_64 (lv_at hl 5 rfl) ?_
        replace hf := hR46 (z46.2, S) hf
        exact r_iretw cx hw hr hlk hf dX6_facing_66
    refine L46 q7 x1 x2 x3 _ (fun ls H locs e16 hl hw hf => ?_) (fun v h => h) FU _ _ _ ((0 : Int32), q8) (lv_sub hl [2, 3, 4, 5, 1, 0] rfl) hw (h_assoc hf)
    try dsimp only at hf
    exact J102 _ _ _ q7 x3 e16 (lv_sub hl [0, 1] rfl) hw hf
  replace hf := h_neg hc6 hf
  refine lv_iconst (v := -1) hx hb dX6_facing_26 (by decide) ?_
  exact r_iretw cx hw hr hlk hf dX6_facing_27
theorem dX6_deepest_0 : decode cX6_deepest 0 = .ok (.aload_n 0, 1) := by decide +kernel
theorem dX6_deepest_1 : decode cX6_deepest 1 = .ok (.iload_n 1, 1) := by decide +kernel
theorem dX6_deepest_2 : decode cX6_deepest 2 = .ok (.invokevirtual 416, 3) := by decide +kernel
theorem dX6_deepest_5 : decode cX6_deepest 5 = .ok (.ifCond .eq 12, 3) := by decide +kernel
theorem dX6_deepest_8 : decode cX6_deepest 8 = .ok (.iload_n 2, 1) := by decide +kernel
theorem dX6_deepest_9 : decode cX6_deepest 9 = .ok (.iconst 0, 1) := by decide +kernel
theorem dX6_deepest_10 : decode cX6_deepest 10 = .ok (.iconst 1, 1) := by decide +kernel
theorem dX6_deepest_11 : decode cX6_deepest 11 = .ok (.invokestatic 341, 3) := by decide +kernel
theorem dX6_deepest_14 : decode cX6_deepest 14 = .ok (.ifCond .ne 5, 3) := by decide +kernel
theorem dX6_deepest_17 : decode cX6_deepest 17 = .ok (.iconst (-1), 1) := by decide +kernel
theorem dX6_deepest_18 : decode cX6_deepest 18 = .ok (.ireturn, 1) := by decide +kernel
theorem dX6_deepest_19 : decode cX6_deepest 19 = .ok (.aload_n 0, 1) := by decide +kernel
theorem dX6_deepest_20 : decode cX6_deepest 20 = .ok (.invokevirtual 419, 3) := by decide +kernel
theorem dX6_deepest_23 : decode cX6_deepest 23 = .ok (.aload_n 0, 1) := by decide +kernel
theorem dX6_deepest_24 : decode cX6_deepest 24 = .ok (.iload_n 1, 1) := by decide +kernel
theorem dX6_deepest_25 : decode cX6_deepest 25 = .ok (.aload_n 0, 1) := by decide +kernel
theorem dX6_deepest_26 : decode cX6_deepest 26 = .ok (.getfield 348, 3) := by decide +kernel
theorem dX6_deepest_29 : decode cX6_deepest 29 = .ok (.invokevirtual 395, 3) := by decide +kernel
theorem dX6_deepest_32 : decode cX6_deepest 32 = .ok (.istore_n 3, 1) := by decide +kernel
theorem dX6_deepest_33 : decode cX6_deepest 33 = .ok (.iload_n 3, 1) := by decide +kernel
theorem dX6_deepest_34 : decode cX6_deepest 34 = .ok (.ifCond .ge 6, 3) := by decide +kernel
theorem dX6_deepest_37 : decode cX6_deepest 37 = .ok (.bipush (-2), 2) := by decide +kernel
theorem dX6_deepest_39 : decode cX6_deepest 39 = .ok (.ireturn, 1) := by decide +kernel
theorem dX6_deepest_40 : decode cX6_deepest 40 = .ok (.iconst 1, 1) := by decide +kernel
theorem dX6_deepest_41 : decode cX6_deepest 41 = .ok (.istore 4, 2) := by decide +kernel
theorem dX6_deepest_43 : decode cX6_deepest 43 = .ok (.iconst 0, 1) := by decide +kernel
theorem dX6_deepest_44 : decode cX6_deepest 44 = .ok (.istore 5, 2) := by decide +kernel
theorem dX6_deepest_46 : decode cX6_deepest 46 = .ok (.iload 5, 2) := by decide +kernel
theorem dX6_deepest_48 : decode cX6_deepest 48 = .ok (.sipush 2400, 3) := by decide +kernel
theorem dX6_deepest_51 : decode cX6_deepest 51 = .ok (.if_icmp .ge 17, 3) := by decide +kernel
theorem dX6_deepest_54 : decode cX6_deepest 54 = .ok (.aload_n 0, 1) := by decide +kernel
theorem dX6_deepest_55 : decode cX6_deepest 55 = .ok (.getfield 143, 3) := by decide +kernel
theorem dX6_deepest_58 : decode cX6_deepest 58 = .ok (.iload 5, 2) := by decide +kernel
theorem dX6_deepest_60 : decode cX6_deepest 60 = .ok (.iconst 0, 1) := by decide +kernel
theorem dX6_deepest_61 : decode cX6_deepest 61 = .ok (.bastore, 1) := by decide +kernel
theorem dX6_deepest_62 : decode cX6_deepest 62 = .ok (.iinc 5 1, 3) := by decide +kernel
theorem dX6_deepest_65 : decode cX6_deepest 65 = .ok (.goto (-19), 3) := by decide +kernel
theorem dX6_deepest_68 : decode cX6_deepest 68 = .ok (.aload_n 0, 1) := by decide +kernel
theorem dX6_deepest_69 : decode cX6_deepest 69 = .ok (.getfield 143, 3) := by decide +kernel
theorem dX6_deepest_72 : decode cX6_deepest 72 = .ok (.sipush 300, 3) := by decide +kernel
theorem dX6_deepest_75 : decode cX6_deepest 75 = .ok (.iload_n 1, 1) := by decide +kernel
theorem dX6_deepest_76 : decode cX6_deepest 76 = .ok (.imul, 1) := by decide +kernel
theorem dX6_deepest_77 : decode cX6_deepest 77 = .ok (.iload_n 3, 1) := by decide +kernel
theorem dX6_deepest_78 : decode cX6_deepest 78 = .ok (.iadd, 1) := by decide +kernel
theorem dX6_deepest_79 : decode cX6_deepest 79 = .ok (.iconst 1, 1) := by decide +kernel
theorem dX6_deepest_80 : decode cX6_deepest 80 = .ok (.bastore, 1) := by decide +kernel
theorem dX6_deepest_81 : decode cX6_deepest 81 = .ok (.iconst 2, 1) := by decide +kernel
theorem dX6_deepest_82 : decode cX6_deepest 82 = .ok (.istore 5, 2) := by decide +kernel
theorem dX6_deepest_84 : decode cX6_deepest 84 = .ok (.iload 5, 2) := by decide +kernel
theorem dX6_deepest_86 : decode cX6_deepest 86 = .ok (.iconst 5, 1) := by decide +kernel
theorem dX6_deepest_87 : decode cX6_deepest 87 = .ok (.if_icmp .ge 176, 3) := by decide +kernel
theorem dX6_deepest_90 : decode cX6_deepest 90 = .ok (.iconst 0, 1) := by decide +kernel
theorem dX6_deepest_91 : decode cX6_deepest 91 = .ok (.istore 6, 2) := by decide +kernel
theorem dX6_deepest_93 : decode cX6_deepest 93 = .ok (.iload 6, 2) := by decide +kernel
theorem dX6_deepest_95 : decode cX6_deepest 95 = .ok (.sipush 2400, 3) := by decide +kernel
theorem dX6_deepest_98 : decode cX6_deepest 98 = .ok (.if_icmp .ge 17, 3) := by decide +kernel
theorem dX6_deepest_101 : decode cX6_deepest 101 = .ok (.aload_n 0, 1) := by decide +kernel
theorem dX6_deepest_102 : decode cX6_deepest 102 = .ok (.getfield 146, 3) := by decide +kernel
theorem dX6_deepest_105 : decode cX6_deepest 105 = .ok (.iload 6, 2) := by decide +kernel
theorem dX6_deepest_107 : decode cX6_deepest 107 = .ok (.iconst 0, 1) := by decide +kernel
theorem dX6_deepest_108 : decode cX6_deepest 108 = .ok (.bastore, 1) := by decide +kernel
theorem dX6_deepest_109 : decode cX6_deepest 109 = .ok (.iinc 6 1, 3) := by decide +kernel
theorem dX6_deepest_112 : decode cX6_deepest 112 = .ok (.goto (-19), 3) := by decide +kernel
theorem dX6_deepest_115 : decode cX6_deepest 115 = .ok (.iconst 0, 1) := by decide +kernel
theorem dX6_deepest_116 : decode cX6_deepest 116 = .ok (.istore 6, 2) := by decide +kernel
theorem dX6_deepest_118 : decode cX6_deepest 118 = .ok (.iload 6, 2) := by decide +kernel
theorem dX6_deepest_120 : decode cX6_deepest 120 = .ok (.sipush 2400, 3) := by decide +kernel
theorem dX6_deepest_123 : decode cX6_deepest 123 = .ok (.if_icmp .ge 103, 3) := by decide +kernel
theorem dX6_deepest_126 : decode cX6_deepest 126 = .ok (.aload_n 0, 1) := by decide +kernel
theorem dX6_deepest_127 : decode cX6_deepest 127 = .ok (.getfield 143, 3) := by decide +kernel
theorem dX6_deepest_130 : decode cX6_deepest 130 = .ok (.iload 6, 2) := by decide +kernel
theorem dX6_deepest_132 : decode cX6_deepest 132 = .ok (.baload, 1) := by decide +kernel
theorem dX6_deepest_133 : decode cX6_deepest 133 = .ok (.ifCond .ne 6, 3) := by decide +kernel
theorem dX6_deepest_136 : decode cX6_deepest 136 = .ok (.goto 84, 3) := by decide +kernel
theorem dX6_deepest_139 : decode cX6_deepest 139 = .ok (.iconst 0, 1) := by decide +kernel
theorem dX6_deepest_140 : decode cX6_deepest 140 = .ok (.istore 7, 2) := by decide +kernel
theorem dX6_deepest_142 : decode cX6_deepest 142 = .ok (.iload 7, 2) := by decide +kernel
theorem dX6_deepest_144 : decode cX6_deepest 144 = .ok (.aload_n 0, 1) := by decide +kernel
theorem dX6_deepest_145 : decode cX6_deepest 145 = .ok (.getfield 70, 3) := by decide +kernel
theorem dX6_deepest_148 : decode cX6_deepest 148 = .ok (.aload_n 0, 1) := by decide +kernel
theorem dX6_deepest_149 : decode cX6_deepest 149 = .ok (.getfield 257, 3) := by decide +kernel
theorem dX6_deepest_152 : decode cX6_deepest 152 = .ok (.iaload, 1) := by decide +kernel
theorem dX6_deepest_153 : decode cX6_deepest 153 = .ok (.if_icmp .ge 67, 3) := by decide +kernel
theorem dX6_deepest_156 : decode cX6_deepest 156 = .ok (.aload_n 0, 1) := by decide +kernel
theorem dX6_deepest_157 : decode cX6_deepest 157 = .ok (.iload 6, 2) := by decide +kernel
theorem dX6_deepest_159 : decode cX6_deepest 159 = .ok (.sipush 300, 3) := by decide +kernel
theorem dX6_deepest_162 : decode cX6_deepest 162 = .ok (.idiv, 1) := by decide +kernel
theorem dX6_deepest_163 : decode cX6_deepest 163 = .ok (.iload 6, 2) := by decide +kernel
theorem dX6_deepest_165 : decode cX6_deepest 165 = .ok (.sipush 300, 3) := by decide +kernel
theorem dX6_deepest_168 : decode cX6_deepest 168 = .ok (.irem, 1) := by decide +kernel
theorem dX6_deepest_169 : decode cX6_deepest 169 = .ok (.iload 7, 2) := by decide +kernel
theorem dX6_deepest_171 : decode cX6_deepest 171 = .ok (.invokevirtual 440, 3) := by decide +kernel
theorem dX6_deepest_174 : decode cX6_deepest 174 = .ok (.istore 8, 2) := by decide +kernel
theorem dX6_deepest_176 : decode cX6_deepest 176 = .ok (.iload 8, 2) := by decide +kernel
theorem dX6_deepest_178 : decode cX6_deepest 178 = .ok (.ifCond .lt 18, 3) := by decide +kernel
theorem dX6_deepest_181 : decode cX6_deepest 181 = .ok (.aload_n 0, 1) := by decide +kernel
theorem dX6_deepest_182 : decode cX6_deepest 182 = .ok (.getfield 146, 3) := by decide +kernel
theorem dX6_deepest_185 : decode cX6_deepest 185 = .ok (.sipush 300, 3) := by decide +kernel
theorem dX6_deepest_188 : decode cX6_deepest 188 = .ok (.iload 7, 2) := by decide +kernel
theorem dX6_deepest_190 : decode cX6_deepest 190 = .ok (.imul, 1) := by decide +kernel
theorem dX6_deepest_191 : decode cX6_deepest 191 = .ok (.iload 8, 2) := by decide +kernel
theorem dX6_deepest_193 : decode cX6_deepest 193 = .ok (.iadd, 1) := by decide +kernel
theorem dX6_deepest_194 : decode cX6_deepest 194 = .ok (.iconst 1, 1) := by decide +kernel
theorem dX6_deepest_195 : decode cX6_deepest 195 = .ok (.bastore, 1) := by decide +kernel
theorem dX6_deepest_196 : decode cX6_deepest 196 = .ok (.iload 8, 2) := by decide +kernel
theorem dX6_deepest_198 : decode cX6_deepest 198 = .ok (.ifCond .lt 16, 3) := by decide +kernel
theorem dX6_deepest_201 : decode cX6_deepest 201 = .ok (.iload 8, 2) := by decide +kernel
theorem dX6_deepest_203 : decode cX6_deepest 203 = .ok (.iload_n 3, 1) := by decide +kernel
theorem dX6_deepest_204 : decode cX6_deepest 204 = .ok (.if_icmp .ge 10, 3) := by decide +kernel
theorem dX6_deepest_207 : decode cX6_deepest 207 = .ok (.iload 8, 2) := by decide +kernel
theorem dX6_deepest_209 : decode cX6_deepest 209 = .ok (.istore_n 3, 1) := by decide +kernel
theorem dX6_deepest_210 : decode cX6_deepest 210 = .ok (.iload 5, 2) := by decide +kernel
theorem dX6_deepest_212 : decode cX6_deepest 212 = .ok (.istore 4, 2) := by decide +kernel
theorem dX6_deepest_214 : decode cX6_deepest 214 = .ok (.iinc 7 1, 3) := by decide +kernel
theorem dX6_deepest_217 : decode cX6_deepest 217 = .ok (.goto (-75), 3) := by decide +kernel
theorem dX6_deepest_220 : decode cX6_deepest 220 = .ok (.iinc 6 1, 3) := by decide +kernel
theorem dX6_deepest_223 : decode cX6_deepest 223 = .ok (.goto (-105), 3) := by decide +kernel
theorem dX6_deepest_226 : decode cX6_deepest 226 = .ok (.iconst 0, 1) := by decide +kernel
theorem dX6_deepest_227 : decode cX6_deepest 227 = .ok (.istore 6, 2) := by decide +kernel
theorem dX6_deepest_229 : decode cX6_deepest 229 = .ok (.iload 6, 2) := by decide +kernel
theorem dX6_deepest_231 : decode cX6_deepest 231 = .ok (.sipush 2400, 3) := by decide +kernel
theorem dX6_deepest_234 : decode cX6_deepest 234 = .ok (.if_icmp .ge 23, 3) := by decide +kernel
theorem dX6_deepest_237 : decode cX6_deepest 237 = .ok (.aload_n 0, 1) := by decide +kernel
theorem dX6_deepest_238 : decode cX6_deepest 238 = .ok (.getfield 143, 3) := by decide +kernel
theorem dX6_deepest_241 : decode cX6_deepest 241 = .ok (.iload 6, 2) := by decide +kernel
theorem dX6_deepest_243 : decode cX6_deepest 243 = .ok (.aload_n 0, 1) := by decide +kernel
theorem dX6_deepest_244 : decode cX6_deepest 244 = .ok (.getfield 146, 3) := by decide +kernel
theorem dX6_deepest_247 : decode cX6_deepest 247 = .ok (.iload 6, 2) := by decide +kernel
theorem dX6_deepest_249 : decode cX6_deepest 249 = .ok (.baload, 1) := by decide +kernel
theorem dX6_deepest_250 : decode cX6_deepest 250 = .ok (.bastore, 1) := by decide +kernel
theorem dX6_deepest_251 : decode cX6_deepest 251 = .ok (.iinc 6 1, 3) := by decide +kernel
theorem dX6_deepest_254 : decode cX6_deepest 254 = .ok (.goto (-25), 3) := by decide +kernel
theorem dX6_deepest_257 : decode cX6_deepest 257 = .ok (.iinc 5 1, 3) := by decide +kernel
theorem dX6_deepest_260 : decode cX6_deepest 260 = .ok (.goto (-176), 3) := by decide +kernel
theorem dX6_deepest_263 : decode cX6_deepest 263 = .ok (.iload_n 2, 1) := by decide +kernel
theorem dX6_deepest_264 : decode cX6_deepest 264 = .ok (.ifCond .ne 7, 3) := by decide +kernel
theorem dX6_deepest_267 : decode cX6_deepest 267 = .ok (.iload_n 3, 1) := by decide +kernel
theorem dX6_deepest_268 : decode cX6_deepest 268 = .ok (.goto 5, 3) := by decide +kernel
theorem dX6_deepest_271 : decode cX6_deepest 271 = .ok (.iload 4, 2) := by decide +kernel
theorem dX6_deepest_273 : decode cX6_deepest 273 = .ok (.ireturn, 1) := by decide +kernel
abbrev rm_X6_deepest : Room := { frames := 3, cells := 0, slots := 0, locals := 68 }
def f_X6_deepest_L46 (x1 : Int32) (x2 : Int32) (x3 : Int32) (x4 : Int32) (z46 : Int32 × St) : Option ((Int32 × St) ⊕ (St)) :=
  if (2400 : Int32) ≤ z46.1 then (some (.inr z46.2)) else (chk (ib z46.1 2400) (lt_v (up_A z46.2 (ky 0 63) (upd (st_A z46.2 (ky 0 63)) z46.1.toNatClampNeg (vp_nar .boolean (0 : Int32)))) (fun (S9 : St) => some (.inl ((z46.1 + 1), S9)))))
def f_X6_deepest_L93 (x2 : Int32) (x3 : Int32) (x4 : Int32) (x5 : Int32) (z93 : Int32 × St) : Option ((Int32 × St) ⊕ (St)) :=
  if (2400 : Int32) ≤ z93.1 then (some (.inr z93.2)) else (chk (ib z93.1 2400) (lt_v (up_A z93.2 (ky 0 64) (upd (st_A z93.2 (ky 0 64)) z93.1.toNatClampNeg (vp_nar .boolean (0 : Int32)))) (fun (S14 : St) => some (.inl ((z93.1 + 1), S14)))))
def f_X6_deepest_J196 (S : St) (x2 : Int32) (x3 : Int32) (x4 : Int32) (x5 : Int32) (x6 : Int32) (x7 : Int32) (x8 : Int32) : Option ((Int32 × Int32 × Int32 × St) ⊕ (Int32 × Int32 × St)) :=
  if x8 < 0 then (some (.inl (x3, x4, (x7 + 1), S))) else (if x3 ≤ x8 then (some (.inl (x3, x4, (x7 + 1), S))) else (some (.inl (x8, x5, (x7 + 1), S))))
def f_X6_deepest_L142 (x2 : Int32) (x5 : Int32) (x6 : Int32) (z142 : Int32 × Int32 × Int32 × St) : Option ((Int32 × Int32 × Int32 × St) ⊕ (Int32 × Int32 × St)) :=
  chk (ib (st_I z142.2.2.2 (ky 0 18)) 2) (if (st_A z142.2.2.2 (ky 0 31) (st_I z142.2.2.2 (ky 0 18)).toNatClampNeg) ≤ z142.2.2.1 then (some (.inr (z142.1, z142.2.1, z142.2.2.2))) else (chk (¬ (300 : Int32) = 0) (chk (¬ (300 : Int32) = 0) ((f_X6_seenIn  z142.2.2.2 (x6 / (300 : Int32)) (i_rem x6 (300 : Int32)) z142.2.2.1).bind (fun (q21 : Int32) => if q21 < 0 then (f_X6_deepest_J196  z142.2.2.2 x2 z142.1 z142.2.1 x5 x6 z142.2.2.1 q21) else (chk (ib (((300 : Int32) * z142.2.2.1) + q21) 2400) (lt_v (up_A z142.2.2.2 (ky 0 64) (upd (st_A z142.2.2.2 (ky 0 64)) (((300 : Int32) * z142.2.2.1) + q21).toNatClampNeg (vp_nar .boolean (1 : Int32)))) (fun (S25 : St) => f_X6_deepest_J196  S25 x2 z142.1 z142.2.1 x5 x6 z142.2.2.1 q21))))))))
def f_X6_deepest_L118 (x2 : Int32) (x5 : Int32) (z118 : Int32 × Int32 × Int32 × St) : Option ((Int32 × Int32 × Int32 × St) ⊕ (Int32 × Int32 × St)) :=
  if (2400 : Int32) ≤ z118.2.2.1 then (some (.inr (z118.1, z118.2.1, z118.2.2.2))) else (chk (ib z118.2.2.1 2400) (if (st_A z118.2.2.2 (ky 0 63) z118.2.2.1.toNatClampNeg) = 0 then (some (.inl (z118.1, z118.2.1, (z118.2.2.1 + 1), z118.2.2.2))) else ((iter (f_X6_deepest_L142   x2 x5 z118.2.2.1) FU (z118.1, z118.2.1, (0 : Int32), z118.2.2.2)).bind (fun (u29 : Int32 × Int32 × St) => (fun (e26 : Int32) (e27 : Int32) (S28 : St) => some (.inl (e26, e27, (z118.2.2.1 + 1), S28))) u29.1 u29.2.1 u29.2.2))))
def f_X6_deepest_L229 (x2 : Int32) (x3 : Int32) (x4 : Int32) (x5 : Int32) (z229 : Int32 × St) : Option ((Int32 × St) ⊕ (St)) :=
  if (2400 : Int32) ≤ z229.1 then (some (.inr z229.2)) else (chk (ib z229.1 2400) (chk (ib z229.1 2400) (lt_v (up_A z229.2 (ky 0 63) (upd (st_A z229.2 (ky 0 63)) z229.1.toNatClampNeg (vp_nar .boolean (st_A z229.2 (ky 0 64) z229.1.toNatClampNeg)))) (fun (S34 : St) => some (.inl ((z229.1 + 1), S34))))))
def f_X6_deepest_L84 (x2 : Int32) (z84 : Int32 × Int32 × Int32 × St) : Option ((Int32 × Int32 × Int32 × St) ⊕ (Int32 × Int32 × St)) :=
  if (5 : Int32) ≤ z84.2.2.1 then (some (.inr (z84.1, z84.2.1, z84.2.2.2))) else ((iter (f_X6_deepest_L93   x2 z84.1 z84.2.1 z84.2.2.1) FU ((0 : Int32), z84.2.2.2)).bind (fun (S15 : St) => (iter (f_X6_deepest_L118   x2 z84.2.2.1) FU (z84.1, z84.2.1, (0 : Int32), S15)).bind (fun (u37 : Int32 × Int32 × St) => (fun (e30 : Int32) (e31 : Int32) (S32 : St) => (iter (f_X6_deepest_L229   x2 e30 e31 z84.2.2.1) FU ((0 : Int32), S32)).bind (fun (S35 : St) => some (.inl (e30, e31, (z84.2.2.1 + 1), S35)))) u37.1 u37.2.1 u37.2.2)))
def f_X6_deepest (S : St) (x1 : Int32) (x2 : Int32) : Option (Int32 × St) :=
  (f_X6_isMirror  S x1).bind (fun (q1 : Int32) => if q1 = 0 then (some ((-1 : Int32), S)) else ((f_X6_in   x2 (0 : Int32) (1 : Int32)).bind (fun (q3 : Int32) => if q3 = 0 then (some ((-1 : Int32), S)) else ((f_X6_copies  S ).bind (fun (q5 : St) => (f_X6_showsAt  q5 x1 (st_I q5 (ky 0 57))).bind (fun (q6 : Int32) => if 0 ≤ q6 then ((iter (f_X6_deepest_L46   x1 x2 q6 (1 : Int32)) FU ((0 : Int32), q5)).bind (fun (S10 : St) => chk (ib (((300 : Int32) * x1) + q6) 2400) (lt_v (up_A S10 (ky 0 63) (upd (st_A S10 (ky 0 63)) (((300 : Int32) * x1) + q6).toNatClampNeg (vp_nar .boolean (1 : Int32)))) (fun (S11 : St) => (iter (f_X6_deepest_L84   x2) FU (q6, (1 : Int32), (2 : Int32), S11)).bind (fun (u43 : Int32 × Int32 × St) => (fun (e39 : Int32) (e40 : Int32) (S41 : St) => if x2 = 0 then (some (e39, S41)) else (some (e40, S41))) u43.1 u43.2.1 u43.2.2))))) else (some ((-2 : Int32), q5))))))))
set_option maxRecDepth 100000 in
set_option maxHeartbeats 4000000 in
theorem k_X6_deepest (l : Launch) (g : GG) (hg : gd wd_M g)  (hM : hs wd_M g 0 6) (S : St) (x1 : Int32) (x2 : Int32) (q : Int32 × St) (hf : f_X6_deepest  S x1 x2 = some q) : Met l yX6_deepest (Cond.code yX6_deepest cX6_deepest 9 (some .int) :: gw_tbl) rm_X6_deepest (va_Pc [.ref (gg_o g 0), .int x1, .int x2] (wI wd_M g S)) (qc_w wd_M g q) 0 0 (aw g) := by
  refine mt_start (own := RX6) hg (by decide) rfl (Nat.le_of_ble_eq_true rfl) (fun p e s m args below meth c ls H locs cx hw hr hlk hl => ?_)
  have hx := cx.1
  have hb := cx.2.1
  have hown := cx.2.2.2.1
  have hts := cx.2.2.2.2.1
  have hl : lv_has ls 9 [(0, .ref (gg_o g 0)), (1, .int x1), (2, .int x2)] := hl
  replace hf := h_top hf
  unfold f_X6_deepest at hf
  refine lv_aload_n hx hb dX6_deepest_0 rfl (lv_at hl 0 rfl) ?_
  refine lv_iload_n hx hb dX6_deepest_1 rfl (lv_at hl 1 rfl) ?_
  refine r_V_i (As := [.int x1]) (rest := []) cx hw hf hM.2.1 (by rw [hM.1]; rfl) lk_X6_416 (fun q1 hq => k_X6_isMirror l g hg  hM S x1 q1 hq) ⟨⟨rfl, rfl⟩, Nat.le_of_ble_eq_true rfl, Nat.le_of_ble_eq_true rfl⟩ rfl hl.1 rfl (Nat.le_of_ble_eq_true rfl) dX6_deepest_2 ⟨Nat.zero_le _, Nat.zero_le _⟩ (fun q1 H locs hw hf => ?_)
  refine lv_if_eq hx hb dX6_deepest_5 (tgt := 17) rfl (fun hc2 => ?_) (fun hc2 => ?_)
  · replace hf := h_pos hc2 hf
    refine lv_iconst (v := -1) hx hb dX6_deepest_17 (by decide) ?_
    exact r_iretw cx hw hr hlk hf dX6_deepest_18
  replace hf := h_neg hc2 hf
  refine lv_iload_n hx hb dX6_deepest_8 rfl (lv_at hl 2 rfl) ?_
  refine lv_iconst (v := 0) hx hb dX6_deepest_9 (by decide) ?_
  refine lv_iconst (v := 1) hx hb dX6_deepest_10 (by decide) ?_
  refine r_S_i (As := [.int x2, .int (0 : Int32), .int (1 : Int32)]) (rest := []) cx hw hf lk_X6_341 (fun q3 hq => k_X6_in l g hg   S x2 (0 : Int32) (1 : Int32) q3 hq) ⟨⟨rfl, rfl⟩, Nat.le_of_ble_eq_true rfl, Nat.le_of_ble_eq_true rfl⟩ rfl hl.1 rfl (Nat.le_of_ble_eq_true rfl) dX6_deepest_11 ⟨Nat.zero_le _, Nat.zero_le _⟩ (fun q3 H locs hw hf => ?_)
  refine lv_if_ne hx hb dX6_deepest_14 (tgt := 19) rfl (fun hc4 => ?_) (fun hc4 => ?_)
  · replace hf := h_neg hc4 hf
    refine lv_aload_n hx hb dX6_deepest_19 rfl (lv_at hl 0 rfl) ?_
    refine r_V_v (As := []) (rest := []) cx hw hf hM.2.1 (by rw [hM.1]; rfl) lk_X6_419 (fun q5 hq => k_X6_copies l g hg  hM S  q5 hq) ⟨⟨rfl, rfl⟩, Nat.le_of_ble_eq_true rfl, Nat.le_of_ble_eq_true rfl⟩ rfl hl.1 rfl (Nat.le_of_ble_eq_true rfl) dX6_deepest_20 ⟨Nat.zero_le _, Nat.zero_le _⟩ (fun q5 H locs hw hf => ?_)
    refine lv_aload_n hx hb dX6_deepest_23 rfl (lv_at hl 0 rfl) ?_
    refine lv_iload_n hx hb dX6_deepest_24 rfl (lv_at hl 1 rfl) ?_
    refine lv_aload_n hx hb dX6_deepest_25 rfl (lv_at hl 0 rfl) ?_
    refine gf_X6_348 cx hw hM dX6_deepest_26 ?_
    refine r_V_i (As := [.int x1, .int (st_I q5 (ky 0 57))]) (rest := []) cx hw hf hM.2.1 (by rw [hM.1]; rfl) lk_X6_395 (fun q6 hq => k_X6_showsAt l g hg  hM q5 x1 (st_I q5 (ky 0 57)) q6 hq) ⟨⟨rfl, rfl⟩, Nat.le_of_ble_eq_true rfl, Nat.le_of_ble_eq_true rfl⟩ rfl hl.1 rfl (Nat.le_of_ble_eq_true rfl) dX6_deepest_29 ⟨Nat.zero_le _, Nat.zero_le _⟩ (fun q6 H locs hw hf => ?_)
    refine lv_istore_n hx hb dX6_deepest_32 rfl hl (by decide) (lv' := [(3, .int q6), (0, .ref (gg_o g 0)), (1, .int x1), (2, .int x2)]) rfl (fun ls hl => ?_)
    refine lv_iload_n hx hb dX6_deepest_33 rfl (lv_at hl 0 rfl) ?_
    refine lv_if_ge hx hb dX6_deepest_34 (tgt := 40) rfl (fun hc7 => ?_) (fun hc7 => ?_)
    · replace hf := h_pos hc7 hf
      refine lv_iconst (v := 1) hx hb dX6_deepest_40 (by decide) ?_
      refine lv_istore hx hb dX6_deepest_41 hl (by decide) (lv' := [(4, .int (1 : Int32)), (3, .int q6), (0, .ref (gg_o g 0)), (1, .int x1), (2, .int x2)]) rfl (fun ls hl => ?_)
      refine lv_iconst (v := 0) hx hb dX6_deepest_43 (by decide) ?_
      refine lv_istore hx hb dX6_deepest_44 hl (by decide) (lv' := [(5, .int (0 : Int32)), (4, .int (1 : Int32)), (3, .int q6), (0, .ref (gg_o g 0)), (1, .int x1), (2, .int x2)]) rfl (fun ls hl => ?_)
      have L46 : ∀ (x1 : Int32) (x2 : Int32) (x3 : Int32) (x4 : Int32) (aft46 : St → Option (Int32 × St)), (∀ (ls : Array Slot) (H : Heap) (locs : List Loc) (S1 : St), lv_has ls 9 [(0, .ref (gg_o g 0)), (1, .int x1), (2, .int x2), (3, .int x3), (4, .int x4)] → HH wd_M g s S1 H locs → aft46 S1 = some q → W p l e rm_X6_deepest s m args below meth c H locs 0 0 (MQ below (qc_w wd_M g q) args s 0 0 (aw g)) (F0 m 68 ls [])) → ∀ (n46 : Nat) (ls : Array Slot) (H : Heap) (locs : List Loc) (z46 : Int32 × St), lv_has ls 9 [(0, .ref (gg_o g 0)), (1, .int x1), (2, .int x2), (3, .int x3), (4, .int x4), (5, .int z46.1)] → HH wd_M g s z46.2 H locs → (iter (f_X6_deepest_L46   x1 x2 x3 x4) n46 z46).bind aft46 = some q → W p l e rm_X6_deepest s m args below meth c H locs 0 0 (MQ below (qc_w wd_M g q) args s 0 0 (aw g)) (F0 m 46 ls []) := by
        intro x1 x2 x3 x4 aft46 hX46 n46
        induction n46 with
        | zero => intro ls H locs z46 hl hw hf; exact h_iter0 hf
        | succ n46 ih46 =>
          intro ls H locs z46 hl hw hf
          replace hf := h_iter hf
          unfold f_X6_deepest_L46 at hf
          refine lv_iload hx hb dX6_deepest_46 (lv_at hl 5 rfl) ?_
          refine lv_sipush (v := 2400) hx hb dX6_deepest_48 (by decide) ?_
          refine lv_icmp_ge hx hb dX6_deepest_51 (tgt := 68) rfl (fun hc8 => ?_) (fun hc8 => ?_)
          · replace hf := h_pos hc8 hf
            exact hX46 _ _ _ z46.2 (lv_sub hl [0, 1, 2, 3, 4] rfl) hw hf
          replace hf := h_neg hc8 hf
          refine lv_aload_n hx hb dX6_deepest_54 rfl (lv_at hl 0 rfl) ?_
          refine gf_X6_143 cx hw hM dX6_deepest_55 ?_
          refine lv_iload hx hb dX6_deepest_58 (lv_at hl 5 rfl) ?_
          refine lv_iconst (v := 0) hx hb dX6_deepest_60 (by decide) ?_
          refine r_zast cx hw (hM.2.2.1 63 rfl) rfl rfl hf dX6_deepest_61 (fun S9 H locs hw hf => ?_)
          refine lv_iinc hx hb dX6_deepest_62 hl (k := 5) rfl (congrArg (HAdd.hAdd _) (show Int32.ofInt (1) = 1 by decide)) (by decide) (lv' := [(5, .int (z46.1 + 1)), (0, .ref (gg_o g 0)), (1, .int x1), (2, .int x2), (3, .int x3), (4, .int x4)]) rfl (fun ls hl => ?_)
          refine lv_goto hx hb dX6_deepest_65 (tgt := 46) rfl ?_
          exact ih46 _ _ _ ((z46.1 + 1), S9) (lv_sub hl [1, 2, 3, 4, 5, 0] rfl) hw hf
      refine L46 x1 x2 q6 (1 : Int32) _ (fun ls H locs S10 hl hw hf => ?_) FU _ _ _ ((0 : Int32), q5) (lv_sub hl [3, 4, 5, 2, 1, 0] rfl) hw (h_assoc hf)
      try dsimp only at hf
      refine lv_aload_n hx hb dX6_deepest_68 rfl (lv_at hl 0 rfl) ?_
      refine gf_X6_143 cx hw hM dX6_deepest_69 ?_
      refine lv_sipush (v := 300) hx hb dX6_deepest_72 (by decide) ?_
      refine lv_iload_n hx hb dX6_deepest_75 rfl (lv_at hl 1 rfl) ?_
      refine lv_imul hx hb dX6_deepest_76 ?_
      refine lv_iload_n hx hb dX6_deepest_77 rfl (lv_at hl 3 rfl) ?_
      refine lv_iadd hx hb dX6_deepest_78 ?_
      refine lv_iconst (v := 1) hx hb dX6_deepest_79 (by decide) ?_
      refine r_zast cx hw (hM.2.2.1 63 rfl) rfl rfl hf dX6_deepest_80 (fun S11 H locs hw hf => ?_)
      refine lv_iconst (v := 2) hx hb dX6_deepest_81 (by decide) ?_
      refine lv_istore hx hb dX6_deepest_82 hl (by decide) (lv' := [(5, .int (2 : Int32)), (0, .ref (gg_o g 0)), (1, .int x1), (2, .int x2), (3, .int q6), (4, .int (1 : Int32))]) rfl (fun ls hl => ?_)
      have L84 : ∀ (x2 : Int32) (aft84 : (Int32 × Int32 × St) → Option (Int32 × St)), (∀ (ls : Array Slot) (H : Heap) (locs : List Loc) (e3 : Int32) (e4 : Int32) (S1 : St), lv_has ls 9 [(2, .int x2), (3, .int e3), (4, .int e4)] → HH wd_M g s S1 H locs → aft84 (e3, e4, S1) = some q → W p l e rm_X6_deepest s m args below meth c H locs 0 0 (MQ below (qc_w wd_M g q) args s 0 0 (aw g)) (F0 m 263 ls [])) → ∀ (n84 : Nat) (ls : Array Slot) (H : Heap) (locs : List Loc) (z84 : Int32 × Int32 × Int32 × St), lv_has ls 9 [(0, .ref (gg_o g 0)), (2, .int x2), (3, .int z84.1), (4, .int z84.2.1), (5, .int z84.2.2.1)] → HH wd_M g s z84.2.2.2 H locs → (iter (f_X6_deepest_L84   x2) n84 z84).bind aft84 = some q → W p l e rm_X6_deepest s m args below meth c H locs 0 0 (MQ below (qc_w wd_M g q) args s 0 0 (aw g)) (F0 m 84 ls []) := by
        intro x2 aft84 hX84 n84
        induction n84 with
        | zero => intro ls H locs z84 hl hw hf; exact h_iter0 hf
        | succ n84 ih84 =>
          intro ls H locs z84 hl hw hf
          replace hf := h_iter hf
          unfold f_X6_deepest_L84 at hf
          refine lv_iload hx hb dX6_deepest_84 (lv_at hl 4 rfl) ?_
          refine lv_iconst (v := 5) hx hb dX6_deepest_86 (by decide) ?_
          refine lv_icmp_ge hx hb dX6_deepest_87 (tgt := 263) rfl (fun hc12 => ?_) (fun hc12 => ?_)
          · replace hf := h_pos hc12 hf
            exact hX84 _ _ _ z84.1 z84.2.1 z84.2.2.2 (lv_sub hl [1, 2, 3] rfl) hw hf
          replace hf := h_neg hc12 hf
          refine lv_iconst (v := 0) hx hb dX6_deepest_90 (by decide) ?_
          refine lv_istore hx hb dX6_deepest_91 hl (by decide) (lv' := [(6, .int (0 : Int32)), (0, .ref (gg_o g 0)), (2, .int x2), (3, .int z84.1), (4, .int z84.2.1), (5, .int z84.2.2.1)]) rfl (fun ls hl => ?_)
          have L93 : ∀ (x2 : Int32) (x3 : Int32) (x4 : Int32) (x5 : Int32) (aft93 : St → Option (Int32 × St)), (∀ (ls : Array Slot) (H : Heap) (locs : List Loc) (S1 : St), lv_has ls 9 [(0, .ref (gg_o g 0)), (2, .int x2), (3, .int x3), (4, .int x4), (5, .int x5)] → HH wd_M g s S1 H locs → aft93 S1 = some q → W p l e rm_X6_deepest s m args below meth c H locs 0 0 (MQ below (qc_w wd_M g q) args s 0 0 (aw g)) (F0 m 115 ls [])) → ∀ (n93 : Nat) (ls : Array Slot) (H : Heap) (locs : List Loc) (z93 : Int32 × St), lv_has ls 9 [(0, .ref (gg_o g 0)), (2, .int x2), (3, .int x3), (4, .int x4), (5, .int x5), (6, .int z93.1)] → HH wd_M g s z93.2 H locs → (iter (f_X6_deepest_L93   x2 x3 x4 x5) n93 z93).bind aft93 = some q → W p l e rm_X6_deepest s m args below meth c H locs 0 0 (MQ below (qc_w wd_M g q) args s 0 0 (aw g)) (F0 m 93 ls []) := by
            intro x2 x3 x4 x5 aft93 hX93 n93
            induction n93 with
            | zero => intro ls H locs z93 hl hw hf; exact h_iter0 hf
            | succ n93 ih93 =>
              intro ls H locs z93 hl hw hf
              replace hf := h_iter hf
              unfold f_X6_deepest_L93 at hf
              refine lv_iload hx hb dX6_deepest_93 (lv_at hl 5 rfl) ?_
              refine lv_sipush (v := 2400) hx hb dX6_deepest_95 (by decide) ?_
              refine lv_icmp_ge hx hb dX6_deepest_98 (tgt := 115) rfl (fun hc13 => ?_) (fun hc13 => ?_)
              · replace hf := h_pos hc13 hf
                exact hX93 _ _ _ z93.2 (lv_sub hl [0, 1, 2, 3, 4] rfl) hw hf
              replace hf := h_neg hc13 hf
              refine lv_aload_n hx hb dX6_deepest_101 rfl (lv_at hl 0 rfl) ?_
              refine gf_X6_146 cx hw hM dX6_deepest_102 ?_
              refine lv_iload hx hb dX6_deepest_105 (lv_at hl 5 rfl) ?_
              refine lv_iconst (v := 0) hx hb dX6_deepest_107 (by decide) ?_
              refine r_zast cx hw (hM.2.2.1 64 rfl) rfl rfl hf dX6_deepest_108 (fun S14 H locs hw hf => ?_)
              refine lv_iinc hx hb dX6_deepest_109 hl (k := 5) rfl (congrArg (HAdd.hAdd _) (show Int32.ofInt (1) = 1 by decide)) (by decide) (lv' := [(6, .int (z93.1 + 1)), (0, .ref (gg_o g 0)), (2, .int x2), (3, .int x3), (4, .int x4), (5, .int x5)]) rfl (fun ls hl => ?_)
              refine lv_goto hx hb dX6_deepest_112 (tgt := 93) rfl ?_
              exact ih93 _ _ _ ((z93.1 + 1), S14) (lv_sub hl [1, 2, 3, 4, 5, 0] rfl) hw hf
          refine L93 x2 z84.1 z84.2.1 z84.2.2.1 _ (fun ls H locs S15 hl hw hf => ?_) FU _ _ _ ((0 : Int32), z84.2.2.2) (lv_sub hl [1, 2, 3, 4, 5, 0] rfl) hw (h_assoc hf)
          try dsimp only at hf
          refine lv_iconst (v := 0) hx hb dX6_deepest_115 (by decide) ?_
          refine lv_istore hx hb dX6_deepest_116 hl (by decide) (lv' := [(6, .int (0 : Int32)), (0, .ref (gg_o g 0)), (2, .int x2), (3, .int z84.1), (4, .int z84.2.1), (5, .int z84.2.2.1)]) rfl (fun ls hl => ?_)
          have L118 : ∀ (x2 : Int32) (x5 : Int32) (aft118 : (Int32 × Int32 × St) → Option (Int32 × St)), (∀ (ls : Array Slot) (H : Heap) (locs : List Loc) (e3 : Int32) (e4 : Int32) (S1 : St), lv_has ls 9 [(0, .ref (gg_o g 0)), (2, .int x2), (3, .int e3), (4, .int e4), (5, .int x5)] → HH wd_M g s S1 H locs → aft118 (e3, e4, S1) = some q → W p l e rm_X6_deepest s m args below meth c H locs 0 0 (MQ below (qc_w wd_M g q) args s 0 0 (aw g)) (F0 m 226 ls [])) → ∀ (n118 : Nat) (ls : Array Slot) (H : Heap) (locs : List Loc) (z118 : Int32 × Int32 × Int32 × St), lv_has ls 9 [(0, .ref (gg_o g 0)), (2, .int x2), (3, .int z118.1), (4, .int z118.2.1), (5, .int x5), (6, .int z118.2.2.1)] → HH wd_M g s z118.2.2.2 H locs → (iter (f_X6_deepest_L118   x2 x5) n118 z118).bind aft118 = some q → W p l e rm_X6_deepest s m args below meth c H locs 0 0 (MQ below (qc_w wd_M g q) args s 0 0 (aw g)) (F0 m 118 ls []) := by
            intro x2 x5 aft118 hX118 n118
            induction n118 with
            | zero => intro ls H locs z118 hl hw hf; exact h_iter0 hf
            | succ n118 ih118 =>
              intro ls H locs z118 hl hw hf
              replace hf := h_iter hf
              unfold f_X6_deepest_L118 at hf
              refine lv_iload hx hb dX6_deepest_118 (lv_at hl 5 rfl) ?_
              refine lv_sipush (v := 2400) hx hb dX6_deepest_120 (by decide) ?_
              refine lv_icmp_ge hx hb dX6_deepest_123 (tgt := 226) rfl (fun hc16 => ?_) (fun hc16 => ?_)
              · replace hf := h_pos hc16 hf
                exact hX118 _ _ _ z118.1 z118.2.1 z118.2.2.2 (lv_sub hl [0, 1, 2, 3, 4] rfl) hw hf
              replace hf := h_neg hc16 hf
              refine lv_aload_n hx hb dX6_deepest_126 rfl (lv_at hl 0 rfl) ?_
              refine gf_X6_143 cx hw hM dX6_deepest_127 ?_
              refine lv_iload hx hb dX6_deepest_130 (lv_at hl 5 rfl) ?_
              refine r_zald cx hw (hM.2.2.1 63 rfl) rfl rfl hf dX6_deepest_132 (fun hf => ?_)
              refine lv_if_ne hx hb dX6_deepest_133 (tgt := 139) rfl (fun hc17 => ?_) (fun hc17 => ?_)
              · replace hf := h_neg hc17 hf
                refine lv_iconst (v := 0) hx hb dX6_deepest_139 (by decide) ?_
                refine lv_istore hx hb dX6_deepest_140 hl (by decide) (lv' := [(7, .int (0 : Int32)), (0, .ref (gg_o g 0)), (2, .int x2), (3, .int z118.1), (4, .int z118.2.1), (5, .int x5), (6, .int z118.2.2.1)]) rfl (fun ls hl => ?_)
                have L142 : ∀ (x2 : Int32) (x5 : Int32) (x6 : Int32) (aft142 : (Int32 × Int32 × St) → Option (Int32 × St)), (∀ (ls : Array Slot) (H : Heap) (locs : List Loc) (e3 : Int32) (e4 : Int32) (S1 : St), lv_has ls 9 [(0, .ref (gg_o g 0)), (2, .int x2), (3, .int e3), (4, .int e4), (5, .int x5), (6, .int x6)] → HH wd_M g s S1 H locs → aft142 (e3, e4, S1) = some q → W p l e rm_X6_deepest s m args below meth c H locs 0 0 (MQ below (qc_w wd_M g q) args s 0 0 (aw g)) (F0 m 220 ls [])) → ∀ (n142 : Nat) (ls : Array Slot) (H : Heap) (locs : List Loc) (z142 : Int32 × Int32 × Int32 × St), lv_has ls 9 [(0, .ref (gg_o g 0)), (2, .int x2), (3, .int z142.1), (4, .int z142.2.1), (5, .int x5), (6, .int x6), (7, .int z142.2.2.1)] → HH wd_M g s z142.2.2.2 H locs → (iter (f_X6_deepest_L142   x2 x5 x6) n142 z142).bind aft142 = some q → W p l e rm_X6_deepest s m args below meth c H locs 0 0 (MQ below (qc_w wd_M g q) args s 0 0 (aw g)) (F0 m 142 ls []) := by
                  intro x2 x5 x6 aft142 hX142 n142
                  induction n142 with
                  | zero => intro ls H locs z142 hl hw hf; exact h_iter0 hf
                  | succ n142 ih142 =>
                    intro ls H locs z142 hl hw hf
                    replace hf := h_iter hf
                    unfold f_X6_deepest_L142 at hf
                    have J196 : ∀ (ls : Array Slot) (H : Heap) (locs : List Loc) (S : St) (x3 : Int32) (x4 : Int32) (x7 : Int32) (x8 : Int32), lv_has ls 9 [(0, .ref (gg_o g 0)), (2, .int x2), (3, .int x3), (4, .int x4), (5, .int x5), (6, .int x6), (7, .int x7), (8, .int x8)] → HH wd_M g s S H locs → (f_X6_deepest_J196  S x2 x3 x4 x5 x6 x7 x8).bind (it_K (f_X6_deepest_L142   x2 x5 x6) n142 aft142) = some q → W p l e rm_X6_deepest s m args below meth c H locs 0 0 (MQ below (qc_w wd_M g q) args s 0 0 (aw g)) (F0 m 196 ls []) := by
                      intro ls H locs S x3 x4 x7 x8 hl hw hf
                      unfold f_X6_deepest_J196 at hf
                      refine lv_iload hx hb dX6_deepest_196 (lv_at hl 7 rfl) ?_
                      refine lv_if_lt hx hb dX6_deepest_198 (tgt := 214) rfl (fun hc23 => ?_) (fun hc23 => ?_)
                      · replace hf := h_pos hc23 hf
                        refine lv_iinc hx hb dX6_deepest_214 hl (k := 6) rfl (congrArg (HAdd.hAdd _) (show Int32.ofInt (1) = 1 by decide)) (by decide) (lv' := [(7, .int (x7 + 1)), (0, .ref (gg_o g 0)), (2, .int x2), (3, .int x3), (4, .int x4), (5, .int x5), (6, .int x6), (8, .int x8)]) rfl (fun ls hl => ?_)
                        refine lv_goto hx hb dX6_deepest_217 (tgt := 142) rfl ?_
                        exact ih142 _ _ _ (x3, x4, (x7 + 1), S) (lv_sub hl [1, 2, 3, 4, 5, 6, 0] rfl) hw hf
                      replace hf := h_neg hc23 hf
                      refine lv_iload hx hb dX6_deepest_201 (lv_at hl 7 rfl) ?_
                      refine lv_iload_n hx hb dX6_deepest_203 rfl (lv_at hl 2 rfl) ?_
                      refine lv_icmp_ge hx hb dX6_deepest_204 (tgt := 214) rfl (fun hc24 => ?_) (fun hc24 => ?_)
                      · replace hf := h_pos hc24 hf
                        refine lv_iinc hx hb dX6_deepest_214 hl (k := 6) rfl (congrArg (HAdd.hAdd _) (show Int32.ofInt (1) = 1 by decide)) (by decide) (lv' := [(7, .int (x7 + 1)), (0, .ref (gg_o g 0)), (2, .int x2), (3, .int x3), (4, .int x4), (5, .int x5), (6, .int x6), (8, .int x8)]) rfl (fun ls hl => ?_)
                        refine lv_goto hx hb dX6_deepest_217 (tgt := 142) rfl ?_
                        exact ih142 _ _ _ (x3, x4, (x7 + 1), S) (lv_sub hl [1, 2, 3, 4, 5, 6, 0] rfl) hw hf
                      replace hf := h_neg hc24 hf
                      refine lv_iload hx hb dX6_deepest_207 (lv_at hl 7 rfl) ?_
                      refine lv_istore_n hx hb dX6_deepest_209 rfl hl (by decide) (lv' := [(3, .int x8), (0, .ref (gg_o g 0)), (2, .int x2), (4, .int x4), (5, .int x5), (6, .int x6), (7, .int x7), (8, .int x8)]) rfl (fun ls hl => ?_)
                      refine lv_iload hx hb dX6_deepest_210 (lv_at hl 4 rfl) ?_
                      refine lv_istore hx hb dX6_deepest_212 hl (by decide) (lv' := [(4, .int x5), (3, .int x8), (0, .ref (gg_o g 0)), (2, .int x2), (5, .int x5), (6, .int x6), (7, .int x7), (8, .int x8)]) rfl (fun ls hl => ?_)
                      refine lv_iinc hx hb dX6_deepest_214 hl (k := 6) rfl (congrArg (HAdd.hAdd _) (show Int32.ofInt (1) = 1 by decide)) (by decide) (lv' := [(7, .int (x7 + 1)), (4, .int x5), (3, .int x8), (0, .ref (gg_o g 0)), (2, .int x2), (5, .int x5), (6, .int x6), (8, .int x8)]) rfl (fun ls hl => ?_)
                      refine lv_goto hx hb dX6_deepest_217 (tgt := 142) rfl ?_
                      exact ih142 _ _ _ (x8, x5, (x7 + 1), S) (lv_sub hl [3, 4, 2, 1, 5, 6, 0] rfl) hw hf
                    refine lv_iload hx hb dX6_deepest_142 (lv_at hl 6 rfl) ?_
                    refine lv_aload_n hx hb dX6_deepest_144 rfl (lv_at hl 0 rfl) ?_
                    refine gf_X6_70 cx hw hM dX6_deepest_145 ?_
                    refine lv_aload_n hx hb dX6_deepest_148 rfl (lv_at hl 0 rfl) ?_
                    refine gf_X6_257 cx hw hM dX6_deepest_149 ?_
                    refine r_iald cx hw (hM.2.2.1 31 rfl) rfl rfl hf dX6_deepest_152 (fun hf => ?_)
                    refine lv_icmp_ge hx hb dX6_deepest_153 (tgt := 220) rfl (fun hc18 => ?_) (fun hc18 => ?_)
                    · replace hf := h_pos hc18 hf
                      exact hX142 _ _ _ z142.1 z142.2.1 z142.2.2.2 (lv_sub hl [0, 1, 2, 3, 4, 5] rfl) hw hf
                    replace hf := h_neg hc18 hf
                    refine lv_aload_n hx hb dX6_deepest_156 rfl (lv_at hl 0 rfl) ?_
                    refine lv_iload hx hb dX6_deepest_157 (lv_at hl 5 rfl) ?_
                    refine lv_sipush (v := 300) hx hb dX6_deepest_159 (by decide) ?_
                    obtain ⟨hc19, hf⟩ := h_chk hf
                    refine lv_idiv hx hb dX6_deepest_162 hc19 ?_
                    refine lv_iload hx hb dX6_deepest_163 (lv_at hl 5 rfl) ?_
                    refine lv_sipush (v := 300) hx hb dX6_deepest_165 (by decide) ?_
                    obtain ⟨hc20, hf⟩ := h_chk hf
                    refine lv_irem hx hb dX6_deepest_168 hc20 ?_
                    refine lv_iload hx hb dX6_deepest_169 (lv_at hl 6 rfl) ?_
                    refine r_V_i (As := [.int (x6 / (300 : Int32)), .int (i_rem x6 (300 : Int32)), .int z142.2.2.1]) (rest := []) cx hw hf hM.2.1 (by rw [hM.1]; rfl) lk_X6_440 (fun q21 hq => k_X6_seenIn l g hg  hM z142.2.2.2 (x6 / (300 : Int32)) (i_rem x6 (300 : Int32)) z142.2.2.1 q21 hq) ⟨⟨rfl, rfl⟩, Nat.le_of_ble_eq_true rfl, Nat.le_of_ble_eq_true rfl⟩ rfl hl.1 rfl (Nat.le_of_ble_eq_true rfl) dX6_deepest_171 ⟨Nat.zero_le _, Nat.zero_le _⟩ (fun q21 H locs hw hf => ?_)
                    refine lv_istore hx hb dX6_deepest_174 hl (by decide) (lv' := [(8, .int q21), (0, .ref (gg_o g 0)), (2, .int x2), (3, .int z142.1), (4, .int z142.2.1), (5, .int x5), (6, .int x6), (7, .int z142.2.2.1)]) rfl (fun ls hl => ?_)
                    refine lv_iload hx hb dX6_deepest_176 (lv_at hl 0 rfl) ?_
                    refine lv_if_lt hx hb dX6_deepest_178 (tgt := 196) rfl (fun hc22 => ?_) (fun hc22 => ?_)
                    · replace hf := h_pos hc22 hf
                      exact J196 _ _ _ z142.2.2.2 z142.1 z142.2.1 z142.2.2.1 q21 (lv_sub hl [1, 2, 3, 4, 5, 6, 7, 0] rfl) hw hf
                    replace hf := h_neg hc22 hf
                    refine lv_aload_n hx hb dX6_deepest_181 rfl (lv_at hl 1 rfl) ?_
                    refine gf_X6_146 cx hw hM dX6_deepest_182 ?_
                    refine lv_sipush (v := 300) hx hb dX6_deepest_185 (by decide) ?_
                    refine lv_iload hx hb dX6_deepest_188 (lv_at hl 7 rfl) ?_
                    refine lv_imul hx hb dX6_deepest_190 ?_
                    refine lv_iload hx hb dX6_deepest_191 (lv_at hl 0 rfl) ?_
                    refine lv_iadd hx hb dX6_deepest_193 ?_
                    refine lv_iconst (v := 1) hx hb dX6_deepest_194 (by decide) ?_
                    refine r_zast cx hw (hM.2.2.1 64 rfl) rfl rfl hf dX6_deepest_195 (fun S25 H locs hw hf => ?_)
                    exact J196 _ _ _ S25 z142.1 z142.2.1 z142.2.2.1 q21 (lv_sub hl [1, 2, 3, 4, 5, 6, 7, 0] rfl) hw hf
                refine L142 x2 x5 z118.2.2.1 _ (fun ls H locs e26 e27 S28 hl hw hf => ?_) FU _ _ _ (z118.1, z118.2.1, (0 : Int32), z118.2.2.2) (lv_sub hl [1, 2, 3, 4, 5, 6, 0] rfl) hw (h_assoc hf)
                try dsimp only at hf
                refine lv_iinc hx hb dX6_deepest_220 hl (k := 5) rfl (congrArg (HAdd.hAdd _) (show Int32.ofInt (1) = 1 by decide)) (by decide) (lv' := [(6, .int (z118.2.2.1 + 1)), (0, .ref (gg_o g 0)), (2, .int x2), (3, .int e26), (4, .int e27), (5, .int x5)]) rfl (fun ls hl => ?_)
                refine lv_goto hx hb dX6_deepest_223 (tgt := 118) rfl ?_
                exact ih118 _ _ _ (e26, e27, (z118.2.2.1 + 1), S28) (lv_sub hl [1, 2, 3, 4, 5, 0] rfl) hw hf
              replace hf := h_pos hc17 hf
              refine lv_goto hx hb dX6_deepest_136 (tgt := 220) rfl ?_
              refine lv_iinc hx hb dX6_deepest_220 hl (k := 5) rfl (congrArg (HAdd.hAdd _) (show Int32.ofInt (1) = 1 by decide)) (by decide) (lv' := [(6, .int (z118.2.2.1 + 1)), (0, .ref (gg_o g 0)), (2, .int x2), (3, .int z118.1), (4, .int z118.2.1), (5, .int x5)]) rfl (fun ls hl => ?_)
              refine lv_goto hx hb dX6_deepest_223 (tgt := 118) rfl ?_
              exact ih118 _ _ _ (z118.1, z118.2.1, (z118.2.2.1 + 1), z118.2.2.2) (lv_sub hl [1, 2, 3, 4, 5, 0] rfl) hw hf
          refine L118 x2 z84.2.2.1 _ (fun ls H locs e30 e31 S32 hl hw hf => ?_) FU _ _ _ (z84.1, z84.2.1, (0 : Int32), S15) (lv_sub hl [1, 2, 3, 4, 5, 0] rfl) hw (h_assoc hf)
          try dsimp only at hf
          refine lv_iconst (v := 0) hx hb dX6_deepest_226 (by decide) ?_
          refine lv_istore hx hb dX6_deepest_227 hl (by decide) (lv' := [(6, .int (0 : Int32)), (0, .ref (gg_o g 0)), (2, .int x2), (3, .int e30), (4, .int e31), (5, .int z84.2.2.1)]) rfl (fun ls hl => ?_)
          have L229 : ∀ (x2 : Int32) (x3 : Int32) (x4 : Int32) (x5 : Int32) (aft229 : St → Option (Int32 × St)), (∀ (ls : Array Slot) (H : Heap) (locs : List Loc) (S1 : St), lv_has ls 9 [(0, .ref (gg_o g 0)), (2, .int x2), (3, .int x3), (4, .int x4), (5, .int x5)] → HH wd_M g s S1 H locs → aft229 S1 = some q → W p l e rm_X6_deepest s m args below meth c H locs 0 0 (MQ below (qc_w wd_M g q) args s 0 0 (aw g)) (F0 m 257 ls [])) → ∀ (n229 : Nat) (ls : Array Slot) (H : Heap) (locs : List Loc) (z229 : Int32 × St), lv_has ls 9 [(0, .ref (gg_o g 0)), (2, .int x2), (3, .int x3), (4, .int x4), (5, .int x5), (6, .int z229.1)] → HH wd_M g s z229.2 H locs → (iter (f_X6_deepest_L229   x2 x3 x4 x5) n229 z229).bind aft229 = some q → W p l e rm_X6_deepest s m args below meth c H locs 0 0 (MQ below (qc_w wd_M g q) args s 0 0 (aw g)) (F0 m 229 ls []) := by
            intro x2 x3 x4 x5 aft229 hX229 n229
            induction n229 with
            | zero => intro ls H locs z229 hl hw hf; exact h_iter0 hf
            | succ n229 ih229 =>
              intro ls H locs z229 hl hw hf
              replace hf := h_iter hf
              unfold f_X6_deepest_L229 at hf
              refine lv_iload hx hb dX6_deepest_229 (lv_at hl 5 rfl) ?_
              refine lv_sipush (v := 2400) hx hb dX6_deepest_231 (by decide) ?_
              refine lv_icmp_ge hx hb dX6_deepest_234 (tgt := 257) rfl (fun hc33 => ?_) (fun hc33 => ?_)
              · replace hf := h_pos hc33 hf
                exact hX229 _ _ _ z229.2 (lv_sub hl [0, 1, 2, 3, 4] rfl) hw hf
              replace hf := h_neg hc33 hf
              refine lv_aload_n hx hb dX6_deepest_237 rfl (lv_at hl 0 rfl) ?_
              refine gf_X6_143 cx hw hM dX6_deepest_238 ?_
              refine lv_iload hx hb dX6_deepest_241 (lv_at hl 5 rfl) ?_
              refine lv_aload_n hx hb dX6_deepest_243 rfl (lv_at hl 0 rfl) ?_
              refine gf_X6_146 cx hw hM dX6_deepest_244 ?_
              refine lv_iload hx hb dX6_deepest_247 (lv_at hl 5 rfl) ?_
              refine r_zald cx hw (hM.2.2.1 64 rfl) rfl rfl hf dX6_deepest_249 (fun hf => ?_)
              refine r_zast cx hw (hM.2.2.1 63 rfl) rfl rfl hf dX6_deepest_250 (fun S34 H locs hw hf => ?_)
              refine lv_iinc hx hb dX6_deepest_251 hl (k := 5) rfl (congrArg (HAdd.hAdd _) (show Int32.ofInt (1) = 1 by decide)) (by decide) (lv' := [(6, .int (z229.1 + 1)), (0, .ref (gg_o g 0)), (2, .int x2), (3, .int x3), (4, .int x4), (5, .int x5)]) rfl (fun ls hl => ?_)
              refine lv_goto hx hb dX6_deepest_254 (tgt := 229) rfl ?_
              exact ih229 _ _ _ ((z229.1 + 1), S34) (lv_sub hl [1, 2, 3, 4, 5, 0] rfl) hw hf
          refine L229 x2 e30 e31 z84.2.2.1 _ (fun ls H locs S35 hl hw hf => ?_) FU _ _ _ ((0 : Int32), S32) (lv_sub hl [1, 2, 3, 4, 5, 0] rfl) hw (h_assoc hf)
          try dsimp only at hf
          refine lv_iinc hx hb dX6_deepest_257 hl (k := 4) rfl (congrArg (HAdd.hAdd _) (show Int32.ofInt (1) = 1 by decide)) (by decide) (lv' := [(5, .int (z84.2.2.1 + 1)), (0, .ref (gg_o g 0)), (2, .int x2), (3, .int e30), (4, .int e31)]) rfl (fun ls hl => ?_)
          refine lv_goto hx hb dX6_deepest_260 (tgt := 84) rfl ?_
          exact ih84 _ _ _ (e30, e31, (z84.2.2.1 + 1), S35) (lv_sub hl [1, 2, 3, 4, 0] rfl) hw hf
      refine L84 x2 _ (fun ls H locs e39 e40 S41 hl hw hf => ?_) FU _ _ _ (q6, (1 : Int32), (2 : Int32), S11) (lv_sub hl [1, 3, 4, 5, 0] rfl) hw (h_assoc hf)
      try dsimp only at hf
      refine lv_iload_n hx hb dX6_deepest_263 rfl (lv_at hl 0 rfl) ?_
      refine lv_if_ne hx hb dX6_deepest_264 (tgt := 271) rfl (fun hc42 => ?_) (fun hc42 => ?_)
      · replace hf := h_neg hc42 hf
        refine lv_iload hx hb dX6_deepest_271 (lv_at hl 2 rfl) ?_
        exact r_iretw cx hw hr hlk hf dX6_deepest_273
      replace hf := h_pos hc42 hf
      refine lv_iload_n hx hb dX6_deepest_267 rfl (lv_at hl 1 rfl) ?_
      refine lv_goto hx hb dX6_deepest_268 (tgt := 273) rfl ?_
      exact r_iretw cx hw hr hlk hf dX6_deepest_273
    replace hf := h_neg hc7 hf
    refine lv_bipush (v := -2) hx hb dX6_deepest_37 (by decide) ?_
    exact r_iretw cx hw hr hlk hf dX6_deepest_39
  replace hf := h_pos hc4 hf
  refine lv_iconst (v := -1) hx hb dX6_deepest_17 (by decide) ?_
  exact r_iretw cx hw hr hlk hf dX6_deepest_18
theorem dX6_last_0 : decode cX6_last 0 = .ok (.aload_n 0, 1) := by decide +kernel
theorem dX6_last_1 : decode cX6_last 1 = .ok (.iload_n 1, 1) := by decide +kernel
theorem dX6_last_2 : decode cX6_last 2 = .ok (.invokevirtual 410, 3) := by decide +kernel
theorem dX6_last_5 : decode cX6_last 5 = .ok (.ifCond .eq 11, 3) := by decide +kernel
theorem dX6_last_8 : decode cX6_last 8 = .ok (.aload_n 0, 1) := by decide +kernel
theorem dX6_last_9 : decode cX6_last 9 = .ok (.iload_n 2, 1) := by decide +kernel
theorem dX6_last_10 : decode cX6_last 10 = .ok (.invokevirtual 437, 3) := by decide +kernel
theorem dX6_last_13 : decode cX6_last 13 = .ok (.ifCond .ne 5, 3) := by decide +kernel
theorem dX6_last_16 : decode cX6_last 16 = .ok (.iconst (-1), 1) := by decide +kernel
theorem dX6_last_17 : decode cX6_last 17 = .ok (.ireturn, 1) := by decide +kernel
theorem dX6_last_18 : decode cX6_last 18 = .ok (.aload_n 0, 1) := by decide +kernel
theorem dX6_last_19 : decode cX6_last 19 = .ok (.getfield 345, 3) := by decide +kernel
theorem dX6_last_22 : decode cX6_last 22 = .ok (.istore_n 3, 1) := by decide +kernel
theorem dX6_last_23 : decode cX6_last 23 = .ok (.iload_n 3, 1) := by decide +kernel
theorem dX6_last_24 : decode cX6_last 24 = .ok (.ifCond .lt 26, 3) := by decide +kernel
theorem dX6_last_27 : decode cX6_last 27 = .ok (.aload_n 0, 1) := by decide +kernel
theorem dX6_last_28 : decode cX6_last 28 = .ok (.getfield 122, 3) := by decide +kernel
theorem dX6_last_31 : decode cX6_last 31 = .ok (.bipush 36, 2) := by decide +kernel
theorem dX6_last_33 : decode cX6_last 33 = .ok (.iload_n 3, 1) := by decide +kernel
theorem dX6_last_34 : decode cX6_last 34 = .ok (.imul, 1) := by decide +kernel
theorem dX6_last_35 : decode cX6_last 35 = .ok (.iload_n 1, 1) := by decide +kernel
theorem dX6_last_36 : decode cX6_last 36 = .ok (.iadd, 1) := by decide +kernel
theorem dX6_last_37 : decode cX6_last 37 = .ok (.iaload, 1) := by decide +kernel
theorem dX6_last_38 : decode cX6_last 38 = .ok (.iload_n 2, 1) := by decide +kernel
theorem dX6_last_39 : decode cX6_last 39 = .ok (.if_icmp .ne 5, 3) := by decide +kernel
theorem dX6_last_42 : decode cX6_last 42 = .ok (.iload_n 3, 1) := by decide +kernel
theorem dX6_last_43 : decode cX6_last 43 = .ok (.ireturn, 1) := by decide +kernel
theorem dX6_last_44 : decode cX6_last 44 = .ok (.iinc 3 (-1), 3) := by decide +kernel
theorem dX6_last_47 : decode cX6_last 47 = .ok (.goto (-24), 3) := by decide +kernel
theorem dX6_last_50 : decode cX6_last 50 = .ok (.bipush (-2), 2) := by decide +kernel
theorem dX6_last_52 : decode cX6_last 52 = .ok (.ireturn, 1) := by decide +kernel
abbrev rm_X6_last : Room := { frames := 2, cells := 0, slots := 0, locals := 43 }
def f_X6_last_L23 (S : St) (x1 : Int32) (x2 : Int32) (z23 : Int32) : Option ((Int32) ⊕ (Int32)) :=
  if z23 < 0 then (some (.inr (-2 : Int32))) else (chk (ib (((36 : Int32) * z23) + x1) 10800) (if (st_A S (ky 0 52) (((36 : Int32) * z23) + x1).toNatClampNeg) = x2 then (some (.inr z23)) else (some (.inl (z23 + (-1))))))
def f_X6_last (S : St) (x1 : Int32) (x2 : Int32) : Option (Int32) :=
  (f_X6_isMan  S x1).bind (fun (q1 : Int32) => if q1 = 0 then (some (-1 : Int32)) else ((f_X6_isRoom  S x2).bind (fun (q3 : Int32) => if q3 = 0 then (some (-1 : Int32)) else (iter (f_X6_last_L23  S x1 x2) FU (st_I S (ky 0 53))))))
set_option maxRecDepth 100000 in
set_option maxHeartbeats 4000000 in
theorem k_X6_last (l : Launch) (g : GG) (hg : gd wd_M g)  (hM : hs wd_M g 0 6) (S : St) (x1 : Int32) (x2 : Int32) (q : Int32) (hf : f_X6_last  S x1 x2 = some q) : Met l yX6_last (Cond.code yX6_last cX6_last 4 (some .int) :: gw_tbl) rm_X6_last (va_Pc [.ref (gg_o g 0), .int x1, .int x2] (wI wd_M g S)) (qc_i wd_M g S q) 0 0 (aw g) := by
  refine mt_start (own := RX6) hg (by decide) rfl (Nat.le_of_ble_eq_true rfl) (fun p e s m args below meth c ls H locs cx hw hr hlk hl => ?_)
  have hx := cx.1
  have hb := cx.2.1
  have hown := cx.2.2.2.1
  have hts := cx.2.2.2.2.1
  have hl : lv_has ls 4 [(0, .ref (gg_o g 0)), (1, .int x1), (2, .int x2)] := hl
  replace hf := h_top hf
  unfold f_X6_last at hf
  refine lv_aload_n hx hb dX6_last_0 rfl (lv_at hl 0 rfl) ?_
  refine lv_iload_n hx hb dX6_last_1 rfl (lv_at hl 1 rfl) ?_
  refine r_V_i (As := [.int x1]) (rest := []) cx hw hf hM.2.1 (by rw [hM.1]; rfl) lk_X6_410 (fun q1 hq => k_X6_isMan l g hg  hM S x1 q1 hq) ⟨⟨rfl, rfl⟩, Nat.le_of_ble_eq_true rfl, Nat.le_of_ble_eq_true rfl⟩ rfl hl.1 rfl (Nat.le_of_ble_eq_true rfl) dX6_last_2 ⟨Nat.zero_le _, Nat.zero_le _⟩ (fun q1 H locs hw hf => ?_)
  refine lv_if_eq hx hb dX6_last_5 (tgt := 16) rfl (fun hc2 => ?_) (fun hc2 => ?_)
  · replace hf := h_pos hc2 hf
    refine lv_iconst (v := -1) hx hb dX6_last_16 (by decide) ?_
    exact r_iret cx hw hr hlk hf dX6_last_17
  replace hf := h_neg hc2 hf
  refine lv_aload_n hx hb dX6_last_8 rfl (lv_at hl 0 rfl) ?_
  refine lv_iload_n hx hb dX6_last_9 rfl (lv_at hl 2 rfl) ?_
  refine r_V_i (As := [.int x2]) (rest := []) cx hw hf hM.2.1 (by rw [hM.1]; rfl) lk_X6_437 (fun q3 hq => k_X6_isRoom l g hg  hM S x2 q3 hq) ⟨⟨rfl, rfl⟩, Nat.le_of_ble_eq_true rfl, Nat.le_of_ble_eq_true rfl⟩ rfl hl.1 rfl (Nat.le_of_ble_eq_true rfl) dX6_last_10 ⟨Nat.zero_le _, Nat.zero_le _⟩ (fun q3 H locs hw hf => ?_)
  refine lv_if_ne hx hb dX6_last_13 (tgt := 18) rfl (fun hc4 => ?_) (fun hc4 => ?_)
  · replace hf := h_neg hc4 hf
    refine lv_aload_n hx hb dX6_last_18 rfl (lv_at hl 0 rfl) ?_
    refine gf_X6_345 cx hw hM dX6_last_19 ?_
    refine lv_istore_n hx hb dX6_last_22 rfl hl (by decide) (lv' := [(3, .int (st_I S (ky 0 53))), (0, .ref (gg_o g 0)), (1, .int x1), (2, .int x2)]) rfl (fun ls hl => ?_)
    have L23 : ∀ (x1 : Int32) (x2 : Int32) (aft23 : Int32 → Option (Int32)), (∀ v : Int32, aft23 v = some q → (some v : Option (Int32)).bind some = some q) → ∀ (n23 : Nat) (ls : Array Slot) (H : Heap) (locs : List Loc) (z23 : Int32), lv_has ls 4 [(0, .ref (gg_o g 0)), (1, .int x1), (2, .int x2), (3, .int z23)] → HH wd_M g s S H locs → (iter (f_X6_last_L23  S x1 x2) n23 z23).bind aft23 = some q → W p l e rm_X6_last s m args below meth c H locs 0 0 (MQ below (qc_i wd_M g S q) args s 0 0 (aw g)) (F0 m 23 ls []) := by
      intro x1 x2 aft23 hR23 n23
      induction n23 with
      | zero => intro ls H locs z23 hl hw hf; exact h_iter0 hf
      | succ n23 ih23 =>
        intro ls H locs z23 hl hw hf
        replace hf := h_iter hf
        unfold f_X6_last_L23 at hf
        refine lv_iload_n hx hb dX6_last_23 rfl (lv_at hl 3 rfl) ?_
        refine lv_if_lt hx hb dX6_last_24 (tgt := 50) rfl (fun hc5 => ?_) (fun hc5 => ?_)
        · replace hf := h_pos hc5 hf
          refine lv_bipush (v := -2) hx hb dX6_last_50 (by decide) ?_
          replace hf := hR23 (-2 : Int32) hf
          exact r_iret cx hw hr hlk hf dX6_last_52
        replace hf := h_neg hc5 hf
        refine lv_aload_n hx hb dX6_last_27 rfl (lv_at hl 0 rfl) ?_
        refine gf_X6_122 cx hw hM dX6_last_28 ?_
        refine lv_bipush (v := 36) hx hb dX6_last_31 (by decide) ?_
        refine lv_iload_n hx hb dX6_last_33 rfl (lv_at hl 3 rfl) ?_
        refine lv_imul hx hb dX6_last_34 ?_
        refine lv_iload_n hx hb dX6_last_35 rfl (lv_at hl 1 rfl) ?_
        refine lv_iadd hx hb dX6_last_36 ?_
        refine r_iald cx hw (hM.2.2.1 52 rfl) rfl rfl hf dX6_last_37 (fun hf => ?_)
        refine lv_iload_n hx hb dX6_last_38 rfl (lv_at hl 2 rfl) ?_
        refine lv_icmp_ne hx hb dX6_last_39 (tgt := 44) rfl (fun hc6 => ?_) (fun hc6 => ?_)
        · replace hf := h_neg hc6 hf
          refine lv_iinc hx hb dX6_last_44 hl (k := 3) rfl (congrArg (HAdd.hAdd _) (show Int32.ofInt (-1) = -1 by decide)) (by decide) (lv' := [(3, .int (z23 + (-1))), (0, .ref (gg_o g 0)), (1, .int x1), (2, .int x2)]) rfl (fun ls hl => ?_)
          refine lv_goto hx hb dX6_last_47 (tgt := 23) rfl ?_
          exact ih23 _ _ _ (z23 + (-1)) (lv_sub hl [1, 2, 3, 0] rfl) hw hf
        replace hf := h_pos hc6 hf
        refine lv_iload_n hx hb dX6_last_42 rfl (lv_at hl 3 rfl) ?_
        replace hf := hR23 z23 hf
        exact r_iret cx hw hr hlk hf dX6_last_43
    exact L23 x1 x2 some (fun v h => h) FU _ _ _ (st_I S (ky 0 53)) (lv_sub hl [1, 2, 3, 0] rfl) hw hf
  replace hf := h_pos hc4 hf
  refine lv_iconst (v := -1) hx hb dX6_last_16 (by decide) ?_
  exact r_iret cx hw hr hlk hf dX6_last_17
theorem dX6_visits_0 : decode cX6_visits 0 = .ok (.aload_n 0, 1) := by decide +kernel
theorem dX6_visits_1 : decode cX6_visits 1 = .ok (.iload_n 1, 1) := by decide +kernel
theorem dX6_visits_2 : decode cX6_visits 2 = .ok (.invokevirtual 410, 3) := by decide +kernel
theorem dX6_visits_5 : decode cX6_visits 5 = .ok (.ifCond .eq 16, 3) := by decide +kernel
theorem dX6_visits_8 : decode cX6_visits 8 = .ok (.iload_n 2, 1) := by decide +kernel
theorem dX6_visits_9 : decode cX6_visits 9 = .ok (.iconst (-1), 1) := by decide +kernel
theorem dX6_visits_10 : decode cX6_visits 10 = .ok (.if_icmp .eq 13, 3) := by decide +kernel
theorem dX6_visits_13 : decode cX6_visits 13 = .ok (.aload_n 0, 1) := by decide +kernel
theorem dX6_visits_14 : decode cX6_visits 14 = .ok (.iload_n 2, 1) := by decide +kernel
theorem dX6_visits_15 : decode cX6_visits 15 = .ok (.invokevirtual 437, 3) := by decide +kernel
theorem dX6_visits_18 : decode cX6_visits 18 = .ok (.ifCond .ne 5, 3) := by decide +kernel
theorem dX6_visits_21 : decode cX6_visits 21 = .ok (.iconst (-1), 1) := by decide +kernel
theorem dX6_visits_22 : decode cX6_visits 22 = .ok (.ireturn, 1) := by decide +kernel
theorem dX6_visits_23 : decode cX6_visits 23 = .ok (.iconst 0, 1) := by decide +kernel
theorem dX6_visits_24 : decode cX6_visits 24 = .ok (.istore_n 3, 1) := by decide +kernel
theorem dX6_visits_25 : decode cX6_visits 25 = .ok (.iconst 0, 1) := by decide +kernel
theorem dX6_visits_26 : decode cX6_visits 26 = .ok (.istore 4, 2) := by decide +kernel
theorem dX6_visits_28 : decode cX6_visits 28 = .ok (.iload 4, 2) := by decide +kernel
theorem dX6_visits_30 : decode cX6_visits 30 = .ok (.aload_n 0, 1) := by decide +kernel
theorem dX6_visits_31 : decode cX6_visits 31 = .ok (.getfield 345, 3) := by decide +kernel
theorem dX6_visits_34 : decode cX6_visits 34 = .ok (.if_icmp .gt 65, 3) := by decide +kernel
theorem dX6_visits_37 : decode cX6_visits 37 = .ok (.aload_n 0, 1) := by decide +kernel
theorem dX6_visits_38 : decode cX6_visits 38 = .ok (.getfield 122, 3) := by decide +kernel
theorem dX6_visits_41 : decode cX6_visits 41 = .ok (.bipush 36, 2) := by decide +kernel
theorem dX6_visits_43 : decode cX6_visits 43 = .ok (.iload 4, 2) := by decide +kernel
theorem dX6_visits_45 : decode cX6_visits 45 = .ok (.imul, 1) := by decide +kernel
theorem dX6_visits_46 : decode cX6_visits 46 = .ok (.iload_n 1, 1) := by decide +kernel
theorem dX6_visits_47 : decode cX6_visits 47 = .ok (.iadd, 1) := by decide +kernel
theorem dX6_visits_48 : decode cX6_visits 48 = .ok (.iaload, 1) := by decide +kernel
theorem dX6_visits_49 : decode cX6_visits 49 = .ok (.istore 5, 2) := by decide +kernel
theorem dX6_visits_51 : decode cX6_visits 51 = .ok (.iload_n 2, 1) := by decide +kernel
theorem dX6_visits_52 : decode cX6_visits 52 = .ok (.iconst (-1), 1) := by decide +kernel
theorem dX6_visits_53 : decode cX6_visits 53 = .ok (.if_icmp .ne 31, 3) := by decide +kernel
theorem dX6_visits_56 : decode cX6_visits 56 = .ok (.iload 4, 2) := by decide +kernel
theorem dX6_visits_58 : decode cX6_visits 58 = .ok (.ifCond .le 35, 3) := by decide +kernel
theorem dX6_visits_61 : decode cX6_visits 61 = .ok (.aload_n 0, 1) := by decide +kernel
theorem dX6_visits_62 : decode cX6_visits 62 = .ok (.getfield 122, 3) := by decide +kernel
theorem dX6_visits_65 : decode cX6_visits 65 = .ok (.bipush 36, 2) := by decide +kernel
theorem dX6_visits_67 : decode cX6_visits 67 = .ok (.iload 4, 2) := by decide +kernel
theorem dX6_visits_69 : decode cX6_visits 69 = .ok (.imul, 1) := by decide +kernel
theorem dX6_visits_70 : decode cX6_visits 70 = .ok (.bipush 36, 2) := by decide +kernel
theorem dX6_visits_72 : decode cX6_visits 72 = .ok (.isub, 1) := by decide +kernel
theorem dX6_visits_73 : decode cX6_visits 73 = .ok (.iload_n 1, 1) := by decide +kernel
theorem dX6_visits_74 : decode cX6_visits 74 = .ok (.iadd, 1) := by decide +kernel
theorem dX6_visits_75 : decode cX6_visits 75 = .ok (.iaload, 1) := by decide +kernel
theorem dX6_visits_76 : decode cX6_visits 76 = .ok (.iload 5, 2) := by decide +kernel
theorem dX6_visits_78 : decode cX6_visits 78 = .ok (.if_icmp .eq 15, 3) := by decide +kernel
theorem dX6_visits_81 : decode cX6_visits 81 = .ok (.goto 9, 3) := by decide +kernel
theorem dX6_visits_84 : decode cX6_visits 84 = .ok (.iload 5, 2) := by decide +kernel
theorem dX6_visits_86 : decode cX6_visits 86 = .ok (.iload_n 2, 1) := by decide +kernel
theorem dX6_visits_87 : decode cX6_visits 87 = .ok (.if_icmp .ne 6, 3) := by decide +kernel
theorem dX6_visits_90 : decode cX6_visits 90 = .ok (.iinc 3 1, 3) := by decide +kernel
theorem dX6_visits_93 : decode cX6_visits 93 = .ok (.iinc 4 1, 3) := by decide +kernel
theorem dX6_visits_96 : decode cX6_visits 96 = .ok (.goto (-68), 3) := by decide +kernel
theorem dX6_visits_99 : decode cX6_visits 99 = .ok (.iload_n 3, 1) := by decide +kernel
theorem dX6_visits_100 : decode cX6_visits 100 = .ok (.ireturn, 1) := by decide +kernel
abbrev rm_X6_visits : Room := { frames := 2, cells := 0, slots := 0, locals := 43 }
def f_X6_visits_L28 (S : St) (x1 : Int32) (x2 : Int32) (z28 : Int32 × Int32) : Option ((Int32 × Int32) ⊕ (Int32)) :=
  if (st_I S (ky 0 53)) < z28.2 then (some (.inr z28.1)) else (chk (ib (((36 : Int32) * z28.2) + x1) 10800) (lt_v (st_A S (ky 0 52) (((36 : Int32) * z28.2) + x1).toNatClampNeg) (fun (u5 : Int32) => if x2 = (-1 : Int32) then (if z28.2 ≤ 0 then (some (.inl (z28.1, (z28.2 + 1)))) else (chk (ib ((((36 : Int32) * z28.2) - (36 : Int32)) + x1) 10800) (if (st_A S (ky 0 52) ((((36 : Int32) * z28.2) - (36 : Int32)) + x1).toNatClampNeg) = u5 then (some (.inl (z28.1, (z28.2 + 1)))) else (some (.inl ((z28.1 + 1), (z28.2 + 1))))))) else (if u5 = x2 then (some (.inl ((z28.1 + 1), (z28.2 + 1)))) else (some (.inl (z28.1, (z28.2 + 1))))))))
def f_X6_visits_J23 (S : St) (x1 : Int32) (x2 : Int32) : Option (Int32) :=
  iter (f_X6_visits_L28  S x1 x2) FU ((0 : Int32), (0 : Int32))
def f_X6_visits (S : St) (x1 : Int32) (x2 : Int32) : Option (Int32) :=
  (f_X6_isMan  S x1).bind (fun (q1 : Int32) => if q1 = 0 then (some (-1 : Int32)) else (if x2 = (-1 : Int32) then (f_X6_visits_J23  S x1 x2) else ((f_X6_isRoom  S x2).bind (fun (q10 : Int32) => if q10 = 0 then (some (-1 : Int32)) else (f_X6_visits_J23  S x1 x2)))))
set_option maxRecDepth 100000 in
set_option maxHeartbeats 4000000 in
theorem k_X6_visits (l : Launch) (g : GG) (hg : gd wd_M g)  (hM : hs wd_M g 0 6) (S : St) (x1 : Int32) (x2 : Int32) (q : Int32) (hf : f_X6_visits  S x1 x2 = some q) : Met l yX6_visits (Cond.code yX6_visits cX6_visits 6 (some .int) :: gw_tbl) rm_X6_visits (va_Pc [.ref (gg_o g 0), .int x1, .int x2] (wI wd_M g S)) (qc_i wd_M g S q) 0 0 (aw g) := by
  refine mt_start (own := RX6) hg (by decide) rfl (Nat.le_of_ble_eq_true rfl) (fun p e s m args below meth c ls H locs cx hw hr hlk hl => ?_)
  have hx := cx.1
  have hb := cx.2.1
  have hown := cx.2.2.2.1
  have hts := cx.2.2.2.2.1
  have hl : lv_has ls 6 [(0, .ref (gg_o g 0)), (1, .int x1), (2, .int x2)] := hl
  replace hf := h_top hf
  unfold f_X6_visits at hf
  have J23 : ∀ (ls : Array Slot) (H : Heap) (locs : List Loc) (x1 : Int32) (x2 : Int32), lv_has ls 6 [(0, .ref (gg_o g 0)), (1, .int x1), (2, .int x2)] → HH wd_M g s S H locs → (f_X6_visits_J23  S x1 x2).bind some = some q → W p l e rm_X6_visits s m args below meth c H locs 0 0 (MQ below (qc_i wd_M g S q) args s 0 0 (aw g)) (F0 m 23 ls []) := by
    intro ls H locs x1 x2 hl hw hf
    unfold f_X6_visits_J23 at hf
    refine lv_iconst (v := 0) hx hb dX6_visits_23 (by decide) ?_
    refine lv_istore_n hx hb dX6_visits_24 rfl hl (by decide) (lv' := [(3, .int (0 : Int32)), (0, .ref (gg_o g 0)), (1, .int x1), (2, .int x2)]) rfl (fun ls hl => ?_)
    refine lv_iconst (v := 0) hx hb dX6_visits_25 (by decide) ?_
    refine lv_istore hx hb dX6_visits_26 hl (by decide) (lv' := [(4, .int (0 : Int32)), (3, .int (0 : Int32)), (0, .ref (gg_o g 0)), (1, .int x1), (2, .int x2)]) rfl (fun ls hl => ?_)
    have L28 : ∀ (x1 : Int32) (x2 : Int32) (aft28 : Int32 → Option (Int32)), (∀ v : Int32, aft28 v = some q → (some v : Option (Int32)).bind some = some q) → ∀ (n28 : Nat) (ls : Array Slot) (H : Heap) (locs : List Loc) (z28 : Int32 × Int32), lv_has ls 6 [(0, .ref (gg_o g 0)), (1, .int x1), (2, .int x2), (3, .int z28.1), (4, .int z28.2)] → HH wd_M g s S H locs → (iter (f_X6_visits_L28  S x1 x2) n28 z28).bind aft28 = some q → W p l e rm_X6_visits s m args below meth c H locs 0 0 (MQ below (qc_i wd_M g S q) args s 0 0 (aw g)) (F0 m 28 ls []) := by
      intro x1 x2 aft28 hR28 n28
      induction n28 with
      | zero => intro ls H locs z28 hl hw hf; exact h_iter0 hf
      | succ n28 ih28 =>
        intro ls H locs z28 hl hw hf
        replace hf := h_iter hf
        unfold f_X6_visits_L28 at hf
        refine lv_iload hx hb dX6_visits_28 (lv_at hl 4 rfl) ?_
        refine lv_aload_n hx hb dX6_visits_30 rfl (lv_at hl 0 rfl) ?_
        refine gf_X6_345 cx hw hM dX6_visits_31 ?_
        refine lv_icmp_gt hx hb dX6_visits_34 (tgt := 99) rfl (fun hc4 => ?_) (fun hc4 => ?_)
        · replace hf := h_pos hc4 hf
          refine lv_iload_n hx hb dX6_visits_99 rfl (lv_at hl 3 rfl) ?_
          replace hf := hR28 z28.1 hf
          exact r_iret cx hw hr hlk hf dX6_visits_100
        replace hf := h_neg hc4 hf
        refine lv_aload_n hx hb dX6_visits_37 rfl (lv_at hl 0 rfl) ?_
        refine gf_X6_122 cx hw hM dX6_visits_38 ?_
        refine lv_bipush (v := 36) hx hb dX6_visits_41 (by decide) ?_
        refine lv_iload hx hb dX6_visits_43 (lv_at hl 4 rfl) ?_
        refine lv_imul hx hb dX6_visits_45 ?_
        refine lv_iload_n hx hb dX6_visits_46 rfl (lv_at hl 1 rfl) ?_
        refine lv_iadd hx hb dX6_visits_47 ?_
        refine r_iald cx hw (hM.2.2.1 52 rfl) rfl rfl hf dX6_visits_48 (fun hf => ?_)
        refine r_leti hf (fun u5 hf => ?_)
        refine lv_istore hx hb dX6_visits_49 hl (by decide) (lv' := [(5, .int u5), (0, .ref (gg_o g 0)), (1, .int x1), (2, .int x2), (3, .int z28.1), (4, .int z28.2)]) rfl (fun ls hl => ?_)
        refine lv_iload_n hx hb dX6_visits_51 rfl (lv_at hl 3 rfl) ?_
        refine lv_iconst (v := -1) hx hb dX6_visits_52 (by decide) ?_
        refine lv_icmp_ne hx hb dX6_visits_53 (tgt := 84) rfl (fun hc6 => ?_) (fun hc6 => ?_)
        · replace hf := h_neg hc6 hf
          refine lv_iload hx hb dX6_visits_84 (lv_at hl 0 rfl) ?_
          refine lv_iload_n hx hb dX6_visits_86 rfl (lv_at hl 3 rfl) ?_
          refine lv_icmp_ne hx hb dX6_visits_87 (tgt := 93) rfl (fun hc7 => ?_) (fun hc7 => ?_)
          · replace hf := h_neg hc7 hf
            refine lv_iinc hx hb dX6_visits_93 hl (k := 5) rfl (congrArg (HAdd.hAdd _) (show Int32.ofInt (1) = 1 by decide)) (by decide) (lv' := [(4, .int (z28.2 + 1)), (5, .int u5), (0, .ref (gg_o g 0)), (1, .int x1), (2, .int x2), (3, .int z28.1)]) rfl (fun ls hl => ?_)
            refine lv_goto hx hb dX6_visits_96 (tgt := 28) rfl ?_
            exact ih28 _ _ _ (z28.1, (z28.2 + 1)) (lv_sub hl [2, 3, 4, 5, 0] rfl) hw hf
          replace hf := h_pos hc7 hf
          refine lv_iinc hx hb dX6_visits_90 hl (k := 4) rfl (congrArg (HAdd.hAdd _) (show Int32.ofInt (1) = 1 by decide)) (by decide) (lv' := [(3, .int (z28.1 + 1)), (5, .int u5), (0, .ref (gg_o g 0)), (1, .int x1), (2, .int x2), (4, .int z28.2)]) rfl (fun ls hl => ?_)
          refine lv_iinc hx hb dX6_visits_93 hl (k := 5) rfl (congrArg (HAdd.hAdd _) (show Int32.ofInt (1) = 1 by decide)) (by decide) (lv' := [(4, .int (z28.2 + 1)), (3, .int (z28.1 + 1)), (5, .int u5), (0, .ref (gg_o g 0)), (1, .int x1), (2, .int x2)]) rfl (fun ls hl => ?_)
          refine lv_goto hx hb dX6_visits_96 (tgt := 28) rfl ?_
          exact ih28 _ _ _ ((z28.1 + 1), (z28.2 + 1)) (lv_sub hl [3, 4, 5, 1, 0] rfl) hw hf
        replace hf := h_pos hc6 hf
        refine lv_iload hx hb dX6_visits_56 (lv_at hl 5 rfl) ?_
        refine lv_if_le hx hb dX6_visits_58 (tgt := 93) rfl (fun hc8 => ?_) (fun hc8 => ?_)
        · replace hf := h_pos hc8 hf
          refine lv_iinc hx hb dX6_visits_93 hl (k := 5) rfl (congrArg (HAdd.hAdd _) (show Int32.ofInt (1) = 1 by decide)) (by decide) (lv' := [(4, .int (z28.2 + 1)), (5, .int u5), (0, .ref (gg_o g 0)), (1, .int x1), (2, .int x2), (3, .int z28.1)]) rfl (fun ls hl => ?_)
          refine lv_goto hx hb dX6_visits_96 (tgt := 28) rfl ?_
          exact ih28 _ _ _ (z28.1, (z28.2 + 1)) (lv_sub hl [2, 3, 4, 5, 0] rfl) hw hf
        replace hf := h_neg hc8 hf
        refine lv_aload_n hx hb dX6_visits_61 rfl (lv_at hl 1 rfl) ?_
        refine gf_X6_122 cx hw hM dX6_visits_62 ?_
        refine lv_bipush (v := 36) hx hb dX6_visits_65 (by decide) ?_
        refine lv_iload hx hb dX6_visits_67 (lv_at hl 5 rfl) ?_
        refine lv_imul hx hb dX6_visits_69 ?_
        refine lv_bipush (v := 36) hx hb dX6_visits_70 (by decide) ?_
        refine lv_isub hx hb dX6_visits_72 ?_
        refine lv_iload_n hx hb dX6_visits_73 rfl (lv_at hl 2 rfl) ?_
        refine lv_iadd hx hb dX6_visits_74 ?_
        refine r_iald cx hw (hM.2.2.1 52 rfl) rfl rfl hf dX6_visits_75 (fun hf => ?_)
        refine lv_iload hx hb dX6_visits_76 (lv_at hl 0 rfl) ?_
        refine lv_icmp_eq hx hb dX6_visits_78 (tgt := 93) rfl (fun hc9 => ?_) (fun hc9 => ?_)
        · replace hf := h_pos hc9 hf
          refine lv_iinc hx hb dX6_visits_93 hl (k := 5) rfl (congrArg (HAdd.hAdd _) (show Int32.ofInt (1) = 1 by decide)) (by decide) (lv' := [(4, .int (z28.2 + 1)), (5, .int u5), (0, .ref (gg_o g 0)), (1, .int x1), (2, .int x2), (3, .int z28.1)]) rfl (fun ls hl => ?_)
          refine lv_goto hx hb dX6_visits_96 (tgt := 28) rfl ?_
          exact ih28 _ _ _ (z28.1, (z28.2 + 1)) (lv_sub hl [2, 3, 4, 5, 0] rfl) hw hf
        replace hf := h_neg hc9 hf
        refine lv_goto hx hb dX6_visits_81 (tgt := 90) rfl ?_
        refine lv_iinc hx hb dX6_visits_90 hl (k := 4) rfl (congrArg (HAdd.hAdd _) (show Int32.ofInt (1) = 1 by decide)) (by decide) (lv' := [(3, .int (z28.1 + 1)), (5, .int u5), (0, .ref (gg_o g 0)), (1, .int x1), (2, .int x2), (4, .int z28.2)]) rfl (fun ls hl => ?_)
        refine lv_iinc hx hb dX6_visits_93 hl (k := 5) rfl (congrArg (HAdd.hAdd _) (show Int32.ofInt (1) = 1 by decide)) (by decide) (lv' := [(4, .int (z28.2 + 1)), (3, .int (z28.1 + 1)), (5, .int u5), (0, .ref (gg_o g 0)), (1, .int x1), (2, .int x2)]) rfl (fun ls hl => ?_)
        refine lv_goto hx hb dX6_visits_96 (tgt := 28) rfl ?_
        exact ih28 _ _ _ ((z28.1 + 1), (z28.2 + 1)) (lv_sub hl [3, 4, 5, 1, 0] rfl) hw hf
    exact L28 x1 x2 some (fun v h => h) FU _ _ _ ((0 : Int32), (0 : Int32)) (lv_sub hl [2, 3, 4, 1, 0] rfl) hw hf
  refine lv_aload_n hx hb dX6_visits_0 rfl (lv_at hl 0 rfl) ?_
  refine lv_iload_n hx hb dX6_visits_1 rfl (lv_at hl 1 rfl) ?_
  refine r_V_i (As := [.int x1]) (rest := []) cx hw hf hM.2.1 (by rw [hM.1]; rfl) lk_X6_410 (fun q1 hq => k_X6_isMan l g hg  hM S x1 q1 hq) ⟨⟨rfl, rfl⟩, Nat.le_of_ble_eq_true rfl, Nat.le_of_ble_eq_true rfl⟩ rfl hl.1 rfl (Nat.le_of_ble_eq_true rfl) dX6_visits_2 ⟨Nat.zero_le _, Nat.zero_le _⟩ (fun q1 H locs hw hf => ?_)
  refine lv_if_eq hx hb dX6_visits_5 (tgt := 21) rfl (fun hc2 => ?_) (fun hc2 => ?_)
  · replace hf := h_pos hc2 hf
    refine lv_iconst (v := -1) hx hb dX6_visits_21 (by decide) ?_
    exact r_iret cx hw hr hlk hf dX6_visits_22
  replace hf := h_neg hc2 hf
  refine lv_iload_n hx hb dX6_visits_8 rfl (lv_at hl 2 rfl) ?_
  refine lv_iconst (v := -1) hx hb dX6_visits_9 (by decide) ?_
  refine lv_icmp_eq hx hb dX6_visits_10 (tgt := 23) rfl (fun hc3 => ?_) (fun hc3 => ?_)
  · replace hf := h_pos hc3 hf
    exact J23 _ _ _ x1 x2 (lv_sub hl [0, 1, 2] rfl) hw hf
  replace hf := h_neg hc3 hf
  refine lv_aload_n hx hb dX6_visits_13 rfl (lv_at hl 0 rfl) ?_
  refine lv_iload_n hx hb dX6_visits_14 rfl (lv_at hl 2 rfl) ?_
  refine r_V_i (As := [.int x2]) (rest := []) cx hw hf hM.2.1 (by rw [hM.1]; rfl) lk_X6_437 (fun q10 hq => k_X6_isRoom l g hg  hM S x2 q10 hq) ⟨⟨rfl, rfl⟩, Nat.le_of_ble_eq_true rfl, Nat.le_of_ble_eq_true rfl⟩ rfl hl.1 rfl (Nat.le_of_ble_eq_true rfl) dX6_visits_15 ⟨Nat.zero_le _, Nat.zero_le _⟩ (fun q10 H locs hw hf => ?_)
  refine lv_if_ne hx hb dX6_visits_18 (tgt := 23) rfl (fun hc11 => ?_) (fun hc11 => ?_)
  · replace hf := h_neg hc11 hf
    exact J23 _ _ _ x1 x2 (lv_sub hl [0, 1, 2] rfl) hw hf
  replace hf := h_pos hc11 hf
  refine lv_iconst (v := -1) hx hb dX6_visits_21 (by decide) ?_
  exact r_iret cx hw hr hlk hf dX6_visits_22
