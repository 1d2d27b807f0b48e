theorem dX6_put_0 : decode cX6_put 0 = .ok (.bipush 24, 2) := by decide +kernel
theorem dX6_put_2 : decode cX6_put 2 = .ok (.istore_n 2, 1) := by decide +kernel
theorem dX6_put_3 : decode cX6_put 3 = .ok (.iload_n 2, 1) := by decide +kernel
theorem dX6_put_4 : decode cX6_put 4 = .ok (.ifCond .lt 32, 3) := by decide +kernel
theorem dX6_put_7 : decode cX6_put 7 = .ok (.aload_n 0, 1) := by decide +kernel
theorem dX6_put_8 : decode cX6_put 8 = .ok (.getfield 13, 3) := by decide +kernel
theorem dX6_put_11 : decode cX6_put 11 = .ok (.aload_n 0, 1) := by decide +kernel
theorem dX6_put_12 : decode cX6_put 12 = .ok (.getfield 190, 3) := by decide +kernel
theorem dX6_put_15 : decode cX6_put 15 = .ok (.iload_n 1, 1) := by decide +kernel
theorem dX6_put_16 : decode cX6_put 16 = .ok (.iload_n 2, 1) := by decide +kernel
theorem dX6_put_17 : decode cX6_put 17 = .ok (.ishr, 1) := by decide +kernel
theorem dX6_put_18 : decode cX6_put 18 = .ok (.i2b, 1) := by decide +kernel
theorem dX6_put_19 : decode cX6_put 19 = .ok (.bastore, 1) := by decide +kernel
theorem dX6_put_20 : decode cX6_put 20 = .ok (.aload_n 0, 1) := by decide +kernel
theorem dX6_put_21 : decode cX6_put 21 = .ok (.dup, 1) := by decide +kernel
theorem dX6_put_22 : decode cX6_put 22 = .ok (.getfield 190, 3) := by decide +kernel
theorem dX6_put_25 : decode cX6_put 25 = .ok (.iconst 1, 1) := by decide +kernel
theorem dX6_put_26 : decode cX6_put 26 = .ok (.iadd, 1) := by decide +kernel
theorem dX6_put_27 : decode cX6_put 27 = .ok (.putfield 190, 3) := by decide +kernel
theorem dX6_put_30 : decode cX6_put 30 = .ok (.iinc 2 (-8), 3) := by decide +kernel
theorem dX6_put_33 : decode cX6_put 33 = .ok (.goto (-30), 3) := by decide +kernel
theorem dX6_put_36 : decode cX6_put 36 = .ok (.return_, 1) := by decide +kernel
abbrev rm_X6_put : Room := { frames := 0, cells := 0, slots := 0, locals := 0 }
def f_X6_put_L3 (x1 : Int32) (z3 : Int32 × St) : Option ((Int32 × St) ⊕ (St)) :=
  if z3.1 < 0 then (some (.inr z3.2)) else (chk (ib (st_I z3.2 (ky 0 2)) 2000) (lt_v (up_A z3.2 (ky 0 1) (upd (st_A z3.2 (ky 0 1)) (st_I z3.2 (ky 0 2)).toNatClampNeg (vp_nar .byte ((x1 >>> (z3.1 &&& 31)).toInt8.toInt32)))) (fun (S2 : St) => lt_v (up_I S2 (ky 0 2) ((st_I S2 (ky 0 2)) + (1 : Int32))) (fun (S3 : St) => some (.inl ((z3.1 + (-8)), S3))))))
def f_X6_put (S : St) (x1 : Int32) : Option (St) :=
  iter (f_X6_put_L3   x1) FU ((24 : Int32), S)
set_option maxRecDepth 100000 in
set_option maxHeartbeats 4000000 in
theorem k_X6_put (l : Launch) (g : GG) (hg : gd wd_M g)  (hM : hs wd_M g 0 6) (S : St) (x1 : Int32) (q : St) (hf : f_X6_put  S x1 = some q) : Met l yX6_put (Cond.code yX6_put cX6_put 3 none :: gw_tbl) rm_X6_put (va_Pc [.ref (gg_o g 0), .int x1] (wI wd_M g S)) (qc_v wd_M g q) 0 0 (aw g) := by
  refine mt_start (own := RX6) hg (by decide) rfl (Nat.le_of_ble_eq_true rfl) (fun p e s m args below meth c ls H locs cx hw hr hlk hl => ?_)
  have hx := cx.1
  have hb := cx.2.1
  have hown := cx.2.2.2.1
  have hts := cx.2.2.2.2.1
  have hl : lv_has ls 3 [(0, .ref (gg_o g 0)), (1, .int x1)] := hl
  replace hf := h_top hf
  unfold f_X6_put at hf
  refine lv_bipush (v := 24) hx hb dX6_put_0 (by decide) ?_
  refine lv_istore_n hx hb dX6_put_2 rfl hl (by decide) (lv' := [(2, .int (24 : Int32)), (0, .ref (gg_o g 0)), (1, .int x1)]) rfl (fun ls hl => ?_)
  have L3 : ∀ (x1 : Int32) (aft3 : St → Option (St)), (∀ v : St, aft3 v = some q → (some v : Option (St)).bind some = some q) → ∀ (n3 : Nat) (ls : Array Slot) (H : Heap) (locs : List Loc) (z3 : Int32 × St), lv_has ls 3 [(0, .ref (gg_o g 0)), (1, .int x1), (2, .int z3.1)] → HH wd_M g s z3.2 H locs → (iter (f_X6_put_L3   x1) n3 z3).bind aft3 = some q → W p l e rm_X6_put s m args below meth c H locs 0 0 (MQ below (qc_v wd_M g q) args s 0 0 (aw g)) (F0 m 3 ls []) := by
    intro x1 aft3 hR3 n3
    induction n3 with
    | zero => intro ls H locs z3 hl hw hf; exact h_iter0 hf
    | succ n3 ih3 =>
      intro ls H locs z3 hl hw hf
      replace hf := h_iter hf
      unfold f_X6_put_L3 at hf
      refine lv_iload_n hx hb dX6_put_3 rfl (lv_at hl 2 rfl) ?_
      refine lv_if_lt hx hb dX6_put_4 (tgt := 36) rfl (fun hc1 => ?_) (fun hc1 => ?_)
      · replace hf := h_pos hc1 hf
        replace hf := hR3 z3.2 hf
        exact r_vret cx hw hr hlk hf dX6_put_36
      replace hf := h_neg hc1 hf
      refine lv_aload_n hx hb dX6_put_7 rfl (lv_at hl 0 rfl) ?_
      refine gf_X6_13 cx hw hM dX6_put_8 ?_
      refine lv_aload_n hx hb dX6_put_11 rfl (lv_at hl 0 rfl) ?_
      refine gf_X6_190 cx hw hM dX6_put_12 ?_
      refine lv_iload_n hx hb dX6_put_15 rfl (lv_at hl 1 rfl) ?_
      refine lv_iload_n hx hb dX6_put_16 rfl (lv_at hl 2 rfl) ?_
      refine lv_ishr hx hb dX6_put_17 ?_
      refine lv_i2b (v := ((x1 >>> (z3.1 &&& 31)).toInt8.toInt32)) hx hb dX6_put_18 rfl ?_
      refine r_bast cx hw (hM.2.2.1 1 rfl) rfl rfl hf dX6_put_19 (fun S2 H locs hw hf => ?_)
      refine lv_aload_n hx hb dX6_put_20 rfl (lv_at hl 0 rfl) ?_
      refine lv_dup hx hb dX6_put_21 rfl ?_
      refine gf_X6_190 cx hw hM dX6_put_22 ?_
      refine lv_iconst (v := 1) hx hb dX6_put_25 (by decide) ?_
      refine lv_iadd hx hb dX6_put_26 ?_
      refine pf_X6_190 cx hw hM hf dX6_put_27 (fun S3 H locs hw hf => ?_)
      refine lv_iinc hx hb dX6_put_30 hl (k := 2) rfl (congrArg (HAdd.hAdd _) (show Int32.ofInt (-8) = -8 by decide)) (by decide) (lv' := [(2, .int (z3.1 + (-8))), (0, .ref (gg_o g 0)), (1, .int x1)]) rfl (fun ls hl => ?_)
      refine lv_goto hx hb dX6_put_33 (tgt := 3) rfl ?_
      exact ih3 _ _ _ ((z3.1 + (-8)), S3) (lv_sub hl [1, 2, 0] rfl) hw hf
  exact L3 x1 some (fun v h => h) FU _ _ _ ((24 : Int32), S) (lv_sub hl [1, 2, 0] rfl) hw hf
theorem dX6_feed_0 : decode cX6_feed 0 = .ok (.aload_n 0, 1) := by decide +kernel
theorem dX6_feed_1 : decode cX6_feed 1 = .ok (.getfield 190, 3) := by decide +kernel
theorem dX6_feed_4 : decode cX6_feed 4 = .ok (.bipush 20, 2) := by decide +kernel
theorem dX6_feed_6 : decode cX6_feed 6 = .ok (.iadd, 1) := by decide +kernel
theorem dX6_feed_7 : decode cX6_feed 7 = .ok (.sipush 2000, 3) := by decide +kernel
theorem dX6_feed_10 : decode cX6_feed 10 = .ok (.if_icmp .le 5, 3) := by decide +kernel
theorem dX6_feed_13 : decode cX6_feed 13 = .ok (.iconst (-1), 1) := by decide +kernel
theorem dX6_feed_14 : decode cX6_feed 14 = .ok (.ireturn, 1) := by decide +kernel
theorem dX6_feed_15 : decode cX6_feed 15 = .ok (.aload_n 0, 1) := by decide +kernel
theorem dX6_feed_16 : decode cX6_feed 16 = .ok (.iload_n 1, 1) := by decide +kernel
theorem dX6_feed_17 : decode cX6_feed 17 = .ok (.invokevirtual 193, 3) := by decide +kernel
theorem dX6_feed_20 : decode cX6_feed 20 = .ok (.aload_n 0, 1) := by decide +kernel
theorem dX6_feed_21 : decode cX6_feed 21 = .ok (.iload_n 2, 1) := by decide +kernel
theorem dX6_feed_22 : decode cX6_feed 22 = .ok (.invokevirtual 193, 3) := by decide +kernel
theorem dX6_feed_25 : decode cX6_feed 25 = .ok (.aload_n 0, 1) := by decide +kernel
theorem dX6_feed_26 : decode cX6_feed 26 = .ok (.iload_n 3, 1) := by decide +kernel
theorem dX6_feed_27 : decode cX6_feed 27 = .ok (.invokevirtual 193, 3) := by decide +kernel
theorem dX6_feed_30 : decode cX6_feed 30 = .ok (.aload_n 0, 1) := by decide +kernel
theorem dX6_feed_31 : decode cX6_feed 31 = .ok (.iload 4, 2) := by decide +kernel
theorem dX6_feed_33 : decode cX6_feed 33 = .ok (.invokevirtual 193, 3) := by decide +kernel
theorem dX6_feed_36 : decode cX6_feed 36 = .ok (.aload_n 0, 1) := by decide +kernel
theorem dX6_feed_37 : decode cX6_feed 37 = .ok (.iload 5, 2) := by decide +kernel
theorem dX6_feed_39 : decode cX6_feed 39 = .ok (.invokevirtual 193, 3) := by decide +kernel
theorem dX6_feed_42 : decode cX6_feed 42 = .ok (.aload_n 0, 1) := by decide +kernel
theorem dX6_feed_43 : decode cX6_feed 43 = .ok (.getfield 190, 3) := by decide +kernel
theorem dX6_feed_46 : decode cX6_feed 46 = .ok (.ireturn, 1) := by decide +kernel
abbrev rm_X6_feed : Room := { frames := 1, cells := 0, slots := 0, locals := 22 }
def f_X6_feed (S : St) (x1 : Int32) (x2 : Int32) (x3 : Int32) (x4 : Int32) (x5 : Int32) : Option (Int32 × St) :=
  if ((st_I S (ky 0 2)) + (20 : Int32)) ≤ (2000 : Int32) then ((f_X6_put  S x1).bind (fun (q2 : St) => (f_X6_put  q2 x2).bind (fun (q3 : St) => (f_X6_put  q3 x3).bind (fun (q4 : St) => (f_X6_put  q4 x4).bind (fun (q5 : St) => (f_X6_put  q5 x5).bind (fun (q6 : St) => some ((st_I q6 (ky 0 2)), q6))))))) else (some ((-1 : Int32), S))
set_option maxRecDepth 100000 in
set_option maxHeartbeats 4000000 in
theorem k_X6_feed (l : Launch) (g : GG) (hg : gd wd_M g)  (hM : hs wd_M g 0 6) (S : St) (x1 : Int32) (x2 : Int32) (x3 : Int32) (x4 : Int32) (x5 : Int32) (q : Int32 × St) (hf : f_X6_feed  S x1 x2 x3 x4 x5 = some q) : Met l yX6_feed (Cond.code yX6_feed cX6_feed 6 (some .int) :: gw_tbl) rm_X6_feed (va_Pc [.ref (gg_o g 0), .int x1, .int x2, .int x3, .int x4, .int x5] (wI wd_M g S)) (qc_w wd_M g q) 0 0 (aw g) := by
  refine mt_start (own := RX6) hg (by decide) rfl (Nat.le_of_ble_eq_true rfl) (fun p e s m args below meth c ls H locs cx hw hr hlk hl => ?_)
  have hx := cx.1
  have hb := cx.2.1
  have hown := cx.2.2.2.1
  have hts := cx.2.2.2.2.1
  have hl : lv_has ls 6 [(0, .ref (gg_o g 0)), (1, .int x1), (2, .int x2), (3, .int x3), (4, .int x4), (5, .int x5)] := hl
  replace hf := h_top hf
  unfold f_X6_feed at hf
  refine lv_aload_n hx hb dX6_feed_0 rfl (lv_at hl 0 rfl) ?_
  refine gf_X6_190 cx hw hM dX6_feed_1 ?_
  refine lv_bipush (v := 20) hx hb dX6_feed_4 (by decide) ?_
  refine lv_iadd hx hb dX6_feed_6 ?_
  refine lv_sipush (v := 2000) hx hb dX6_feed_7 (by decide) ?_
  refine lv_icmp_le hx hb dX6_feed_10 (tgt := 15) rfl (fun hc1 => ?_) (fun hc1 => ?_)
  · replace hf := h_pos hc1 hf
    refine lv_aload_n hx hb dX6_feed_15 rfl (lv_at hl 0 rfl) ?_
    refine lv_iload_n hx hb dX6_feed_16 rfl (lv_at hl 1 rfl) ?_
    refine r_V_v (As := [.int x1]) (rest := []) cx hw hf hM.2.1 (by rw [hM.1]; rfl) lk_X6_193 (fun q2 hq => k_X6_put l g hg  hM S x1 q2 hq) ⟨⟨rfl, rfl⟩, Nat.le_of_ble_eq_true rfl, Nat.le_of_ble_eq_true rfl⟩ rfl hl.1 rfl (Nat.le_of_ble_eq_true rfl) dX6_feed_17 ⟨Nat.zero_le _, Nat.zero_le _⟩ (fun q2 H locs hw hf => ?_)
    refine lv_aload_n hx hb dX6_feed_20 rfl (lv_at hl 0 rfl) ?_
    refine lv_iload_n hx hb dX6_feed_21 rfl (lv_at hl 2 rfl) ?_
    refine r_V_v (As := [.int x2]) (rest := []) cx hw hf hM.2.1 (by rw [hM.1]; rfl) lk_X6_193 (fun q3 hq => k_X6_put l g hg  hM q2 x2 q3 hq) ⟨⟨rfl, rfl⟩, Nat.le_of_ble_eq_true rfl, Nat.le_of_ble_eq_true rfl⟩ rfl hl.1 rfl (Nat.le_of_ble_eq_true rfl) dX6_feed_22 ⟨Nat.zero_le _, Nat.zero_le _⟩ (fun q3 H locs hw hf => ?_)
    refine lv_aload_n hx hb dX6_feed_25 rfl (lv_at hl 0 rfl) ?_
    refine lv_iload_n hx hb dX6_feed_26 rfl (lv_at hl 3 rfl) ?_
    refine r_V_v (As := [.int x3]) (rest := []) cx hw hf hM.2.1 (by rw [hM.1]; rfl) lk_X6_193 (fun q4 hq => k_X6_put l g hg  hM q3 x3 q4 hq) ⟨⟨rfl, rfl⟩, Nat.le_of_ble_eq_true rfl, Nat.le_of_ble_eq_true rfl⟩ rfl hl.1 rfl (Nat.le_of_ble_eq_true rfl) dX6_feed_27 ⟨Nat.zero_le _, Nat.zero_le _⟩ (fun q4 H locs hw hf => ?_)
    refine lv_aload_n hx hb dX6_feed_30 rfl (lv_at hl 0 rfl) ?_
    refine lv_iload hx hb dX6_feed_31 (lv_at hl 4 rfl) ?_
    refine r_V_v (As := [.int x4]) (rest := []) cx hw hf hM.2.1 (by rw [hM.1]; rfl) lk_X6_193 (fun q5 hq => k_X6_put l g hg  hM q4 x4 q5 hq) ⟨⟨rfl, rfl⟩, Nat.le_of_ble_eq_true rfl, Nat.le_of_ble_eq_true rfl⟩ rfl hl.1 rfl (Nat.le_of_ble_eq_true rfl) dX6_feed_33 ⟨Nat.zero_le _, Nat.zero_le _⟩ (fun q5 H locs hw hf => ?_)
    refine lv_aload_n hx hb dX6_feed_36 rfl (lv_at hl 0 rfl) ?_
    refine lv_iload hx hb dX6_feed_37 (lv_at hl 5 rfl) ?_
    refine r_V_v (As := [.int x5]) (rest := []) cx hw hf hM.2.1 (by rw [hM.1]; rfl) lk_X6_193 (fun q6 hq => k_X6_put l g hg  hM q5 x5 q6 hq) ⟨⟨rfl, rfl⟩, Nat.le_of_ble_eq_true rfl, Nat.le_of_ble_eq_true rfl⟩ rfl hl.1 rfl (Nat.le_of_ble_eq_true rfl) dX6_feed_39 ⟨Nat.zero_le _, Nat.zero_le _⟩ (fun q6 H locs hw hf => ?_)
    refine lv_aload_n hx hb dX6_feed_42 rfl (lv_at hl 0 rfl) ?_
    refine gf_X6_190 cx hw hM dX6_feed_43 ?_
    exact r_iretw cx hw hr hlk hf dX6_feed_46
  replace hf := h_neg hc1 hf
  refine lv_iconst (v := -1) hx hb dX6_feed_13 (by decide) ?_
  exact r_iretw cx hw hr hlk hf dX6_feed_14
theorem dX6_back_0 : decode cX6_back 0 = .ok (.iload_n 1, 1) := by decide +kernel
theorem dX6_back_1 : decode cX6_back 1 = .ok (.ifCond .lt 11, 3) := by decide +kernel
theorem dX6_back_4 : decode cX6_back 4 = .ok (.iload_n 1, 1) := by decide +kernel
theorem dX6_back_5 : decode cX6_back 5 = .ok (.aload_n 0, 1) := by decide +kernel
theorem dX6_back_6 : decode cX6_back 6 = .ok (.getfield 190, 3) := by decide +kernel
theorem dX6_back_9 : decode cX6_back 9 = .ok (.if_icmp .le 5, 3) := by decide +kernel
theorem dX6_back_12 : decode cX6_back 12 = .ok (.iconst (-1), 1) := by decide +kernel
theorem dX6_back_13 : decode cX6_back 13 = .ok (.ireturn, 1) := by decide +kernel
theorem dX6_back_14 : decode cX6_back 14 = .ok (.aload_n 0, 1) := by decide +kernel
theorem dX6_back_15 : decode cX6_back 15 = .ok (.dup, 1) := by decide +kernel
theorem dX6_back_16 : decode cX6_back 16 = .ok (.getfield 190, 3) := by decide +kernel
theorem dX6_back_19 : decode cX6_back 19 = .ok (.iload_n 1, 1) := by decide +kernel
theorem dX6_back_20 : decode cX6_back 20 = .ok (.isub, 1) := by decide +kernel
theorem dX6_back_21 : decode cX6_back 21 = .ok (.putfield 190, 3) := by decide +kernel
theorem dX6_back_24 : decode cX6_back 24 = .ok (.aload_n 0, 1) := by decide +kernel
theorem dX6_back_25 : decode cX6_back 25 = .ok (.getfield 190, 3) := by decide +kernel
theorem dX6_back_28 : decode cX6_back 28 = .ok (.ireturn, 1) := by decide +kernel
abbrev rm_X6_back : Room := { frames := 0, cells := 0, slots := 0, locals := 0 }
def f_X6_back (S : St) (x1 : Int32) : Option (Int32 × St) :=
  if x1 < 0 then (some ((-1 : Int32), S)) else (if x1 ≤ (st_I S (ky 0 2)) then (lt_v (up_I S (ky 0 2) ((st_I S (ky 0 2)) - x1)) (fun (S3 : St) => some ((st_I S3 (ky 0 2)), S3))) else (some ((-1 : Int32), S)))
set_option maxRecDepth 100000 in
set_option maxHeartbeats 4000000 in
theorem k_X6_back (l : Launch) (g : GG) (hg : gd wd_M g)  (hM : hs wd_M g 0 6) (S : St) (x1 : Int32) (q : Int32 × St) (hf : f_X6_back  S x1 = some q) : Met l yX6_back (Cond.code yX6_back cX6_back 2 (some .int) :: gw_tbl) rm_X6_back (va_Pc [.ref (gg_o g 0), .int x1] (wI wd_M g S)) (qc_w wd_M g q) 0 0 (aw g) := by
  refine mt_start (own := RX6) hg (by decide) rfl (Nat.le_of_ble_eq_true rfl) (fun p e s m args below meth c ls H locs cx hw hr hlk hl => ?_)
  have hx := cx.1
  have hb := cx.2.1
  have hown := cx.2.2.2.1
  have hts := cx.2.2.2.2.1
  have hl : lv_has ls 2 [(0, .ref (gg_o g 0)), (1, .int x1)] := hl
  replace hf := h_top hf
  unfold f_X6_back at hf
  refine lv_iload_n hx hb dX6_back_0 rfl (lv_at hl 1 rfl) ?_
  refine lv_if_lt hx hb dX6_back_1 (tgt := 12) rfl (fun hc1 => ?_) (fun hc1 => ?_)
  · replace hf := h_pos hc1 hf
    refine lv_iconst (v := -1) hx hb dX6_back_12 (by decide) ?_
    exact r_iretw cx hw hr hlk hf dX6_back_13
  replace hf := h_neg hc1 hf
  refine lv_iload_n hx hb dX6_back_4 rfl (lv_at hl 1 rfl) ?_
  refine lv_aload_n hx hb dX6_back_5 rfl (lv_at hl 0 rfl) ?_
  refine gf_X6_190 cx hw hM dX6_back_6 ?_
  refine lv_icmp_le hx hb dX6_back_9 (tgt := 14) rfl (fun hc2 => ?_) (fun hc2 => ?_)
  · replace hf := h_pos hc2 hf
    refine lv_aload_n hx hb dX6_back_14 rfl (lv_at hl 0 rfl) ?_
    refine lv_dup hx hb dX6_back_15 rfl ?_
    refine gf_X6_190 cx hw hM dX6_back_16 ?_
    refine lv_iload_n hx hb dX6_back_19 rfl (lv_at hl 1 rfl) ?_
    refine lv_isub hx hb dX6_back_20 ?_
    refine pf_X6_190 cx hw hM hf dX6_back_21 (fun S3 H locs hw hf => ?_)
    refine lv_aload_n hx hb dX6_back_24 rfl (lv_at hl 0 rfl) ?_
    refine gf_X6_190 cx hw hM dX6_back_25 ?_
    exact r_iretw cx hw hr hlk hf dX6_back_28
  replace hf := h_neg hc2 hf
  refine lv_iconst (v := -1) hx hb dX6_back_12 (by decide) ?_
  exact r_iretw cx hw hr hlk hf dX6_back_13
theorem dX6_byteAt_0 : decode cX6_byteAt 0 = .ok (.iload_n 1, 1) := by decide +kernel
theorem dX6_byteAt_1 : decode cX6_byteAt 1 = .ok (.aload_n 0, 1) := by decide +kernel
theorem dX6_byteAt_2 : decode cX6_byteAt 2 = .ok (.getfield 196, 3) := by decide +kernel
theorem dX6_byteAt_5 : decode cX6_byteAt 5 = .ok (.if_icmp .ge 16, 3) := by decide +kernel
theorem dX6_byteAt_8 : decode cX6_byteAt 8 = .ok (.aload_n 0, 1) := by decide +kernel
theorem dX6_byteAt_9 : decode cX6_byteAt 9 = .ok (.getfield 17, 3) := by decide +kernel
theorem dX6_byteAt_12 : decode cX6_byteAt 12 = .ok (.iload_n 1, 1) := by decide +kernel
theorem dX6_byteAt_13 : decode cX6_byteAt 13 = .ok (.baload, 1) := by decide +kernel
theorem dX6_byteAt_14 : decode cX6_byteAt 14 = .ok (.sipush 255, 3) := by decide +kernel
theorem dX6_byteAt_17 : decode cX6_byteAt 17 = .ok (.iand, 1) := by decide +kernel
theorem dX6_byteAt_18 : decode cX6_byteAt 18 = .ok (.goto 4, 3) := by decide +kernel
theorem dX6_byteAt_21 : decode cX6_byteAt 21 = .ok (.iconst 0, 1) := by decide +kernel
theorem dX6_byteAt_22 : decode cX6_byteAt 22 = .ok (.ireturn, 1) := by decide +kernel
abbrev rm_X6_byteAt : Room := { frames := 0, cells := 0, slots := 0, locals := 0 }
def f_X6_byteAt (S : St) (x1 : Int32) : Option (Int32) :=
  if (st_I S (ky 0 4)) ≤ x1 then (some (0 : Int32)) else (chk (ib x1 2000) (some ((st_A S (ky 0 3) x1.toNatClampNeg) &&& (255 : Int32))))
set_option maxRecDepth 100000 in
set_option maxHeartbeats 4000000 in
theorem k_X6_byteAt (l : Launch) (g : GG) (hg : gd wd_M g)  (hM : hs wd_M g 0 6) (S : St) (x1 : Int32) (q : Int32) (hf : f_X6_byteAt  S x1 = some q) : Met l yX6_byteAt (Cond.code yX6_byteAt cX6_byteAt 2 (some .int) :: gw_tbl) rm_X6_byteAt (va_Pc [.ref (gg_o g 0), .int x1] (wI wd_M g S)) (qc_i wd_M g S q) 0 0 (aw g) := by
  refine mt_start (own := RX6) hg (by decide) rfl (Nat.le_of_ble_eq_true rfl) (fun p e s m args below meth c ls H locs cx hw hr hlk hl => ?_)
  have hx := cx.1
  have hb := cx.2.1
  have hown := cx.2.2.2.1
  have hts := cx.2.2.2.2.1
  have hl : lv_has ls 2 [(0, .ref (gg_o g 0)), (1, .int x1)] := hl
  replace hf := h_top hf
  unfold f_X6_byteAt at hf
  refine lv_iload_n hx hb dX6_byteAt_0 rfl (lv_at hl 1 rfl) ?_
  refine lv_aload_n hx hb dX6_byteAt_1 rfl (lv_at hl 0 rfl) ?_
  refine gf_X6_196 cx hw hM dX6_byteAt_2 ?_
  refine lv_icmp_ge hx hb dX6_byteAt_5 (tgt := 21) rfl (fun hc1 => ?_) (fun hc1 => ?_)
  · replace hf := h_pos hc1 hf
    refine lv_iconst (v := 0) hx hb dX6_byteAt_21 (by decide) ?_
    exact r_iret cx hw hr hlk hf dX6_byteAt_22
  replace hf := h_neg hc1 hf
  refine lv_aload_n hx hb dX6_byteAt_8 rfl (lv_at hl 0 rfl) ?_
  refine gf_X6_17 cx hw hM dX6_byteAt_9 ?_
  refine lv_iload_n hx hb dX6_byteAt_12 rfl (lv_at hl 1 rfl) ?_
  refine r_bald cx hw (hM.2.2.1 3 rfl) rfl rfl hf dX6_byteAt_13 (fun hf => ?_)
  refine lv_sipush (v := 255) hx hb dX6_byteAt_14 (by decide) ?_
  refine lv_iand hx hb dX6_byteAt_17 ?_
  refine lv_goto hx hb dX6_byteAt_18 (tgt := 22) rfl ?_
  exact r_iret cx hw hr hlk hf dX6_byteAt_22
theorem dX6_isDigit_0 : decode cX6_isDigit 0 = .ok (.iload_n 0, 1) := by decide +kernel
theorem dX6_isDigit_1 : decode cX6_isDigit 1 = .ok (.bipush 48, 2) := by decide +kernel
theorem dX6_isDigit_3 : decode cX6_isDigit 3 = .ok (.if_icmp .lt 13, 3) := by decide +kernel
theorem dX6_isDigit_6 : decode cX6_isDigit 6 = .ok (.iload_n 0, 1) := by decide +kernel
theorem dX6_isDigit_7 : decode cX6_isDigit 7 = .ok (.bipush 57, 2) := by decide +kernel
theorem dX6_isDigit_9 : decode cX6_isDigit 9 = .ok (.if_icmp .gt 7, 3) := by decide +kernel
theorem dX6_isDigit_12 : decode cX6_isDigit 12 = .ok (.iconst 1, 1) := by decide +kernel
theorem dX6_isDigit_13 : decode cX6_isDigit 13 = .ok (.goto 4, 3) := by decide +kernel
theorem dX6_isDigit_16 : decode cX6_isDigit 16 = .ok (.iconst 0, 1) := by decide +kernel
theorem dX6_isDigit_17 : decode cX6_isDigit 17 = .ok (.ireturn, 1) := by decide +kernel
abbrev rm_X6_isDigit : Room := { frames := 0, cells := 0, slots := 0, locals := 0 }
def f_X6_isDigit (x0 : Int32) : Option (Int32) :=
  if x0 < (48 : Int32) then (some (0 : Int32)) else (if (57 : Int32) < x0 then (some (0 : Int32)) else (some (1 : Int32)))
set_option maxRecDepth 100000 in
set_option maxHeartbeats 4000000 in
theorem k_X6_isDigit (l : Launch) (g : GG) (hg : gd wd_M g)  (S : St) (x0 : Int32) (q : Int32) (hf : f_X6_isDigit   x0 = some q) : Met l yX6_isDigit (Cond.code yX6_isDigit cX6_isDigit 1 (some .boolean) :: gw_tbl) rm_X6_isDigit (va_Pc [.int x0] (wI wd_M g S)) (qc_i wd_M g S q) 0 0 (aw g) := by
  refine mt_start (own := RX6) hg (by decide) rfl (Nat.le_of_ble_eq_true rfl) (fun p e s m args below meth c ls H locs cx hw hr hlk hl => ?_)
  have hx := cx.1
  have hb := cx.2.1
  have hown := cx.2.2.2.1
  have hts := cx.2.2.2.2.1
  have hl : lv_has ls 1 [(0, .int x0)] := hl
  replace hf := h_top hf
  unfold f_X6_isDigit at hf
  refine lv_iload_n hx hb dX6_isDigit_0 rfl (lv_at hl 0 rfl) ?_
  refine lv_bipush (v := 48) hx hb dX6_isDigit_1 (by decide) ?_
  refine lv_icmp_lt hx hb dX6_isDigit_3 (tgt := 16) rfl (fun hc1 => ?_) (fun hc1 => ?_)
  · replace hf := h_pos hc1 hf
    refine lv_iconst (v := 0) hx hb dX6_isDigit_16 (by decide) ?_
    exact r_zret cx hw hr hlk (Or.inl rfl) hf dX6_isDigit_17
  replace hf := h_neg hc1 hf
  refine lv_iload_n hx hb dX6_isDigit_6 rfl (lv_at hl 0 rfl) ?_
  refine lv_bipush (v := 57) hx hb dX6_isDigit_7 (by decide) ?_
  refine lv_icmp_gt hx hb dX6_isDigit_9 (tgt := 16) rfl (fun hc2 => ?_) (fun hc2 => ?_)
  · replace hf := h_pos hc2 hf
    refine lv_iconst (v := 0) hx hb dX6_isDigit_16 (by decide) ?_
    exact r_zret cx hw hr hlk (Or.inl rfl) hf dX6_isDigit_17
  replace hf := h_neg hc2 hf
  refine lv_iconst (v := 1) hx hb dX6_isDigit_12 (by decide) ?_
  refine lv_goto hx hb dX6_isDigit_13 (tgt := 17) rfl ?_
  exact r_zret cx hw hr hlk (Or.inr rfl) hf dX6_isDigit_17
theorem dX6_isLetter_0 : decode cX6_isLetter 0 = .ok (.iload_n 0, 1) := by decide +kernel
theorem dX6_isLetter_1 : decode cX6_isLetter 1 = .ok (.bipush 97, 2) := by decide +kernel
theorem dX6_isLetter_3 : decode cX6_isLetter 3 = .ok (.if_icmp .lt 13, 3) := by decide +kernel
theorem dX6_isLetter_6 : decode cX6_isLetter 6 = .ok (.iload_n 0, 1) := by decide +kernel
theorem dX6_isLetter_7 : decode cX6_isLetter 7 = .ok (.bipush 122, 2) := by decide +kernel
theorem dX6_isLetter_9 : decode cX6_isLetter 9 = .ok (.if_icmp .gt 7, 3) := by decide +kernel
theorem dX6_isLetter_12 : decode cX6_isLetter 12 = .ok (.iconst 1, 1) := by decide +kernel
theorem dX6_isLetter_13 : decode cX6_isLetter 13 = .ok (.goto 4, 3) := by decide +kernel
theorem dX6_isLetter_16 : decode cX6_isLetter 16 = .ok (.iconst 0, 1) := by decide +kernel
theorem dX6_isLetter_17 : decode cX6_isLetter 17 = .ok (.ireturn, 1) := by decide +kernel
abbrev rm_X6_isLetter : Room := { frames := 0, cells := 0, slots := 0, locals := 0 }
def f_X6_isLetter (x0 : Int32) : Option (Int32) :=
  if x0 < (97 : Int32) then (some (0 : Int32)) else (if (122 : Int32) < x0 then (some (0 : Int32)) else (some (1 : Int32)))
set_option maxRecDepth 100000 in
set_option maxHeartbeats 4000000 in
theorem k_X6_isLetter (l : Launch) (g : GG) (hg : gd wd_M g)  (S : St) (x0 : Int32) (q : Int32) (hf : f_X6_isLetter   x0 = some q) : Met l yX6_isLetter (Cond.code yX6_isLetter cX6_isLetter 1 (some .boolean) :: gw_tbl) rm_X6_isLetter (va_Pc [.int x0] (wI wd_M g S)) (qc_i wd_M g S q) 0 0 (aw g) := by
  refine mt_start (own := RX6) hg (by decide) rfl (Nat.le_of_ble_eq_true rfl) (fun p e s m args below meth c ls H locs cx hw hr hlk hl => ?_)
  have hx := cx.1
  have hb := cx.2.1
  have hown := cx.2.2.2.1
  have hts := cx.2.2.2.2.1
  have hl : lv_has ls 1 [(0, .int x0)] := hl
  replace hf := h_top hf
  unfold f_X6_isLetter at hf
  refine lv_iload_n hx hb dX6_isLetter_0 rfl (lv_at hl 0 rfl) ?_
  refine lv_bipush (v := 97) hx hb dX6_isLetter_1 (by decide) ?_
  refine lv_icmp_lt hx hb dX6_isLetter_3 (tgt := 16) rfl (fun hc1 => ?_) (fun hc1 => ?_)
  · replace hf := h_pos hc1 hf
    refine lv_iconst (v := 0) hx hb dX6_isLetter_16 (by decide) ?_
    exact r_zret cx hw hr hlk (Or.inl rfl) hf dX6_isLetter_17
  replace hf := h_neg hc1 hf
  refine lv_iload_n hx hb dX6_isLetter_6 rfl (lv_at hl 0 rfl) ?_
  refine lv_bipush (v := 122) hx hb dX6_isLetter_7 (by decide) ?_
  refine lv_icmp_gt hx hb dX6_isLetter_9 (tgt := 16) rfl (fun hc2 => ?_) (fun hc2 => ?_)
  · replace hf := h_pos hc2 hf
    refine lv_iconst (v := 0) hx hb dX6_isLetter_16 (by decide) ?_
    exact r_zret cx hw hr hlk (Or.inl rfl) hf dX6_isLetter_17
  replace hf := h_neg hc2 hf
  refine lv_iconst (v := 1) hx hb dX6_isLetter_12 (by decide) ?_
  refine lv_goto hx hb dX6_isLetter_13 (tgt := 17) rfl ?_
  exact r_zret cx hw hr hlk (Or.inr rfl) hf dX6_isLetter_17
theorem dX6_appends_0 : decode cX6_appends 0 = .ok (.iload_n 2, 1) := by decide +kernel
theorem dX6_appends_1 : decode cX6_appends 1 = .ok (.ifCond .ne 7, 3) := by decide +kernel
theorem dX6_appends_4 : decode cX6_appends 4 = .ok (.lload_n 0, 1) := by decide +kernel
theorem dX6_appends_5 : decode cX6_appends 5 = .ok (.goto 16, 3) := by decide +kernel
theorem dX6_appends_8 : decode cX6_appends 8 = .ok (.ldc2_w 199, 3) := by decide +kernel
theorem dX6_appends_11 : decode cX6_appends 11 = .ok (.lload_n 0, 1) := by decide +kernel
theorem dX6_appends_12 : decode cX6_appends 12 = .ok (.lmul, 1) := by decide +kernel
theorem dX6_appends_13 : decode cX6_appends 13 = .ok (.iload_n 2, 1) := by decide +kernel
theorem dX6_appends_14 : decode cX6_appends 14 = .ok (.bipush 97, 2) := by decide +kernel
theorem dX6_appends_16 : decode cX6_appends 16 = .ok (.isub, 1) := by decide +kernel
theorem dX6_appends_17 : decode cX6_appends 17 = .ok (.iconst 1, 1) := by decide +kernel
theorem dX6_appends_18 : decode cX6_appends 18 = .ok (.iadd, 1) := by decide +kernel
theorem dX6_appends_19 : decode cX6_appends 19 = .ok (.i2l, 1) := by decide +kernel
theorem dX6_appends_20 : decode cX6_appends 20 = .ok (.ladd, 1) := by decide +kernel
theorem dX6_appends_21 : decode cX6_appends 21 = .ok (.lreturn, 1) := by decide +kernel
abbrev rm_X6_appends : Room := { frames := 0, cells := 0, slots := 0, locals := 0 }
def f_X6_appends (x0 : Int64) (x2 : Int32) : Option (Int64) :=
  if x2 = 0 then (some x0) else (some (((27 : Int64) * x0) + (((x2 - (97 : Int32)) + (1 : Int32)).toInt64)))
set_option maxRecDepth 100000 in
set_option maxHeartbeats 4000000 in
theorem k_X6_appends (l : Launch) (g : GG) (hg : gd wd_M g)  (S : St) (x0 : Int64) (x2 : Int32) (q : Int64) (hf : f_X6_appends   x0 x2 = some q) : Met l yX6_appends (Cond.code yX6_appends cX6_appends 3 (some .long) :: gw_tbl) rm_X6_appends (va_Pc [.long x0, .int x2] (wI wd_M g S)) (qc_l wd_M g S q) 0 0 (aw g) := by
  refine mt_start (own := RX6) hg (by decide) rfl (Nat.le_of_ble_eq_true rfl) (fun p e s m args below meth c ls H locs cx hw hr hlk hl => ?_)
  have hx := cx.1
  have hb := cx.2.1
  have hown := cx.2.2.2.1
  have hts := cx.2.2.2.2.1
  have hl : lv_has ls 3 [(0, .long x0), (2, .int x2)] := hl
  replace hf := h_top hf
  unfold f_X6_appends at hf
  refine lv_iload_n hx hb dX6_appends_0 rfl (lv_at hl 1 rfl) ?_
  refine lv_if_ne hx hb dX6_appends_1 (tgt := 8) rfl (fun hc1 => ?_) (fun hc1 => ?_)
  · replace hf := h_neg hc1 hf
    refine lv_ldc2 hx hb hown (hts _ wd_1084) dX6_appends_8 ?_
    refine lv_lload_n hx hb dX6_appends_11 rfl (lv_at hl 0 rfl) ?_
    refine lv_lmul hx hb dX6_appends_12 ?_
    refine lv_iload_n hx hb dX6_appends_13 rfl (lv_at hl 1 rfl) ?_
    refine lv_bipush (v := 97) hx hb dX6_appends_14 (by decide) ?_
    refine lv_isub hx hb dX6_appends_16 ?_
    refine lv_iconst (v := 1) hx hb dX6_appends_17 (by decide) ?_
    refine lv_iadd hx hb dX6_appends_18 ?_
    refine lv_i2l (v := (((x2 - (97 : Int32)) + (1 : Int32)).toInt64)) hx hb dX6_appends_19 rfl ?_
    refine lv_ladd hx hb dX6_appends_20 ?_
    exact r_lret cx hw hr hlk hf dX6_appends_21
  replace hf := h_pos hc1 hf
  refine lv_lload_n hx hb dX6_appends_4 rfl (lv_at hl 0 rfl) ?_
  refine lv_goto hx hb dX6_appends_5 (tgt := 21) rfl ?_
  exact r_lret cx hw hr hlk hf dX6_appends_21
theorem dX6_word_0 : decode cX6_word 0 = .ok (.lconst 0, 1) := by decide +kernel
theorem dX6_word_1 : decode cX6_word 1 = .ok (.iload_n 0, 1) := by decide +kernel
theorem dX6_word_2 : decode cX6_word 2 = .ok (.invokestatic 201, 3) := by decide +kernel
theorem dX6_word_5 : decode cX6_word 5 = .ok (.iload_n 1, 1) := by decide +kernel
theorem dX6_word_6 : decode cX6_word 6 = .ok (.invokestatic 201, 3) := by decide +kernel
theorem dX6_word_9 : decode cX6_word 9 = .ok (.iload_n 2, 1) := by decide +kernel
theorem dX6_word_10 : decode cX6_word 10 = .ok (.invokestatic 201, 3) := by decide +kernel
theorem dX6_word_13 : decode cX6_word 13 = .ok (.iload_n 3, 1) := by decide +kernel
theorem dX6_word_14 : decode cX6_word 14 = .ok (.invokestatic 201, 3) := by decide +kernel
theorem dX6_word_17 : decode cX6_word 17 = .ok (.iload 4, 2) := by decide +kernel
theorem dX6_word_19 : decode cX6_word 19 = .ok (.invokestatic 201, 3) := by decide +kernel
theorem dX6_word_22 : decode cX6_word 22 = .ok (.iload 5, 2) := by decide +kernel
theorem dX6_word_24 : decode cX6_word 24 = .ok (.invokestatic 201, 3) := by decide +kernel
theorem dX6_word_27 : decode cX6_word 27 = .ok (.iload 6, 2) := by decide +kernel
theorem dX6_word_29 : decode cX6_word 29 = .ok (.invokestatic 201, 3) := by decide +kernel
theorem dX6_word_32 : decode cX6_word 32 = .ok (.lreturn, 1) := by decide +kernel
abbrev rm_X6_word : Room := { frames := 1, cells := 0, slots := 0, locals := 22 }
def f_X6_word (x0 : Int32) (x1 : Int32) (x2 : Int32) (x3 : Int32) (x4 : Int32) (x5 : Int32) (x6 : Int32) : Option (Int64) :=
  (f_X6_appends   (0 : Int64) x0).bind (fun (q1 : Int64) => (f_X6_appends   q1 x1).bind (fun (q2 : Int64) => (f_X6_appends   q2 x2).bind (fun (q3 : Int64) => (f_X6_appends   q3 x3).bind (fun (q4 : Int64) => (f_X6_appends   q4 x4).bind (fun (q5 : Int64) => (f_X6_appends   q5 x5).bind (fun (q6 : Int64) => (f_X6_appends   q6 x6).bind (fun (q7 : Int64) => some q7)))))))
set_option maxRecDepth 100000 in
set_option maxHeartbeats 4000000 in
theorem k_X6_word (l : Launch) (g : GG) (hg : gd wd_M g)  (S : St) (x0 : Int32) (x1 : Int32) (x2 : Int32) (x3 : Int32) (x4 : Int32) (x5 : Int32) (x6 : Int32) (q : Int64) (hf : f_X6_word   x0 x1 x2 x3 x4 x5 x6 = some q) : Met l yX6_word (Cond.code yX6_word cX6_word 7 (some .long) :: gw_tbl) rm_X6_word (va_Pc [.int x0, .int x1, .int x2, .int x3, .int x4, .int x5, .int x6] (wI wd_M g S)) (qc_l wd_M g S q) 0 0 (aw g) := by
  refine mt_start (own := RX6) hg (by decide) rfl (Nat.le_of_ble_eq_true rfl) (fun p e s m args below meth c ls H locs cx hw hr hlk hl => ?_)
  have hx := cx.1
  have hb := cx.2.1
  have hown := cx.2.2.2.1
  have hts := cx.2.2.2.2.1
  have hl : lv_has ls 7 [(0, .int x0), (1, .int x1), (2, .int x2), (3, .int x3), (4, .int x4), (5, .int x5), (6, .int x6)] := hl
  replace hf := h_top hf
  unfold f_X6_word at hf
  refine lv_lconst (v := 0) hx hb dX6_word_0 (by decide) ?_
  refine lv_iload_n hx hb dX6_word_1 rfl (lv_at hl 0 rfl) ?_
  refine r_S_l (As := [.long (0 : Int64), .int x0]) (rest := []) cx hw hf lk_X6_201 (fun q1 hq => k_X6_appends l g hg   S (0 : Int64) x0 q1 hq) ⟨⟨rfl, rfl⟩, Nat.le_of_ble_eq_true rfl, Nat.le_of_ble_eq_true rfl⟩ rfl hl.1 rfl (Nat.le_of_ble_eq_true rfl) dX6_word_2 ⟨Nat.zero_le _, Nat.zero_le _⟩ (fun q1 H locs hw hf => ?_)
  refine lv_iload_n hx hb dX6_word_5 rfl (lv_at hl 1 rfl) ?_
  refine r_S_l (As := [.long q1, .int x1]) (rest := []) cx hw hf lk_X6_201 (fun q2 hq => k_X6_appends l g hg   S q1 x1 q2 hq) ⟨⟨rfl, rfl⟩, Nat.le_of_ble_eq_true rfl, Nat.le_of_ble_eq_true rfl⟩ rfl hl.1 rfl (Nat.le_of_ble_eq_true rfl) dX6_word_6 ⟨Nat.zero_le _, Nat.zero_le _⟩ (fun q2 H locs hw hf => ?_)
  refine lv_iload_n hx hb dX6_word_9 rfl (lv_at hl 2 rfl) ?_
  refine r_S_l (As := [.long q2, .int x2]) (rest := []) cx hw hf lk_X6_201 (fun q3 hq => k_X6_appends l g hg   S q2 x2 q3 hq) ⟨⟨rfl, rfl⟩, Nat.le_of_ble_eq_true rfl, Nat.le_of_ble_eq_true rfl⟩ rfl hl.1 rfl (Nat.le_of_ble_eq_true rfl) dX6_word_10 ⟨Nat.zero_le _, Nat.zero_le _⟩ (fun q3 H locs hw hf => ?_)
  refine lv_iload_n hx hb dX6_word_13 rfl (lv_at hl 3 rfl) ?_
  refine r_S_l (As := [.long q3, .int x3]) (rest := []) cx hw hf lk_X6_201 (fun q4 hq => k_X6_appends l g hg   S q3 x3 q4 hq) ⟨⟨rfl, rfl⟩, Nat.le_of_ble_eq_true rfl, Nat.le_of_ble_eq_true rfl⟩ rfl hl.1 rfl (Nat.le_of_ble_eq_true rfl) dX6_word_14 ⟨Nat.zero_le _, Nat.zero_le _⟩ (fun q4 H locs hw hf => ?_)
  refine lv_iload hx hb dX6_word_17 (lv_at hl 4 rfl) ?_
  refine r_S_l (As := [.long q4, .int x4]) (rest := []) cx hw hf lk_X6_201 (fun q5 hq => k_X6_appends l g hg   S q4 x4 q5 hq) ⟨⟨rfl, rfl⟩, Nat.le_of_ble_eq_true rfl, Nat.le_of_ble_eq_true rfl⟩ rfl hl.1 rfl (Nat.le_of_ble_eq_true rfl) dX6_word_19 ⟨Nat.zero_le _, Nat.zero_le _⟩ (fun q5 H locs hw hf => ?_)
  refine lv_iload hx hb dX6_word_22 (lv_at hl 5 rfl) ?_
  refine r_S_l (As := [.long q5, .int x5]) (rest := []) cx hw hf lk_X6_201 (fun q6 hq => k_X6_appends l g hg   S q5 x5 q6 hq) ⟨⟨rfl, rfl⟩, Nat.le_of_ble_eq_true rfl, Nat.le_of_ble_eq_true rfl⟩ rfl hl.1 rfl (Nat.le_of_ble_eq_true rfl) dX6_word_24 ⟨Nat.zero_le _, Nat.zero_le _⟩ (fun q6 H locs hw hf => ?_)
  refine lv_iload hx hb dX6_word_27 (lv_at hl 6 rfl) ?_
  refine r_S_l (As := [.long q6, .int x6]) (rest := []) cx hw hf lk_X6_201 (fun q7 hq => k_X6_appends l g hg   S q6 x6 q7 hq) ⟨⟨rfl, rfl⟩, Nat.le_of_ble_eq_true rfl, Nat.le_of_ble_eq_true rfl⟩ rfl hl.1 rfl (Nat.le_of_ble_eq_true rfl) dX6_word_29 ⟨Nat.zero_le _, Nat.zero_le _⟩ (fun q7 H locs hw hf => ?_)
  exact r_lret cx hw hr hlk hf dX6_word_32
theorem dX6_token_0 : decode cX6_token 0 = .ok (.aload_n 0, 1) := by decide +kernel
theorem dX6_token_1 : decode cX6_token 1 = .ok (.getfield 20, 3) := by decide +kernel
theorem dX6_token_4 : decode cX6_token 4 = .ok (.aload_n 0, 1) := by decide +kernel
theorem dX6_token_5 : decode cX6_token 5 = .ok (.getfield 205, 3) := by decide +kernel
theorem dX6_token_8 : decode cX6_token 8 = .ok (.iload_n 1, 1) := by decide +kernel
theorem dX6_token_9 : decode cX6_token 9 = .ok (.iastore, 1) := by decide +kernel
theorem dX6_token_10 : decode cX6_token 10 = .ok (.aload_n 0, 1) := by decide +kernel
theorem dX6_token_11 : decode cX6_token 11 = .ok (.getfield 24, 3) := by decide +kernel
theorem dX6_token_14 : decode cX6_token 14 = .ok (.aload_n 0, 1) := by decide +kernel
theorem dX6_token_15 : decode cX6_token 15 = .ok (.getfield 205, 3) := by decide +kernel
theorem dX6_token_18 : decode cX6_token 18 = .ok (.iload_n 2, 1) := by decide +kernel
theorem dX6_token_19 : decode cX6_token 19 = .ok (.iastore, 1) := by decide +kernel
theorem dX6_token_20 : decode cX6_token 20 = .ok (.aload_n 0, 1) := by decide +kernel
theorem dX6_token_21 : decode cX6_token 21 = .ok (.getfield 27, 3) := by decide +kernel
theorem dX6_token_24 : decode cX6_token 24 = .ok (.aload_n 0, 1) := by decide +kernel
theorem dX6_token_25 : decode cX6_token 25 = .ok (.getfield 205, 3) := by decide +kernel
theorem dX6_token_28 : decode cX6_token 28 = .ok (.iload_n 3, 1) := by decide +kernel
theorem dX6_token_29 : decode cX6_token 29 = .ok (.iastore, 1) := by decide +kernel
theorem dX6_token_30 : decode cX6_token 30 = .ok (.aload_n 0, 1) := by decide +kernel
theorem dX6_token_31 : decode cX6_token 31 = .ok (.getfield 30, 3) := by decide +kernel
theorem dX6_token_34 : decode cX6_token 34 = .ok (.aload_n 0, 1) := by decide +kernel
theorem dX6_token_35 : decode cX6_token 35 = .ok (.getfield 205, 3) := by decide +kernel
theorem dX6_token_38 : decode cX6_token 38 = .ok (.lload 4, 2) := by decide +kernel
theorem dX6_token_40 : decode cX6_token 40 = .ok (.lastore, 1) := by decide +kernel
theorem dX6_token_41 : decode cX6_token 41 = .ok (.aload_n 0, 1) := by decide +kernel
theorem dX6_token_42 : decode cX6_token 42 = .ok (.dup, 1) := by decide +kernel
theorem dX6_token_43 : decode cX6_token 43 = .ok (.getfield 205, 3) := by decide +kernel
theorem dX6_token_46 : decode cX6_token 46 = .ok (.iconst 1, 1) := by decide +kernel
theorem dX6_token_47 : decode cX6_token 47 = .ok (.iadd, 1) := by decide +kernel
theorem dX6_token_48 : decode cX6_token 48 = .ok (.putfield 205, 3) := by decide +kernel
theorem dX6_token_51 : decode cX6_token 51 = .ok (.return_, 1) := by decide +kernel
abbrev rm_X6_token : Room := { frames := 0, cells := 0, slots := 0, locals := 0 }
def f_X6_token (S : St) (x1 : Int32) (x2 : Int32) (x3 : Int32) (x4 : Int64) : Option (St) :=
  chk (ib (st_I S (ky 0 10)) 403) (lt_v (up_A S (ky 0 5) (upd (st_A S (ky 0 5)) (st_I S (ky 0 10)).toNatClampNeg x1)) (fun (S1 : St) => chk (ib (st_I S1 (ky 0 10)) 403) (lt_v (up_A S1 (ky 0 6) (upd (st_A S1 (ky 0 6)) (st_I S1 (ky 0 10)).toNatClampNeg x2)) (fun (S2 : St) => chk (ib (st_I S2 (ky 0 10)) 403) (lt_v (up_A S2 (ky 0 7) (upd (st_A S2 (ky 0 7)) (st_I S2 (ky 0 10)).toNatClampNeg x3)) (fun (S3 : St) => chk (ib (st_I S3 (ky 0 10)) 403) (lt_v (up_L S3 (ky 0 8) (vp_updL (st_L S3 (ky 0 8)) (st_I S3 (ky 0 10)).toNatClampNeg x4)) (fun (S4 : St) => lt_v (up_I S4 (ky 0 10) ((st_I S4 (ky 0 10)) + (1 : Int32))) (fun (S5 : St) => some S5)))))))))
set_option maxRecDepth 100000 in
set_option maxHeartbeats 4000000 in
theorem k_X6_token (l : Launch) (g : GG) (hg : gd wd_M g)  (hM : hs wd_M g 0 6) (S : St) (x1 : Int32) (x2 : Int32) (x3 : Int32) (x4 : Int64) (q : St) (hf : f_X6_token  S x1 x2 x3 x4 = some q) : Met l yX6_token (Cond.code yX6_token cX6_token 6 none :: gw_tbl) rm_X6_token (va_Pc [.ref (gg_o g 0), .int x1, .int x2, .int x3, .long x4] (wI wd_M g S)) (qc_v wd_M g q) 0 0 (aw g) := by
  refine mt_start (own := RX6) hg (by decide) rfl (Nat.le_of_ble_eq_true rfl) (fun p e s m args below meth c ls H locs cx hw hr hlk hl => ?_)
  have hx := cx.1
  have hb := cx.2.1
  have hown := cx.2.2.2.1
  have hts := cx.2.2.2.2.1
  have hl : lv_has ls 6 [(0, .ref (gg_o g 0)), (1, .int x1), (2, .int x2), (3, .int x3), (4, .long x4)] := hl
  replace hf := h_top hf
  unfold f_X6_token at hf
  refine lv_aload_n hx hb dX6_token_0 rfl (lv_at hl 0 rfl) ?_
  refine gf_X6_20 cx hw hM dX6_token_1 ?_
  refine lv_aload_n hx hb dX6_token_4 rfl (lv_at hl 0 rfl) ?_
  refine gf_X6_205 cx hw hM dX6_token_5 ?_
  refine lv_iload_n hx hb dX6_token_8 rfl (lv_at hl 1 rfl) ?_
  refine r_iast cx hw (hM.2.2.1 5 rfl) rfl rfl hf dX6_token_9 (fun S1 H locs hw hf => ?_)
  refine lv_aload_n hx hb dX6_token_10 rfl (lv_at hl 0 rfl) ?_
  refine gf_X6_24 cx hw hM dX6_token_11 ?_
  refine lv_aload_n hx hb dX6_token_14 rfl (lv_at hl 0 rfl) ?_
  refine gf_X6_205 cx hw hM dX6_token_15 ?_
  refine lv_iload_n hx hb dX6_token_18 rfl (lv_at hl 2 rfl) ?_
  refine r_iast cx hw (hM.2.2.1 6 rfl) rfl rfl hf dX6_token_19 (fun S2 H locs hw hf => ?_)
  refine lv_aload_n hx hb dX6_token_20 rfl (lv_at hl 0 rfl) ?_
  refine gf_X6_27 cx hw hM dX6_token_21 ?_
  refine lv_aload_n hx hb dX6_token_24 rfl (lv_at hl 0 rfl) ?_
  refine gf_X6_205 cx hw hM dX6_token_25 ?_
  refine lv_iload_n hx hb dX6_token_28 rfl (lv_at hl 3 rfl) ?_
  refine r_iast cx hw (hM.2.2.1 7 rfl) rfl rfl hf dX6_token_29 (fun S3 H locs hw hf => ?_)
  refine lv_aload_n hx hb dX6_token_30 rfl (lv_at hl 0 rfl) ?_
  refine gf_X6_30 cx hw hM dX6_token_31 ?_
  refine lv_aload_n hx hb dX6_token_34 rfl (lv_at hl 0 rfl) ?_
  refine gf_X6_205 cx hw hM dX6_token_35 ?_
  refine lv_lload hx hb dX6_token_38 (lv_at hl 4 rfl) ?_
  refine r_last cx hw (hM.2.2.2.1 8 rfl) rfl hf dX6_token_40 (fun S4 H locs hw hf => ?_)
  refine lv_aload_n hx hb dX6_token_41 rfl (lv_at hl 0 rfl) ?_
  refine lv_dup hx hb dX6_token_42 rfl ?_
  refine gf_X6_205 cx hw hM dX6_token_43 ?_
  refine lv_iconst (v := 1) hx hb dX6_token_46 (by decide) ?_
  refine lv_iadd hx hb dX6_token_47 ?_
  refine pf_X6_205 cx hw hM hf dX6_token_48 (fun S5 H locs hw hf => ?_)
  exact r_vret cx hw hr hlk hf dX6_token_51
theorem dX6_sign_0 : decode cX6_sign 0 = .ok (.iload_n 2, 1) := by decide +kernel
theorem dX6_sign_1 : decode cX6_sign 1 = .ok (.bipush 59, 2) := by decide +kernel
theorem dX6_sign_3 : decode cX6_sign 3 = .ok (.if_icmp .ne 7, 3) := by decide +kernel
theorem dX6_sign_6 : decode cX6_sign 6 = .ok (.iconst 4, 1) := by decide +kernel
theorem dX6_sign_7 : decode cX6_sign 7 = .ok (.goto 36, 3) := by decide +kernel
theorem dX6_sign_10 : decode cX6_sign 10 = .ok (.iload_n 2, 1) := by decide +kernel
theorem dX6_sign_11 : decode cX6_sign 11 = .ok (.bipush 61, 2) := by decide +kernel
theorem dX6_sign_13 : decode cX6_sign 13 = .ok (.if_icmp .ne 7, 3) := by decide +kernel
theorem dX6_sign_16 : decode cX6_sign 16 = .ok (.iconst 5, 1) := by decide +kernel
theorem dX6_sign_17 : decode cX6_sign 17 = .ok (.goto 26, 3) := by decide +kernel
theorem dX6_sign_20 : decode cX6_sign 20 = .ok (.iload_n 2, 1) := by decide +kernel
theorem dX6_sign_21 : decode cX6_sign 21 = .ok (.bipush 40, 2) := by decide +kernel
theorem dX6_sign_23 : decode cX6_sign 23 = .ok (.if_icmp .ne 8, 3) := by decide +kernel
theorem dX6_sign_26 : decode cX6_sign 26 = .ok (.bipush 6, 2) := by decide +kernel
theorem dX6_sign_28 : decode cX6_sign 28 = .ok (.goto 15, 3) := by decide +kernel
theorem dX6_sign_31 : decode cX6_sign 31 = .ok (.iload_n 2, 1) := by decide +kernel
theorem dX6_sign_32 : decode cX6_sign 32 = .ok (.bipush 41, 2) := by decide +kernel
theorem dX6_sign_34 : decode cX6_sign 34 = .ok (.if_icmp .ne 8, 3) := by decide +kernel
theorem dX6_sign_37 : decode cX6_sign 37 = .ok (.bipush 7, 2) := by decide +kernel
theorem dX6_sign_39 : decode cX6_sign 39 = .ok (.goto 4, 3) := by decide +kernel
theorem dX6_sign_42 : decode cX6_sign 42 = .ok (.iconst 3, 1) := by decide +kernel
theorem dX6_sign_43 : decode cX6_sign 43 = .ok (.istore 4, 2) := by decide +kernel
theorem dX6_sign_45 : decode cX6_sign 45 = .ok (.iload_n 2, 1) := by decide +kernel
theorem dX6_sign_46 : decode cX6_sign 46 = .ok (.bipush 43, 2) := by decide +kernel
theorem dX6_sign_48 : decode cX6_sign 48 = .ok (.if_icmp .ne 7, 3) := by decide +kernel
theorem dX6_sign_51 : decode cX6_sign 51 = .ok (.bipush 8, 2) := by decide +kernel
theorem dX6_sign_53 : decode cX6_sign 53 = .ok (.istore 4, 2) := by decide +kernel
theorem dX6_sign_55 : decode cX6_sign 55 = .ok (.iload_n 2, 1) := by decide +kernel
theorem dX6_sign_56 : decode cX6_sign 56 = .ok (.bipush 45, 2) := by decide +kernel
theorem dX6_sign_58 : decode cX6_sign 58 = .ok (.if_icmp .ne 7, 3) := by decide +kernel
theorem dX6_sign_61 : decode cX6_sign 61 = .ok (.bipush 9, 2) := by decide +kernel
theorem dX6_sign_63 : decode cX6_sign 63 = .ok (.istore 4, 2) := by decide +kernel
theorem dX6_sign_65 : decode cX6_sign 65 = .ok (.iload_n 2, 1) := by decide +kernel
theorem dX6_sign_66 : decode cX6_sign 66 = .ok (.bipush 42, 2) := by decide +kernel
theorem dX6_sign_68 : decode cX6_sign 68 = .ok (.if_icmp .ne 7, 3) := by decide +kernel
theorem dX6_sign_71 : decode cX6_sign 71 = .ok (.bipush 10, 2) := by decide +kernel
theorem dX6_sign_73 : decode cX6_sign 73 = .ok (.istore 4, 2) := by decide +kernel
theorem dX6_sign_75 : decode cX6_sign 75 = .ok (.iload_n 2, 1) := by decide +kernel
theorem dX6_sign_76 : decode cX6_sign 76 = .ok (.bipush 47, 2) := by decide +kernel
theorem dX6_sign_78 : decode cX6_sign 78 = .ok (.if_icmp .ne 7, 3) := by decide +kernel
theorem dX6_sign_81 : decode cX6_sign 81 = .ok (.bipush 15, 2) := by decide +kernel
theorem dX6_sign_83 : decode cX6_sign 83 = .ok (.istore 4, 2) := by decide +kernel
theorem dX6_sign_85 : decode cX6_sign 85 = .ok (.iload_n 2, 1) := by decide +kernel
theorem dX6_sign_86 : decode cX6_sign 86 = .ok (.bipush 60, 2) := by decide +kernel
theorem dX6_sign_88 : decode cX6_sign 88 = .ok (.if_icmp .ne 7, 3) := by decide +kernel
theorem dX6_sign_91 : decode cX6_sign 91 = .ok (.bipush 13, 2) := by decide +kernel
theorem dX6_sign_93 : decode cX6_sign 93 = .ok (.istore 4, 2) := by decide +kernel
theorem dX6_sign_95 : decode cX6_sign 95 = .ok (.aload_n 0, 1) := by decide +kernel
theorem dX6_sign_96 : decode cX6_sign 96 = .ok (.iload 4, 2) := by decide +kernel
theorem dX6_sign_98 : decode cX6_sign 98 = .ok (.iload_n 1, 1) := by decide +kernel
theorem dX6_sign_99 : decode cX6_sign 99 = .ok (.iconst 0, 1) := by decide +kernel
theorem dX6_sign_100 : decode cX6_sign 100 = .ok (.lconst 0, 1) := by decide +kernel
theorem dX6_sign_101 : decode cX6_sign 101 = .ok (.invokevirtual 212, 3) := by decide +kernel
theorem dX6_sign_104 : decode cX6_sign 104 = .ok (.iconst 1, 1) := by decide +kernel
theorem dX6_sign_105 : decode cX6_sign 105 = .ok (.ireturn, 1) := by decide +kernel
abbrev rm_X6_sign : Room := { frames := 1, cells := 0, slots := 0, locals := 25 }
def f_X6_sign_J95 (S : St) (x1 : Int32) (x4 : Int32) : Option (Int32 × St) :=
  (f_X6_token  S x4 x1 (0 : Int32) (0 : Int64)).bind (fun (q10 : St) => some ((1 : Int32), q10))
def f_X6_sign_J85 (S : St) (x1 : Int32) (x2 : Int32) (x4 : Int32) : Option (Int32 × St) :=
  if x2 = (60 : Int32) then (f_X6_sign_J95  S x1 (13 : Int32)) else (f_X6_sign_J95  S x1 x4)
def f_X6_sign_J75 (S : St) (x1 : Int32) (x2 : Int32) (x4 : Int32) : Option (Int32 × St) :=
  if x2 = (47 : Int32) then (f_X6_sign_J85  S x1 x2 (15 : Int32)) else (f_X6_sign_J85  S x1 x2 x4)
def f_X6_sign_J65 (S : St) (x1 : Int32) (x2 : Int32) (x4 : Int32) : Option (Int32 × St) :=
  if x2 = (42 : Int32) then (f_X6_sign_J75  S x1 x2 (10 : Int32)) else (f_X6_sign_J75  S x1 x2 x4)
def f_X6_sign_J55 (S : St) (x1 : Int32) (x2 : Int32) (x4 : Int32) : Option (Int32 × St) :=
  if x2 = (45 : Int32) then (f_X6_sign_J65  S x1 x2 (9 : Int32)) else (f_X6_sign_J65  S x1 x2 x4)
def f_X6_sign_J43 (S : St) (x1 : Int32) (x2 : Int32) (y0 : Int32) : Option (Int32 × St) :=
  if x2 = (43 : Int32) then (f_X6_sign_J55  S x1 x2 (8 : Int32)) else (f_X6_sign_J55  S x1 x2 y0)
def f_X6_sign (S : St) (x1 : Int32) (x2 : Int32) (x3 : Int32) : Option (Int32 × St) :=
  if x2 = (59 : Int32) then (f_X6_sign_J43  S x1 x2 (4 : Int32)) else (if x2 = (61 : Int32) then (f_X6_sign_J43  S x1 x2 (5 : Int32)) else (if x2 = (40 : Int32) then (f_X6_sign_J43  S x1 x2 (6 : Int32)) else (if x2 = (41 : Int32) then (f_X6_sign_J43  S x1 x2 (7 : Int32)) else (f_X6_sign_J43  S x1 x2 (3 : Int32)))))
set_option maxRecDepth 100000 in
set_option maxHeartbeats 4000000 in
theorem k_X6_sign (l : Launch) (g : GG) (hg : gd wd_M g)  (hM : hs wd_M g 0 6) (S : St) (x1 : Int32) (x2 : Int32) (x3 : Int32) (q : Int32 × St) (hf : f_X6_sign  S x1 x2 x3 = some q) : Met l yX6_sign (Cond.code yX6_sign cX6_sign 5 (some .int) :: gw_tbl) rm_X6_sign (va_Pc [.ref (gg_o g 0), .int x1, .int x2, .int x3] (wI wd_M g S)) (qc_w wd_M g q) 0 0 (aw g) := by
  refine mt_start (own := RX6) hg (by decide) rfl (Nat.le_of_ble_eq_true rfl) (fun p e s m args below meth c ls H locs cx hw hr hlk hl => ?_)
  have hx := cx.1
  have hb := cx.2.1
  have hown := cx.2.2.2.1
  have hts := cx.2.2.2.2.1
  have hl : lv_has ls 5 [(0, .ref (gg_o g 0)), (1, .int x1), (2, .int x2), (3, .int x3)] := hl
  replace hf := h_top hf
  unfold f_X6_sign at hf
  have J95 : ∀ (ls : Array Slot) (H : Heap) (locs : List Loc) (S : St) (x1 : Int32) (x4 : Int32), lv_has ls 5 [(0, .ref (gg_o g 0)), (1, .int x1), (4, .int x4)] → HH wd_M g s S H locs → (f_X6_sign_J95  S x1 x4).bind some = some q → W p l e rm_X6_sign s m args below meth c H locs 0 0 (MQ below (qc_w wd_M g q) args s 0 0 (aw g)) (F0 m 95 ls []) := by
    intro ls H locs S x1 x4 hl hw hf
    unfold f_X6_sign_J95 at hf
    refine lv_aload_n hx hb dX6_sign_95 rfl (lv_at hl 0 rfl) ?_
    refine lv_iload hx hb dX6_sign_96 (lv_at hl 2 rfl) ?_
    refine lv_iload_n hx hb dX6_sign_98 rfl (lv_at hl 1 rfl) ?_
    refine lv_iconst (v := 0) hx hb dX6_sign_99 (by decide) ?_
    refine lv_lconst (v := 0) hx hb dX6_sign_100 (by decide) ?_
    refine r_V_v (As := [.int x4, .int x1, .int (0 : Int32), .long (0 : Int64)]) (rest := []) cx hw hf hM.2.1 (by rw [hM.1]; rfl) lk_X6_212 (fun q10 hq => k_X6_token l g hg  hM S x4 x1 (0 : Int32) (0 : Int64) q10 hq) ⟨⟨rfl, rfl⟩, Nat.le_of_ble_eq_true rfl, Nat.le_of_ble_eq_true rfl⟩ rfl hl.1 rfl (Nat.le_of_ble_eq_true rfl) dX6_sign_101 ⟨Nat.zero_le _, Nat.zero_le _⟩ (fun q10 H locs hw hf => ?_)
    refine lv_iconst (v := 1) hx hb dX6_sign_104 (by decide) ?_
    exact r_iretw cx hw hr hlk hf dX6_sign_105
  have J85 : ∀ (ls : Array Slot) (H : Heap) (locs : List Loc) (S : St) (x1 : Int32) (x2 : Int32) (x4 : Int32), lv_has ls 5 [(0, .ref (gg_o g 0)), (1, .int x1), (2, .int x2), (4, .int x4)] → HH wd_M g s S H locs → (f_X6_sign_J85  S x1 x2 x4).bind some = some q → W p l e rm_X6_sign s m args below meth c H locs 0 0 (MQ below (qc_w wd_M g q) args s 0 0 (aw g)) (F0 m 85 ls []) := by
    intro ls H locs S x1 x2 x4 hl hw hf
    unfold f_X6_sign_J85 at hf
    refine lv_iload_n hx hb dX6_sign_85 rfl (lv_at hl 2 rfl) ?_
    refine lv_bipush (v := 60) hx hb dX6_sign_86 (by decide) ?_
    refine lv_icmp_ne hx hb dX6_sign_88 (tgt := 95) rfl (fun hc9 => ?_) (fun hc9 => ?_)
    · replace hf := h_neg hc9 hf
      exact J95 _ _ _ S x1 x4 (lv_sub hl [0, 1, 3] rfl) hw hf
    replace hf := h_pos hc9 hf
    refine lv_bipush (v := 13) hx hb dX6_sign_91 (by decide) ?_
    refine lv_istore hx hb dX6_sign_93 hl (by decide) (lv' := [(4, .int (13 : Int32)), (0, .ref (gg_o g 0)), (1, .int x1), (2, .int x2)]) rfl (fun ls hl => ?_)
    exact J95 _ _ _ S x1 (13 : Int32) (lv_sub hl [1, 2, 0] rfl) hw hf
  have J75 : ∀ (ls : Array Slot) (H : Heap) (locs : List Loc) (S : St) (x1 : Int32) (x2 : Int32) (x4 : Int32), lv_has ls 5 [(0, .ref (gg_o g 0)), (1, .int x1), (2, .int x2), (4, .int x4)] → HH wd_M g s S H locs → (f_X6_sign_J75  S x1 x2 x4).bind some = some q → W p l e rm_X6_sign s m args below meth c H locs 0 0 (MQ below (qc_w wd_M g q) args s 0 0 (aw g)) (F0 m 75 ls []) := by
    intro ls H locs S x1 x2 x4 hl hw hf
    unfold f_X6_sign_J75 at hf
    refine lv_iload_n hx hb dX6_sign_75 rfl (lv_at hl 2 rfl) ?_
    refine lv_bipush (v := 47) hx hb dX6_sign_76 (by decide) ?_
    refine lv_icmp_ne hx hb dX6_sign_78 (tgt := 85) rfl (fun hc8 => ?_) (fun hc8 => ?_)
    · replace hf := h_neg hc8 hf
      exact J85 _ _ _ S x1 x2 x4 (lv_sub hl [0, 1, 2, 3] rfl) hw hf
    replace hf := h_pos hc8 hf
    refine lv_bipush (v := 15) hx hb dX6_sign_81 (by decide) ?_
    refine lv_istore hx hb dX6_sign_83 hl (by decide) (lv' := [(4, .int (15 : Int32)), (0, .ref (gg_o g 0)), (1, .int x1), (2, .int x2)]) rfl (fun ls hl => ?_)
    exact J85 _ _ _ S x1 x2 (15 : Int32) (lv_sub hl [1, 2, 3, 0] rfl) hw hf
  have J65 : ∀ (ls : Array Slot) (H : Heap) (locs : List Loc) (S : St) (x1 : Int32) (x2 : Int32) (x4 : Int32), lv_has ls 5 [(0, .ref (gg_o g 0)), (1, .int x1), (2, .int x2), (4, .int x4)] → HH wd_M g s S H locs → (f_X6_sign_J65  S x1 x2 x4).bind some = some q → W p l e rm_X6_sign s m args below meth c H locs 0 0 (MQ below (qc_w wd_M g q) args s 0 0 (aw g)) (F0 m 65 ls []) := by
    intro ls H locs S x1 x2 x4 hl hw hf
    unfold f_X6_sign_J65 at hf
    refine lv_iload_n hx hb dX6_sign_65 rfl (lv_at hl 2 rfl) ?_
    refine lv_bipush (v := 42) hx hb dX6_sign_66 (by decide) ?_
    refine lv_icmp_ne hx hb dX6_sign_68 (tgt := 75) rfl (fun hc7 => ?_) (fun hc7 => ?_)
    · replace hf := h_neg hc7 hf
      exact J75 _ _ _ S x1 x2 x4 (lv_sub hl [0, 1, 2, 3] rfl) hw hf
    replace hf := h_pos hc7 hf
    refine lv_bipush (v := 10) hx hb dX6_sign_71 (by decide) ?_
    refine lv_istore hx hb dX6_sign_73 hl (by decide) (lv' := [(4, .int (10 : Int32)), (0, .ref (gg_o g 0)), (1, .int x1), (2, .int x2)]) rfl (fun ls hl => ?_)
    exact J75 _ _ _ S x1 x2 (10 : Int32) (lv_sub hl [1, 2, 3, 0] rfl) hw hf
  have J55 : ∀ (ls : Array Slot) (H : Heap) (locs : List Loc) (S : St) (x1 : Int32) (x2 : Int32) (x4 : Int32), lv_has ls 5 [(0, .ref (gg_o g 0)), (1, .int x1), (2, .int x2), (4, .int x4)] → HH wd_M g s S H locs → (f_X6_sign_J55  S x1 x2 x4).bind some = some q → W p l e rm_X6_sign s m args below meth c H locs 0 0 (MQ below (qc_w wd_M g q) args s 0 0 (aw g)) (F0 m 55 ls []) := by
    intro ls H locs S x1 x2 x4 hl hw hf
    unfold f_X6_sign_J55 at hf
    refine lv_iload_n hx hb dX6_sign_55 rfl (lv_at hl 2 rfl) ?_
    refine lv_bipush (v := 45) hx hb dX6_sign_56 (by decide) ?_
    refine lv_icmp_ne hx hb dX6_sign_58 (tgt := 65) rfl (fun hc6 => ?_) (fun hc6 => ?_)
    · replace hf := h_neg hc6 hf
      exact J65 _ _ _ S x1 x2 x4 (lv_sub hl [0, 1, 2, 3] rfl) hw hf
    replace hf := h_pos hc6 hf
    refine lv_bipush (v := 9) hx hb dX6_sign_61 (by decide) ?_
    refine lv_istore hx hb dX6_sign_63 hl (by decide) (lv' := [(4, .int (9 : Int32)), (0, .ref (gg_o g 0)), (1, .int x1), (2, .int x2)]) rfl (fun ls hl => ?_)
    exact J65 _ _ _ S x1 x2 (9 : Int32) (lv_sub hl [1, 2, 3, 0] rfl) hw hf
  have J43 : ∀ (ls : Array Slot) (H : Heap) (locs : List Loc) (S : St) (x1 : Int32) (x2 : Int32) (y0 : Int32), lv_has ls 5 [(0, .ref (gg_o g 0)), (1, .int x1), (2, .int x2)] → HH wd_M g s S H locs → (f_X6_sign_J43  S x1 x2 y0).bind some = some q → W p l e rm_X6_sign s m args below meth c H locs 0 0 (MQ below (qc_w wd_M g q) args s 0 0 (aw g)) (F0 m 43 ls [.int y0]) := by
    intro ls H locs S x1 x2 y0 hl hw hf
    unfold f_X6_sign_J43 at hf
    refine lv_istore hx hb dX6_sign_43 hl (by decide) (lv' := [(4, .int y0), (0, .ref (gg_o g 0)), (1, .int x1), (2, .int x2)]) rfl (fun ls hl => ?_)
    refine lv_iload_n hx hb dX6_sign_45 rfl (lv_at hl 3 rfl) ?_
    refine lv_bipush (v := 43) hx hb dX6_sign_46 (by decide) ?_
    refine lv_icmp_ne hx hb dX6_sign_48 (tgt := 55) rfl (fun hc5 => ?_) (fun hc5 => ?_)
    · replace hf := h_neg hc5 hf
      exact J55 _ _ _ S x1 x2 y0 (lv_sub hl [1, 2, 3, 0] rfl) hw hf
    replace hf := h_pos hc5 hf
    refine lv_bipush (v := 8) hx hb dX6_sign_51 (by decide) ?_
    refine lv_istore hx hb dX6_sign_53 hl (by decide) (lv' := [(4, .int (8 : Int32)), (0, .ref (gg_o g 0)), (1, .int x1), (2, .int x2)]) rfl (fun ls hl => ?_)
    exact J55 _ _ _ S x1 x2 (8 : Int32) (lv_sub hl [1, 2, 3, 0] rfl) hw hf
  refine lv_iload_n hx hb dX6_sign_0 rfl (lv_at hl 2 rfl) ?_
  refine lv_bipush (v := 59) hx hb dX6_sign_1 (by decide) ?_
  refine lv_icmp_ne hx hb dX6_sign_3 (tgt := 10) rfl (fun hc1 => ?_) (fun hc1 => ?_)
  · replace hf := h_neg hc1 hf
    refine lv_iload_n hx hb dX6_sign_10 rfl (lv_at hl 2 rfl) ?_
    refine lv_bipush (v := 61) hx hb dX6_sign_11 (by decide) ?_
    refine lv_icmp_ne hx hb dX6_sign_13 (tgt := 20) rfl (fun hc2 => ?_) (fun hc2 => ?_)
    · replace hf := h_neg hc2 hf
      refine lv_iload_n hx hb dX6_sign_20 rfl (lv_at hl 2 rfl) ?_
      refine lv_bipush (v := 40) hx hb dX6_sign_21 (by decide) ?_
      refine lv_icmp_ne hx hb dX6_sign_23 (tgt := 31) rfl (fun hc3 => ?_) (fun hc3 => ?_)
      · replace hf := h_neg hc3 hf
        refine lv_iload_n hx hb dX6_sign_31 rfl (lv_at hl 2 rfl) ?_
        refine lv_bipush (v := 41) hx hb dX6_sign_32 (by decide) ?_
        refine lv_icmp_ne hx hb dX6_sign_34 (tgt := 42) rfl (fun hc4 => ?_) (fun hc4 => ?_)
        · replace hf := h_neg hc4 hf
          refine lv_iconst (v := 3) hx hb dX6_sign_42 (by decide) ?_
          exact J43 _ _ _ S x1 x2 (3 : Int32) (lv_sub hl [0, 1, 2] rfl) hw hf
        replace hf := h_pos hc4 hf
        refine lv_bipush (v := 7) hx hb dX6_sign_37 (by decide) ?_
        refine lv_goto hx hb dX6_sign_39 (tgt := 43) rfl ?_
        exact J43 _ _ _ S x1 x2 (7 : Int32) (lv_sub hl [0, 1, 2] rfl) hw hf
      replace hf := h_pos hc3 hf
      refine lv_bipush (v := 6) hx hb dX6_sign_26 (by decide) ?_
      refine lv_goto hx hb dX6_sign_28 (tgt := 43) rfl ?_
      exact J43 _ _ _ S x1 x2 (6 : Int32) (lv_sub hl [0, 1, 2] rfl) hw hf
    replace hf := h_pos hc2 hf
    refine lv_iconst (v := 5) hx hb dX6_sign_16 (by decide) ?_
    refine lv_goto hx hb dX6_sign_17 (tgt := 43) rfl ?_
    exact J43 _ _ _ S x1 x2 (5 : Int32) (lv_sub hl [0, 1, 2] rfl) hw hf
  replace hf := h_pos hc1 hf
  refine lv_iconst (v := 4) hx hb dX6_sign_6 (by decide) ?_
  refine lv_goto hx hb dX6_sign_7 (tgt := 43) rfl ?_
  exact J43 _ _ _ S x1 x2 (4 : Int32) (lv_sub hl [0, 1, 2] rfl) hw hf
theorem dX6_cut_0 : decode cX6_cut 0 = .ok (.aload_n 0, 1) := by decide +kernel
theorem dX6_cut_1 : decode cX6_cut 1 = .ok (.iconst 0, 1) := by decide +kernel
theorem dX6_cut_2 : decode cX6_cut 2 = .ok (.putfield 205, 3) := by decide +kernel
theorem dX6_cut_5 : decode cX6_cut 5 = .ok (.iconst 0, 1) := by decide +kernel
theorem dX6_cut_6 : decode cX6_cut 6 = .ok (.istore_n 1, 1) := by decide +kernel
theorem dX6_cut_7 : decode cX6_cut 7 = .ok (.aload_n 0, 1) := by decide +kernel
theorem dX6_cut_8 : decode cX6_cut 8 = .ok (.getfield 205, 3) := by decide +kernel
theorem dX6_cut_11 : decode cX6_cut 11 = .ok (.sipush 400, 3) := by decide +kernel
theorem dX6_cut_14 : decode cX6_cut 14 = .ok (.if_icmp .gt 280, 3) := by decide +kernel
theorem dX6_cut_17 : decode cX6_cut 17 = .ok (.aload_n 0, 1) := by decide +kernel
theorem dX6_cut_18 : decode cX6_cut 18 = .ok (.iload_n 1, 1) := by decide +kernel
theorem dX6_cut_19 : decode cX6_cut 19 = .ok (.invokevirtual 208, 3) := by decide +kernel
theorem dX6_cut_22 : decode cX6_cut 22 = .ok (.istore_n 2, 1) := by decide +kernel
theorem dX6_cut_23 : decode cX6_cut 23 = .ok (.iload_n 1, 1) := by decide +kernel
theorem dX6_cut_24 : decode cX6_cut 24 = .ok (.aload_n 0, 1) := by decide +kernel
theorem dX6_cut_25 : decode cX6_cut 25 = .ok (.getfield 196, 3) := by decide +kernel
theorem dX6_cut_28 : decode cX6_cut 28 = .ok (.if_icmp .lt 15, 3) := by decide +kernel
theorem dX6_cut_31 : decode cX6_cut 31 = .ok (.aload_n 0, 1) := by decide +kernel
theorem dX6_cut_32 : decode cX6_cut 32 = .ok (.iconst 0, 1) := by decide +kernel
theorem dX6_cut_33 : decode cX6_cut 33 = .ok (.aload_n 0, 1) := by decide +kernel
theorem dX6_cut_34 : decode cX6_cut 34 = .ok (.getfield 196, 3) := by decide +kernel
theorem dX6_cut_37 : decode cX6_cut 37 = .ok (.iconst 0, 1) := by decide +kernel
theorem dX6_cut_38 : decode cX6_cut 38 = .ok (.lconst 0, 1) := by decide +kernel
theorem dX6_cut_39 : decode cX6_cut 39 = .ok (.invokevirtual 212, 3) := by decide +kernel
theorem dX6_cut_42 : decode cX6_cut 42 = .ok (.return_, 1) := by decide +kernel
theorem dX6_cut_43 : decode cX6_cut 43 = .ok (.iload_n 2, 1) := by decide +kernel
theorem dX6_cut_44 : decode cX6_cut 44 = .ok (.bipush 9, 2) := by decide +kernel
theorem dX6_cut_46 : decode cX6_cut 46 = .ok (.if_icmp .eq 21, 3) := by decide +kernel
theorem dX6_cut_49 : decode cX6_cut 49 = .ok (.iload_n 2, 1) := by decide +kernel
theorem dX6_cut_50 : decode cX6_cut 50 = .ok (.bipush 10, 2) := by decide +kernel
theorem dX6_cut_52 : decode cX6_cut 52 = .ok (.if_icmp .eq 15, 3) := by decide +kernel
theorem dX6_cut_55 : decode cX6_cut 55 = .ok (.iload_n 2, 1) := by decide +kernel
theorem dX6_cut_56 : decode cX6_cut 56 = .ok (.bipush 13, 2) := by decide +kernel
theorem dX6_cut_58 : decode cX6_cut 58 = .ok (.if_icmp .eq 9, 3) := by decide +kernel
theorem dX6_cut_61 : decode cX6_cut 61 = .ok (.iload_n 2, 1) := by decide +kernel
theorem dX6_cut_62 : decode cX6_cut 62 = .ok (.bipush 32, 2) := by decide +kernel
theorem dX6_cut_64 : decode cX6_cut 64 = .ok (.if_icmp .ne 9, 3) := by decide +kernel
theorem dX6_cut_67 : decode cX6_cut 67 = .ok (.iinc 1 1, 3) := by decide +kernel
theorem dX6_cut_70 : decode cX6_cut 70 = .ok (.goto 221, 3) := by decide +kernel
theorem dX6_cut_73 : decode cX6_cut 73 = .ok (.iload_n 2, 1) := by decide +kernel
theorem dX6_cut_74 : decode cX6_cut 74 = .ok (.invokestatic 216, 3) := by decide +kernel
theorem dX6_cut_77 : decode cX6_cut 77 = .ok (.ifCond .eq 119, 3) := by decide +kernel
theorem dX6_cut_80 : decode cX6_cut 80 = .ok (.iconst 0, 1) := by decide +kernel
theorem dX6_cut_81 : decode cX6_cut 81 = .ok (.istore_n 3, 1) := by decide +kernel
theorem dX6_cut_82 : decode cX6_cut 82 = .ok (.lconst 0, 1) := by decide +kernel
theorem dX6_cut_83 : decode cX6_cut 83 = .ok (.lstore 4, 2) := by decide +kernel
theorem dX6_cut_85 : decode cX6_cut 85 = .ok (.aload_n 0, 1) := by decide +kernel
theorem dX6_cut_86 : decode cX6_cut 86 = .ok (.iload_n 1, 1) := by decide +kernel
theorem dX6_cut_87 : decode cX6_cut 87 = .ok (.iload_n 3, 1) := by decide +kernel
theorem dX6_cut_88 : decode cX6_cut 88 = .ok (.iadd, 1) := by decide +kernel
theorem dX6_cut_89 : decode cX6_cut 89 = .ok (.invokevirtual 208, 3) := by decide +kernel
theorem dX6_cut_92 : decode cX6_cut 92 = .ok (.invokestatic 216, 3) := by decide +kernel
theorem dX6_cut_95 : decode cX6_cut 95 = .ok (.ifCond .eq 29, 3) := by decide +kernel
theorem dX6_cut_98 : decode cX6_cut 98 = .ok (.iload_n 3, 1) := by decide +kernel
theorem dX6_cut_99 : decode cX6_cut 99 = .ok (.bipush 8, 2) := by decide +kernel
theorem dX6_cut_101 : decode cX6_cut 101 = .ok (.if_icmp .ge 17, 3) := by decide +kernel
theorem dX6_cut_104 : decode cX6_cut 104 = .ok (.lload 4, 2) := by decide +kernel
theorem dX6_cut_106 : decode cX6_cut 106 = .ok (.aload_n 0, 1) := by decide +kernel
theorem dX6_cut_107 : decode cX6_cut 107 = .ok (.iload_n 1, 1) := by decide +kernel
theorem dX6_cut_108 : decode cX6_cut 108 = .ok (.iload_n 3, 1) := by decide +kernel
theorem dX6_cut_109 : decode cX6_cut 109 = .ok (.iadd, 1) := by decide +kernel
theorem dX6_cut_110 : decode cX6_cut 110 = .ok (.invokevirtual 208, 3) := by decide +kernel
theorem dX6_cut_113 : decode cX6_cut 113 = .ok (.invokestatic 201, 3) := by decide +kernel
theorem dX6_cut_116 : decode cX6_cut 116 = .ok (.lstore 4, 2) := by decide +kernel
theorem dX6_cut_118 : decode cX6_cut 118 = .ok (.iinc 3 1, 3) := by decide +kernel
theorem dX6_cut_121 : decode cX6_cut 121 = .ok (.goto (-36), 3) := by decide +kernel
theorem dX6_cut_124 : decode cX6_cut 124 = .ok (.iload_n 3, 1) := by decide +kernel
theorem dX6_cut_125 : decode cX6_cut 125 = .ok (.bipush 8, 2) := by decide +kernel
theorem dX6_cut_127 : decode cX6_cut 127 = .ok (.if_icmp .le 7, 3) := by decide +kernel
theorem dX6_cut_130 : decode cX6_cut 130 = .ok (.iconst 3, 1) := by decide +kernel
theorem dX6_cut_131 : decode cX6_cut 131 = .ok (.goto 4, 3) := by decide +kernel
theorem dX6_cut_134 : decode cX6_cut 134 = .ok (.iconst 1, 1) := by decide +kernel
theorem dX6_cut_135 : decode cX6_cut 135 = .ok (.istore 6, 2) := by decide +kernel
theorem dX6_cut_137 : decode cX6_cut 137 = .ok (.iload_n 3, 1) := by decide +kernel
theorem dX6_cut_138 : decode cX6_cut 138 = .ok (.bipush 7, 2) := by decide +kernel
theorem dX6_cut_140 : decode cX6_cut 140 = .ok (.if_icmp .gt 39, 3) := by decide +kernel
theorem dX6_cut_143 : decode cX6_cut 143 = .ok (.iconst 0, 1) := by decide +kernel
theorem dX6_cut_144 : decode cX6_cut 144 = .ok (.istore 7, 2) := by decide +kernel
theorem dX6_cut_146 : decode cX6_cut 146 = .ok (.iload 7, 2) := by decide +kernel
theorem dX6_cut_148 : decode cX6_cut 148 = .ok (.bipush 17, 2) := by decide +kernel
theorem dX6_cut_150 : decode cX6_cut 150 = .ok (.if_icmp .ge 29, 3) := by decide +kernel
theorem dX6_cut_153 : decode cX6_cut 153 = .ok (.aload_n 0, 1) := by decide +kernel
theorem dX6_cut_154 : decode cX6_cut 154 = .ok (.getfield 34, 3) := by decide +kernel
theorem dX6_cut_157 : decode cX6_cut 157 = .ok (.iload 7, 2) := by decide +kernel
theorem dX6_cut_159 : decode cX6_cut 159 = .ok (.laload, 1) := by decide +kernel
theorem dX6_cut_160 : decode cX6_cut 160 = .ok (.lload 4, 2) := by decide +kernel
theorem dX6_cut_162 : decode cX6_cut 162 = .ok (.lcmp, 1) := by decide +kernel
theorem dX6_cut_163 : decode cX6_cut 163 = .ok (.ifCond .ne 10, 3) := by decide +kernel
theorem dX6_cut_166 : decode cX6_cut 166 = .ok (.bipush 20, 2) := by decide +kernel
theorem dX6_cut_168 : decode cX6_cut 168 = .ok (.iload 7, 2) := by decide +kernel
theorem dX6_cut_170 : decode cX6_cut 170 = .ok (.iadd, 1) := by decide +kernel
theorem dX6_cut_171 : decode cX6_cut 171 = .ok (.istore 6, 2) := by decide +kernel
theorem dX6_cut_173 : decode cX6_cut 173 = .ok (.iinc 7 1, 3) := by decide +kernel
theorem dX6_cut_176 : decode cX6_cut 176 = .ok (.goto (-30), 3) := by decide +kernel
theorem dX6_cut_179 : decode cX6_cut 179 = .ok (.aload_n 0, 1) := by decide +kernel
theorem dX6_cut_180 : decode cX6_cut 180 = .ok (.iload 6, 2) := by decide +kernel
theorem dX6_cut_182 : decode cX6_cut 182 = .ok (.iload_n 1, 1) := by decide +kernel
theorem dX6_cut_183 : decode cX6_cut 183 = .ok (.iconst 0, 1) := by decide +kernel
theorem dX6_cut_184 : decode cX6_cut 184 = .ok (.lload 4, 2) := by decide +kernel
theorem dX6_cut_186 : decode cX6_cut 186 = .ok (.invokevirtual 212, 3) := by decide +kernel
theorem dX6_cut_189 : decode cX6_cut 189 = .ok (.iload_n 1, 1) := by decide +kernel
theorem dX6_cut_190 : decode cX6_cut 190 = .ok (.iload_n 3, 1) := by decide +kernel
theorem dX6_cut_191 : decode cX6_cut 191 = .ok (.iadd, 1) := by decide +kernel
theorem dX6_cut_192 : decode cX6_cut 192 = .ok (.istore_n 1, 1) := by decide +kernel
theorem dX6_cut_193 : decode cX6_cut 193 = .ok (.goto 98, 3) := by decide +kernel
theorem dX6_cut_196 : decode cX6_cut 196 = .ok (.iload_n 2, 1) := by decide +kernel
theorem dX6_cut_197 : decode cX6_cut 197 = .ok (.invokestatic 220, 3) := by decide +kernel
theorem dX6_cut_200 : decode cX6_cut 200 = .ok (.ifCond .eq 75, 3) := by decide +kernel
theorem dX6_cut_203 : decode cX6_cut 203 = .ok (.iconst 0, 1) := by decide +kernel
theorem dX6_cut_204 : decode cX6_cut 204 = .ok (.istore_n 3, 1) := by decide +kernel
theorem dX6_cut_205 : decode cX6_cut 205 = .ok (.iconst 0, 1) := by decide +kernel
theorem dX6_cut_206 : decode cX6_cut 206 = .ok (.istore 4, 2) := by decide +kernel
theorem dX6_cut_208 : decode cX6_cut 208 = .ok (.aload_n 0, 1) := by decide +kernel
theorem dX6_cut_209 : decode cX6_cut 209 = .ok (.iload_n 1, 1) := by decide +kernel
theorem dX6_cut_210 : decode cX6_cut 210 = .ok (.iload_n 3, 1) := by decide +kernel
theorem dX6_cut_211 : decode cX6_cut 211 = .ok (.iadd, 1) := by decide +kernel
theorem dX6_cut_212 : decode cX6_cut 212 = .ok (.invokevirtual 208, 3) := by decide +kernel
theorem dX6_cut_215 : decode cX6_cut 215 = .ok (.invokestatic 220, 3) := by decide +kernel
theorem dX6_cut_218 : decode cX6_cut 218 = .ok (.ifCond .eq 32, 3) := by decide +kernel
theorem dX6_cut_221 : decode cX6_cut 221 = .ok (.iload_n 3, 1) := by decide +kernel
theorem dX6_cut_222 : decode cX6_cut 222 = .ok (.iconst 4, 1) := by decide +kernel
theorem dX6_cut_223 : decode cX6_cut 223 = .ok (.if_icmp .ge 21, 3) := by decide +kernel
theorem dX6_cut_226 : decode cX6_cut 226 = .ok (.bipush 10, 2) := by decide +kernel
theorem dX6_cut_228 : decode cX6_cut 228 = .ok (.iload 4, 2) := by decide +kernel
theorem dX6_cut_230 : decode cX6_cut 230 = .ok (.imul, 1) := by decide +kernel
theorem dX6_cut_231 : decode cX6_cut 231 = .ok (.aload_n 0, 1) := by decide +kernel
theorem dX6_cut_232 : decode cX6_cut 232 = .ok (.iload_n 1, 1) := by decide +kernel
theorem dX6_cut_233 : decode cX6_cut 233 = .ok (.iload_n 3, 1) := by decide +kernel
theorem dX6_cut_234 : decode cX6_cut 234 = .ok (.iadd, 1) := by decide +kernel
theorem dX6_cut_235 : decode cX6_cut 235 = .ok (.invokevirtual 208, 3) := by decide +kernel
theorem dX6_cut_238 : decode cX6_cut 238 = .ok (.iadd, 1) := by decide +kernel
theorem dX6_cut_239 : decode cX6_cut 239 = .ok (.bipush 48, 2) := by decide +kernel
theorem dX6_cut_241 : decode cX6_cut 241 = .ok (.isub, 1) := by decide +kernel
theorem dX6_cut_242 : decode cX6_cut 242 = .ok (.istore 4, 2) := by decide +kernel
theorem dX6_cut_244 : decode cX6_cut 244 = .ok (.iinc 3 1, 3) := by decide +kernel
theorem dX6_cut_247 : decode cX6_cut 247 = .ok (.goto (-39), 3) := by decide +kernel
theorem dX6_cut_250 : decode cX6_cut 250 = .ok (.aload_n 0, 1) := by decide +kernel
theorem dX6_cut_251 : decode cX6_cut 251 = .ok (.iload_n 3, 1) := by decide +kernel
theorem dX6_cut_252 : decode cX6_cut 252 = .ok (.iconst 4, 1) := by decide +kernel
theorem dX6_cut_253 : decode cX6_cut 253 = .ok (.if_icmp .le 7, 3) := by decide +kernel
theorem dX6_cut_256 : decode cX6_cut 256 = .ok (.iconst 3, 1) := by decide +kernel
theorem dX6_cut_257 : decode cX6_cut 257 = .ok (.goto 4, 3) := by decide +kernel
theorem dX6_cut_260 : decode cX6_cut 260 = .ok (.iconst 2, 1) := by decide +kernel
theorem dX6_cut_261 : decode cX6_cut 261 = .ok (.iload_n 1, 1) := by decide +kernel
theorem dX6_cut_262 : decode cX6_cut 262 = .ok (.iload 4, 2) := by decide +kernel
theorem dX6_cut_264 : decode cX6_cut 264 = .ok (.lconst 0, 1) := by decide +kernel
theorem dX6_cut_265 : decode cX6_cut 265 = .ok (.invokevirtual 212, 3) := by decide +kernel
theorem dX6_cut_268 : decode cX6_cut 268 = .ok (.iload_n 1, 1) := by decide +kernel
theorem dX6_cut_269 : decode cX6_cut 269 = .ok (.iload_n 3, 1) := by decide +kernel
theorem dX6_cut_270 : decode cX6_cut 270 = .ok (.iadd, 1) := by decide +kernel
theorem dX6_cut_271 : decode cX6_cut 271 = .ok (.istore_n 1, 1) := by decide +kernel
theorem dX6_cut_272 : decode cX6_cut 272 = .ok (.goto 19, 3) := by decide +kernel
theorem dX6_cut_275 : decode cX6_cut 275 = .ok (.iload_n 1, 1) := by decide +kernel
theorem dX6_cut_276 : decode cX6_cut 276 = .ok (.aload_n 0, 1) := by decide +kernel
theorem dX6_cut_277 : decode cX6_cut 277 = .ok (.iload_n 1, 1) := by decide +kernel
theorem dX6_cut_278 : decode cX6_cut 278 = .ok (.iload_n 2, 1) := by decide +kernel
theorem dX6_cut_279 : decode cX6_cut 279 = .ok (.aload_n 0, 1) := by decide +kernel
theorem dX6_cut_280 : decode cX6_cut 280 = .ok (.iload_n 1, 1) := by decide +kernel
theorem dX6_cut_281 : decode cX6_cut 281 = .ok (.iconst 1, 1) := by decide +kernel
theorem dX6_cut_282 : decode cX6_cut 282 = .ok (.iadd, 1) := by decide +kernel
theorem dX6_cut_283 : decode cX6_cut 283 = .ok (.invokevirtual 208, 3) := by decide +kernel
theorem dX6_cut_286 : decode cX6_cut 286 = .ok (.invokevirtual 223, 3) := by decide +kernel
theorem dX6_cut_289 : decode cX6_cut 289 = .ok (.iadd, 1) := by decide +kernel
theorem dX6_cut_290 : decode cX6_cut 290 = .ok (.istore_n 1, 1) := by decide +kernel
theorem dX6_cut_291 : decode cX6_cut 291 = .ok (.goto (-284), 3) := by decide +kernel
theorem dX6_cut_294 : decode cX6_cut 294 = .ok (.return_, 1) := by decide +kernel
abbrev rm_X6_cut : Room := { frames := 2, cells := 0, slots := 0, locals := 49 }
def f_X6_cut_L208 (S : St) (x1 : Int32) (z208 : Int32 × Int32) : Option ((Int32 × Int32) ⊕ (Int32 × Int32)) :=
  (f_X6_byteAt  S (x1 + z208.1)).bind (fun (q15 : Int32) => (f_X6_isDigit   q15).bind (fun (q16 : Int32) => if q16 = 0 then (some (.inr (z208.1, z208.2))) else (if (4 : Int32) ≤ z208.1 then (some (.inl ((z208.1 + 1), z208.2))) else ((f_X6_byteAt  S (x1 + z208.1)).bind (fun (q19 : Int32) => lt_v ((((10 : Int32) * z208.2) + q19) - (48 : Int32)) (fun (u20 : Int32) => some (.inl ((z208.1 + 1), u20))))))))
def f_X6_cut_J261 (S : St) (x1 : Int32) (x3 : Int32) (x4 : Int32) (y0 : Int32) : Option ((Int32 × St) ⊕ ((St) ⊕ (St))) :=
  (f_X6_token  S y0 x1 x4 (0 : Int64)).bind (fun (q24 : St) => some (.inl ((x1 + x3), q24)))
def f_X6_cut_L85 (S : St) (x1 : Int32) (z85 : Int32 × Int64) : Option ((Int32 × Int64) ⊕ (Int32 × Int64)) :=
  (f_X6_byteAt  S (x1 + z85.1)).bind (fun (q26 : Int32) => (f_X6_isLetter   q26).bind (fun (q27 : Int32) => if q27 = 0 then (some (.inr (z85.1, z85.2))) else (if (8 : Int32) ≤ z85.1 then (some (.inl ((z85.1 + 1), z85.2))) else ((f_X6_byteAt  S (x1 + z85.1)).bind (fun (q30 : Int32) => (f_X6_appends   z85.2 q30).bind (fun (q31 : Int64) => some (.inl ((z85.1 + 1), q31))))))))
def f_X6_cut_J179 (S : St) (x1 : Int32) (x3 : Int32) (x4 : Int64) (x6 : Int32) : Option ((Int32 × St) ⊕ ((St) ⊕ (St))) :=
  (f_X6_token  S x6 x1 (0 : Int32) x4).bind (fun (q36 : St) => some (.inl ((x1 + x3), q36)))
def f_X6_cut_L146 (S : St) (x1 : Int32) (x3 : Int32) (x4 : Int64) (z146 : Int32 × Int32) : Option ((Int32 × Int32) ⊕ (Int32)) :=
  if (17 : Int32) ≤ z146.2 then (some (.inr z146.1)) else (chk (ib z146.2 17) (if (lg_cmp (st_L S (ky 0 9) z146.2.toNatClampNeg) x4) = 0 then (some (.inl (((20 : Int32) + z146.2), (z146.2 + 1)))) else (some (.inl (z146.1, (z146.2 + 1))))))
def f_X6_cut_J135 (S : St) (x1 : Int32) (x3 : Int32) (x4 : Int64) (y0 : Int32) : Option ((Int32 × St) ⊕ ((St) ⊕ (St))) :=
  if (7 : Int32) < x3 then (f_X6_cut_J179  S x1 x3 x4 y0) else ((iter (f_X6_cut_L146  S x1 x3 x4) FU (y0, (0 : Int32))).bind (fun (e39 : Int32) => f_X6_cut_J179  S x1 x3 x4 e39))
def f_X6_cut_L7  (z7 : Int32 × St) : Option ((Int32 × St) ⊕ ((St) ⊕ (St))) :=
  if (400 : Int32) < (st_I z7.2 (ky 0 10)) then (some (.inr (.inr z7.2))) else ((f_X6_byteAt  z7.2 z7.1).bind (fun (q3 : Int32) => if z7.1 < (st_I z7.2 (ky 0 4)) then (if q3 = (9 : Int32) then (some (.inl ((z7.1 + 1), z7.2))) else (if q3 = (10 : Int32) then (some (.inl ((z7.1 + 1), z7.2))) else (if q3 = (13 : Int32) then (some (.inl ((z7.1 + 1), z7.2))) else (if q3 = (32 : Int32) then (some (.inl ((z7.1 + 1), z7.2))) else ((f_X6_isLetter   q3).bind (fun (q9 : Int32) => if q9 = 0 then ((f_X6_isDigit   q3).bind (fun (q11 : Int32) => if q11 = 0 then ((f_X6_byteAt  z7.2 (z7.1 + (1 : Int32))).bind (fun (q13 : Int32) => (f_X6_sign  z7.2 z7.1 q3 q13).bind (fun (q14 : Int32 × St) => some (.inl ((z7.1 + q14.1), q14.2))))) else ((iter (f_X6_cut_L208  z7.2 z7.1) FU ((0 : Int32), (0 : Int32))).bind (fun (u25 : Int32 × Int32) => (fun (e21 : Int32) (e22 : Int32) => if e21 ≤ (4 : Int32) then (f_X6_cut_J261  z7.2 z7.1 e21 e22 (2 : Int32)) else (f_X6_cut_J261  z7.2 z7.1 e21 e22 (3 : Int32))) u25.1 u25.2)))) else ((iter (f_X6_cut_L85  z7.2 z7.1) FU ((0 : Int32), (0 : Int64))).bind (fun (u41 : Int32 × Int64) => (fun (e32 : Int32) (e33 : Int64) => if e32 ≤ (8 : Int32) then (f_X6_cut_J135  z7.2 z7.1 e32 e33 (1 : Int32)) else (f_X6_cut_J135  z7.2 z7.1 e32 e33 (3 : Int32))) u41.1 u41.2)))))))) else (some (.inr (.inl z7.2)))))
def f_X6_cut (S : St)  : Option (St) :=
  lt_v (up_I S (ky 0 10) (0 : Int32)) (fun (S1 : St) => (iter (f_X6_cut_L7   ) FU ((0 : Int32), S1)).bind fun z => match z with | .inl z => (fun (S42 : St) => (f_X6_token  S42 (0 : Int32) (st_I S42 (ky 0 4)) (0 : Int32) (0 : Int64)).bind (fun (q43 : St) => some q43)) z | .inr v45 => some v45)
set_option maxRecDepth 100000 in
set_option maxHeartbeats 4000000 in
theorem k_X6_cut (l : Launch) (g : GG) (hg : gd wd_M g)  (hM : hs wd_M g 0 6) (S : St)  (q : St) (hf : f_X6_cut  S  = some q) : Met l yX6_cut (Cond.code yX6_cut cX6_cut 8 none :: gw_tbl) rm_X6_cut (va_Pc [.ref (gg_o g 0)] (wI wd_M g S)) (qc_v wd_M g q) 0 0 (aw g) := by
  refine mt_start (own := RX6) hg (by decide) rfl (Nat.le_of_ble_eq_true rfl) (fun p e s m args below meth c ls H locs cx hw hr hlk hl => ?_)
  have hx := cx.1
  have hb := cx.2.1
  have hown := cx.2.2.2.1
  have hts := cx.2.2.2.2.1
  have hl : lv_has ls 8 [(0, .ref (gg_o g 0))] := hl
  replace hf := h_top hf
  unfold f_X6_cut at hf
  refine lv_aload_n hx hb dX6_cut_0 rfl (lv_at hl 0 rfl) ?_
  refine lv_iconst (v := 0) hx hb dX6_cut_1 (by decide) ?_
  refine pf_X6_205 cx hw hM hf dX6_cut_2 (fun S1 H locs hw hf => ?_)
  refine lv_iconst (v := 0) hx hb dX6_cut_5 (by decide) ?_
  refine lv_istore_n hx hb dX6_cut_6 rfl hl (by decide) (lv' := [(1, .int (0 : Int32)), (0, .ref (gg_o g 0))]) rfl (fun ls hl => ?_)
  have L7 : ∀  (aft7 : ((St) ⊕ (St)) → Option (St)), (∀ (ls : Array Slot) (H : Heap) (locs : List Loc) (S1 : St), lv_has ls 8 [(0, .ref (gg_o g 0))] → HH wd_M g s S1 H locs → aft7 (.inl S1) = some q → W p l e rm_X6_cut s m args below meth c H locs 0 0 (MQ below (qc_v wd_M g q) args s 0 0 (aw g)) (F0 m 31 ls [])) → (∀ v : St, aft7 (.inr v) = some q → (some v : Option (St)).bind some = some q) → ∀ (n7 : Nat) (ls : Array Slot) (H : Heap) (locs : List Loc) (z7 : Int32 × St), lv_has ls 8 [(0, .ref (gg_o g 0)), (1, .int z7.1)] → HH wd_M g s z7.2 H locs → (iter (f_X6_cut_L7   ) n7 z7).bind aft7 = some q → W p l e rm_X6_cut s m args below meth c H locs 0 0 (MQ below (qc_v wd_M g q) args s 0 0 (aw g)) (F0 m 7 ls []) := by
    intro aft7 hX7 hR7 n7
    induction n7 with
    | zero => intro ls H locs z7 hl hw hf; exact h_iter0 hf
    | succ n7 ih7 =>
      intro ls H locs z7 hl hw hf
      replace hf := h_iter hf
      unfold f_X6_cut_L7 at hf
      have J261 : ∀ (ls : Array Slot) (H : Heap) (locs : List Loc) (S : St) (x1 : Int32) (x3 : Int32) (x4 : Int32) (y0 : Int32), lv_has ls 8 [(0, .ref (gg_o g 0)), (1, .int x1), (3, .int x3), (4, .int x4)] → HH wd_M g s S H locs → (f_X6_cut_J261  S x1 x3 x4 y0).bind (it_K (f_X6_cut_L7   ) n7 aft7) = some q → W p l e rm_X6_cut s m args below meth c H locs 0 0 (MQ below (qc_v wd_M g q) args s 0 0 (aw g)) (F0 m 261 ls [.int y0, .ref (gg_o g 0)]) := by
        intro ls H locs S x1 x3 x4 y0 hl hw hf
        unfold f_X6_cut_J261 at hf
        refine lv_iload_n hx hb dX6_cut_261 rfl (lv_at hl 1 rfl) ?_
        refine lv_iload hx hb dX6_cut_262 (lv_at hl 3 rfl) ?_
        refine lv_lconst (v := 0) hx hb dX6_cut_264 (by decide) ?_
        refine r_V_v (As := [.int y0, .int x1, .int x4, .long (0 : Int64)]) (rest := []) cx hw hf hM.2.1 (by rw [hM.1]; rfl) lk_X6_212 (fun q24 hq => k_X6_token l g hg  hM S y0 x1 x4 (0 : Int64) q24 hq) ⟨⟨rfl, rfl⟩, Nat.le_of_ble_eq_true rfl, Nat.le_of_ble_eq_true rfl⟩ rfl hl.1 rfl (Nat.le_of_ble_eq_true rfl) dX6_cut_265 ⟨Nat.zero_le _, Nat.zero_le _⟩ (fun q24 H locs hw hf => ?_)
        refine lv_iload_n hx hb dX6_cut_268 rfl (lv_at hl 1 rfl) ?_
        refine lv_iload_n hx hb dX6_cut_269 rfl (lv_at hl 2 rfl) ?_
        refine lv_iadd hx hb dX6_cut_270 ?_
        refine lv_istore_n hx hb dX6_cut_271 rfl hl (by decide) (lv' := [(1, .int (x1 + x3)), (0, .ref (gg_o g 0)), (3, .int x3), (4, .int x4)]) rfl (fun ls hl => ?_)
        refine lv_goto hx hb dX6_cut_272 (tgt := 291) rfl ?_
        refine lv_goto hx hb dX6_cut_291 (tgt := 7) rfl ?_
        exact ih7 _ _ _ ((x1 + x3), q24) (lv_sub hl [1, 0] rfl) hw hf
      have J179 : ∀ (ls : Array Slot) (H : Heap) (locs : List Loc) (S : St) (x1 : Int32) (x3 : Int32) (x4 : Int64) (x6 : Int32), lv_has ls 8 [(0, .ref (gg_o g 0)), (1, .int x1), (3, .int x3), (4, .long x4), (6, .int x6)] → HH wd_M g s S H locs → (f_X6_cut_J179  S x1 x3 x4 x6).bind (it_K (f_X6_cut_L7   ) n7 aft7) = some q → W p l e rm_X6_cut s m args below meth c H locs 0 0 (MQ below (qc_v wd_M g q) args s 0 0 (aw g)) (F0 m 179 ls []) := by
        intro ls H locs S x1 x3 x4 x6 hl hw hf
        unfold f_X6_cut_J179 at hf
        refine lv_aload_n hx hb dX6_cut_179 rfl (lv_at hl 0 rfl) ?_
        refine lv_iload hx hb dX6_cut_180 (lv_at hl 4 rfl) ?_
        refine lv_iload_n hx hb dX6_cut_182 rfl (lv_at hl 1 rfl) ?_
        refine lv_iconst (v := 0) hx hb dX6_cut_183 (by decide) ?_
        refine lv_lload hx hb dX6_cut_184 (lv_at hl 3 rfl) ?_
        refine r_V_v (As := [.int x6, .int x1, .int (0 : Int32), .long x4]) (rest := []) cx hw hf hM.2.1 (by rw [hM.1]; rfl) lk_X6_212 (fun q36 hq => k_X6_token l g hg  hM S x6 x1 (0 : Int32) x4 q36 hq) ⟨⟨rfl, rfl⟩, Nat.le_of_ble_eq_true rfl, Nat.le_of_ble_eq_true rfl⟩ rfl hl.1 rfl (Nat.le_of_ble_eq_true rfl) dX6_cut_186 ⟨Nat.zero_le _, Nat.zero_le _⟩ (fun q36 H locs hw hf => ?_)
        refine lv_iload_n hx hb dX6_cut_189 rfl (lv_at hl 1 rfl) ?_
        refine lv_iload_n hx hb dX6_cut_190 rfl (lv_at hl 2 rfl) ?_
        refine lv_iadd hx hb dX6_cut_191 ?_
        refine lv_istore_n hx hb dX6_cut_192 rfl hl (by decide) (lv' := [(1, .int (x1 + x3)), (0, .ref (gg_o g 0)), (3, .int x3), (4, .long x4), (6, .int x6)]) rfl (fun ls hl => ?_)
        refine lv_goto hx hb dX6_cut_193 (tgt := 291) rfl ?_
        refine lv_goto hx hb dX6_cut_291 (tgt := 7) rfl ?_
        exact ih7 _ _ _ ((x1 + x3), q36) (lv_sub hl [1, 0] rfl) hw hf
      have J135 : ∀ (ls : Array Slot) (H : Heap) (locs : List Loc) (S : St) (x1 : Int32) (x3 : Int32) (x4 : Int64) (y0 : Int32), lv_has ls 8 [(0, .ref (gg_o g 0)), (1, .int x1), (3, .int x3), (4, .long x4)] → HH wd_M g s S H locs → (f_X6_cut_J135  S x1 x3 x4 y0).bind (it_K (f_X6_cut_L7   ) n7 aft7) = some q → W p l e rm_X6_cut s m args below meth c H locs 0 0 (MQ below (qc_v wd_M g q) args s 0 0 (aw g)) (F0 m 135 ls [.int y0]) := by
        intro ls H locs S x1 x3 x4 y0 hl hw hf
        unfold f_X6_cut_J135 at hf
        refine lv_istore hx hb dX6_cut_135 hl (by decide) (lv' := [(6, .int y0), (0, .ref (gg_o g 0)), (1, .int x1), (3, .int x3), (4, .long x4)]) rfl (fun ls hl => ?_)
        refine lv_iload_n hx hb dX6_cut_137 rfl (lv_at hl 3 rfl) ?_
        refine lv_bipush (v := 7) hx hb dX6_cut_138 (by decide) ?_
        refine lv_icmp_gt hx hb dX6_cut_140 (tgt := 179) rfl (fun hc35 => ?_) (fun hc35 => ?_)
        · replace hf := h_pos hc35 hf
          exact J179 _ _ _ S x1 x3 x4 y0 (lv_sub hl [1, 2, 3, 4, 0] rfl) hw hf
        replace hf := h_neg hc35 hf
        refine lv_iconst (v := 0) hx hb dX6_cut_143 (by decide) ?_
        refine lv_istore hx hb dX6_cut_144 hl (by decide) (lv' := [(7, .int (0 : Int32)), (6, .int y0), (0, .ref (gg_o g 0)), (1, .int x1), (3, .int x3), (4, .long x4)]) rfl (fun ls hl => ?_)
        have L146 : ∀ (S : St) (x1 : Int32) (x3 : Int32) (x4 : Int64) (aft146 : Int32 → Option (St)), (∀ (ls : Array Slot) (H : Heap) (locs : List Loc) (e6 : Int32), lv_has ls 8 [(0, .ref (gg_o g 0)), (1, .int x1), (3, .int x3), (4, .long x4), (6, .int e6)] → HH wd_M g s S H locs → aft146 e6 = some q → W p l e rm_X6_cut s m args below meth c H locs 0 0 (MQ below (qc_v wd_M g q) args s 0 0 (aw g)) (F0 m 179 ls [])) → ∀ (n146 : Nat) (ls : Array Slot) (H : Heap) (locs : List Loc) (z146 : Int32 × Int32), lv_has ls 8 [(0, .ref (gg_o g 0)), (1, .int x1), (3, .int x3), (4, .long x4), (6, .int z146.1), (7, .int z146.2)] → HH wd_M g s S H locs → (iter (f_X6_cut_L146  S x1 x3 x4) n146 z146).bind aft146 = some q → W p l e rm_X6_cut s m args below meth c H locs 0 0 (MQ below (qc_v wd_M g q) args s 0 0 (aw g)) (F0 m 146 ls []) := by
          intro S x1 x3 x4 aft146 hX146 n146
          induction n146 with
          | zero => intro ls H locs z146 hl hw hf; exact h_iter0 hf
          | succ n146 ih146 =>
            intro ls H locs z146 hl hw hf
            replace hf := h_iter hf
            unfold f_X6_cut_L146 at hf
            refine lv_iload hx hb dX6_cut_146 (lv_at hl 5 rfl) ?_
            refine lv_bipush (v := 17) hx hb dX6_cut_148 (by decide) ?_
            refine lv_icmp_ge hx hb dX6_cut_150 (tgt := 179) rfl (fun hc37 => ?_) (fun hc37 => ?_)
            · replace hf := h_pos hc37 hf
              exact hX146 _ _ _ z146.1 (lv_sub hl [0, 1, 2, 3, 4] rfl) hw hf
            replace hf := h_neg hc37 hf
            refine lv_aload_n hx hb dX6_cut_153 rfl (lv_at hl 0 rfl) ?_
            refine gf_X6_34 cx hw hM dX6_cut_154 ?_
            refine lv_iload hx hb dX6_cut_157 (lv_at hl 5 rfl) ?_
            refine r_lald cx hw (hM.2.2.2.1 9 rfl) rfl hf dX6_cut_159 (fun hf => ?_)
            refine lv_lload hx hb dX6_cut_160 (lv_at hl 3 rfl) ?_
            refine W.lcmp hx hb dX6_cut_162 ?_
            refine lv_if_ne hx hb dX6_cut_163 (tgt := 173) rfl (fun hc38 => ?_) (fun hc38 => ?_)
            · replace hf := h_neg hc38 hf
              refine lv_iinc hx hb dX6_cut_173 hl (k := 5) rfl (congrArg (HAdd.hAdd _) (show Int32.ofInt (1) = 1 by decide)) (by decide) (lv' := [(7, .int (z146.2 + 1)), (0, .ref (gg_o g 0)), (1, .int x1), (3, .int x3), (4, .long x4), (6, .int z146.1)]) rfl (fun ls hl => ?_)
              refine lv_goto hx hb dX6_cut_176 (tgt := 146) rfl ?_
              exact ih146 _ _ _ (z146.1, (z146.2 + 1)) (lv_sub hl [1, 2, 3, 4, 5, 0] rfl) hw hf
            replace hf := h_pos hc38 hf
            refine lv_bipush (v := 20) hx hb dX6_cut_166 (by decide) ?_
            refine lv_iload hx hb dX6_cut_168 (lv_at hl 5 rfl) ?_
            refine lv_iadd hx hb dX6_cut_170 ?_
            refine lv_istore hx hb dX6_cut_171 hl (by decide) (lv' := [(6, .int ((20 : Int32) + z146.2)), (0, .ref (gg_o g 0)), (1, .int x1), (3, .int x3), (4, .long x4), (7, .int z146.2)]) rfl (fun ls hl => ?_)
            refine lv_iinc hx hb dX6_cut_173 hl (k := 5) rfl (congrArg (HAdd.hAdd _) (show Int32.ofInt (1) = 1 by decide)) (by decide) (lv' := [(7, .int (z146.2 + 1)), (6, .int ((20 : Int32) + z146.2)), (0, .ref (gg_o g 0)), (1, .int x1), (3, .int x3), (4, .long x4)]) rfl (fun ls hl => ?_)
            refine lv_goto hx hb dX6_cut_176 (tgt := 146) rfl ?_
            exact ih146 _ _ _ (((20 : Int32) + z146.2), (z146.2 + 1)) (lv_sub hl [2, 3, 4, 5, 1, 0] rfl) hw hf
        refine L146 S x1 x3 x4 _ (fun ls H locs e39 hl hw hf => ?_) FU _ _ _ (y0, (0 : Int32)) (lv_sub hl [2, 3, 4, 5, 1, 0] rfl) hw (h_assoc hf)
        try dsimp only at hf
        exact J179 _ _ _ S x1 x3 x4 e39 (lv_sub hl [0, 1, 2, 3, 4] rfl) hw hf
      refine lv_aload_n hx hb dX6_cut_7 rfl (lv_at hl 0 rfl) ?_
      refine gf_X6_205 cx hw hM dX6_cut_8 ?_
      refine lv_sipush (v := 400) hx hb dX6_cut_11 (by decide) ?_
      refine lv_icmp_gt hx hb dX6_cut_14 (tgt := 294) rfl (fun hc2 => ?_) (fun hc2 => ?_)
      · replace hf := h_pos hc2 hf
        replace hf := hR7 z7.2 hf
        exact r_vret cx hw hr hlk hf dX6_cut_294
      replace hf := h_neg hc2 hf
      refine lv_aload_n hx hb dX6_cut_17 rfl (lv_at hl 0 rfl) ?_
      refine lv_iload_n hx hb dX6_cut_18 rfl (lv_at hl 1 rfl) ?_
      refine r_V_i (As := [.int z7.1]) (rest := []) cx hw hf hM.2.1 (by rw [hM.1]; rfl) lk_X6_208 (fun q3 hq => k_X6_byteAt l g hg  hM z7.2 z7.1 q3 hq) ⟨⟨rfl, rfl⟩, Nat.le_of_ble_eq_true rfl, Nat.le_of_ble_eq_true rfl⟩ rfl hl.1 rfl (Nat.le_of_ble_eq_true rfl) dX6_cut_19 ⟨Nat.zero_le _, Nat.zero_le _⟩ (fun q3 H locs hw hf => ?_)
      refine lv_istore_n hx hb dX6_cut_22 rfl hl (by decide) (lv' := [(2, .int q3), (0, .ref (gg_o g 0)), (1, .int z7.1)]) rfl (fun ls hl => ?_)
      refine lv_iload_n hx hb dX6_cut_23 rfl (lv_at hl 2 rfl) ?_
      refine lv_aload_n hx hb dX6_cut_24 rfl (lv_at hl 1 rfl) ?_
      refine gf_X6_196 cx hw hM dX6_cut_25 ?_
      refine lv_icmp_lt hx hb dX6_cut_28 (tgt := 43) rfl (fun hc4 => ?_) (fun hc4 => ?_)
      · replace hf := h_pos hc4 hf
        refine lv_iload_n hx hb dX6_cut_43 rfl (lv_at hl 0 rfl) ?_
        refine lv_bipush (v := 9) hx hb dX6_cut_44 (by decide) ?_
        refine lv_icmp_eq hx hb dX6_cut_46 (tgt := 67) rfl (fun hc5 => ?_) (fun hc5 => ?_)
        · replace hf := h_pos hc5 hf
          refine lv_iinc hx hb dX6_cut_67 hl (k := 2) rfl (congrArg (HAdd.hAdd _) (show Int32.ofInt (1) = 1 by decide)) (by decide) (lv' := [(1, .int (z7.1 + 1)), (2, .int q3), (0, .ref (gg_o g 0))]) rfl (fun ls hl => ?_)
          refine lv_goto hx hb dX6_cut_70 (tgt := 291) rfl ?_
          refine lv_goto hx hb dX6_cut_291 (tgt := 7) rfl ?_
          exact ih7 _ _ _ ((z7.1 + 1), z7.2) (lv_sub hl [2, 0] rfl) hw hf
        replace hf := h_neg hc5 hf
        refine lv_iload_n hx hb dX6_cut_49 rfl (lv_at hl 0 rfl) ?_
        refine lv_bipush (v := 10) hx hb dX6_cut_50 (by decide) ?_
        refine lv_icmp_eq hx hb dX6_cut_52 (tgt := 67) rfl (fun hc6 => ?_) (fun hc6 => ?_)
        · replace hf := h_pos hc6 hf
          refine lv_iinc hx hb dX6_cut_67 hl (k := 2) rfl (congrArg (HAdd.hAdd _) (show Int32.ofInt (1) = 1 by decide)) (by decide) (lv' := [(1, .int (z7.1 + 1)), (2, .int q3), (0, .ref (gg_o g 0))]) rfl (fun ls hl => ?_)
          refine lv_goto hx hb dX6_cut_70 (tgt := 291) rfl ?_
          refine lv_goto hx hb dX6_cut_291 (tgt := 7) rfl ?_
          exact ih7 _ _ _ ((z7.1 + 1), z7.2) (lv_sub hl [2, 0] rfl) hw hf
        replace hf := h_neg hc6 hf
        refine lv_iload_n hx hb dX6_cut_55 rfl (lv_at hl 0 rfl) ?_
        refine lv_bipush (v := 13) hx hb dX6_cut_56 (by decide) ?_
        refine lv_icmp_eq hx hb dX6_cut_58 (tgt := 67) rfl (fun hc7 => ?_) (fun hc7 => ?_)
        · replace hf := h_pos hc7 hf
          refine lv_iinc hx hb dX6_cut_67 hl (k := 2) rfl (congrArg (HAdd.hAdd _) (show Int32.ofInt (1) = 1 by decide)) (by decide) (lv' := [(1, .int (z7.1 + 1)), (2, .int q3), (0, .ref (gg_o g 0))]) rfl (fun ls hl => ?_)
          refine lv_goto hx hb dX6_cut_70 (tgt := 291) rfl ?_
          refine lv_goto hx hb dX6_cut_291 (tgt := 7) rfl ?_
          exact ih7 _ _ _ ((z7.1 + 1), z7.2) (lv_sub hl [2, 0] rfl) hw hf
        replace hf := h_neg hc7 hf
        refine lv_iload_n hx hb dX6_cut_61 rfl (lv_at hl 0 rfl) ?_
        refine lv_bipush (v := 32) hx hb dX6_cut_62 (by decide) ?_
        refine lv_icmp_ne hx hb dX6_cut_64 (tgt := 73) rfl (fun hc8 => ?_) (fun hc8 => ?_)
        · replace hf := h_neg hc8 hf
          refine lv_iload_n hx hb dX6_cut_73 rfl (lv_at hl 0 rfl) ?_
          refine r_S_i (As := [.int q3]) (rest := []) cx hw hf lk_X6_216 (fun q9 hq => k_X6_isLetter l g hg   z7.2 q3 q9 hq) ⟨⟨rfl, rfl⟩, Nat.le_of_ble_eq_true rfl, Nat.le_of_ble_eq_true rfl⟩ rfl hl.1 rfl (Nat.le_of_ble_eq_true rfl) dX6_cut_74 ⟨Nat.zero_le _, Nat.zero_le _⟩ (fun q9 H locs hw hf => ?_)
          refine lv_if_eq hx hb dX6_cut_77 (tgt := 196) rfl (fun hc10 => ?_) (fun hc10 => ?_)
          · replace hf := h_pos hc10 hf
            refine lv_iload_n hx hb dX6_cut_196 rfl (lv_at hl 0 rfl) ?_
            refine r_S_i (As := [.int q3]) (rest := []) cx hw hf lk_X6_220 (fun q11 hq => k_X6_isDigit l g hg   z7.2 q3 q11 hq) ⟨⟨rfl, rfl⟩, Nat.le_of_ble_eq_true rfl, Nat.le_of_ble_eq_true rfl⟩ rfl hl.1 rfl (Nat.le_of_ble_eq_true rfl) dX6_cut_197 ⟨Nat.zero_le _, Nat.zero_le _⟩ (fun q11 H locs hw hf => ?_)
            refine lv_if_eq hx hb dX6_cut_200 (tgt := 275) rfl (fun hc12 => ?_) (fun hc12 => ?_)
            · replace hf := h_pos hc12 hf
              refine lv_iload_n hx hb dX6_cut_275 rfl (lv_at hl 2 rfl) ?_
              refine lv_aload_n hx hb dX6_cut_276 rfl (lv_at hl 1 rfl) ?_
              refine lv_iload_n hx hb dX6_cut_277 rfl (lv_at hl 2 rfl) ?_
              refine lv_iload_n hx hb dX6_cut_278 rfl (lv_at hl 0 rfl) ?_
              refine lv_aload_n hx hb dX6_cut_279 rfl (lv_at hl 1 rfl) ?_
              refine lv_iload_n hx hb dX6_cut_280 rfl (lv_at hl 2 rfl) ?_
              refine lv_iconst (v := 1) hx hb dX6_cut_281 (by decide) ?_
              refine lv_iadd hx hb dX6_cut_282 ?_
              refine r_V_i (As := [.int (z7.1 + (1 : Int32))]) (rest := [.int q3, .int z7.1, .ref (gg_o g 0), .int z7.1]) cx hw hf hM.2.1 (by rw [hM.1]; rfl) lk_X6_208 (fun q13 hq => k_X6_byteAt l g hg  hM z7.2 (z7.1 + (1 : Int32)) q13 hq) ⟨⟨rfl, rfl⟩, Nat.le_of_ble_eq_true rfl, Nat.le_of_ble_eq_true rfl⟩ rfl hl.1 rfl (Nat.le_of_ble_eq_true rfl) dX6_cut_283 ⟨Nat.zero_le _, Nat.zero_le _⟩ (fun q13 H locs hw hf => ?_)
              refine r_V_w (As := [.int z7.1, .int q3, .int q13]) (rest := [.int z7.1]) cx hw hf hM.2.1 (by rw [hM.1]; rfl) lk_X6_223 (fun q14 hq => k_X6_sign l g hg  hM z7.2 z7.1 q3 q13 q14 hq) ⟨⟨rfl, rfl⟩, Nat.le_of_ble_eq_true rfl, Nat.le_of_ble_eq_true rfl⟩ rfl hl.1 rfl (Nat.le_of_ble_eq_true rfl) dX6_cut_286 ⟨Nat.zero_le _, Nat.zero_le _⟩ (fun q14 H locs hw hf => ?_)
              refine lv_iadd hx hb dX6_cut_289 ?_
              refine lv_istore_n hx hb dX6_cut_290 rfl hl (by decide) (lv' := [(1, .int (z7.1 + q14.1)), (2, .int q3), (0, .ref (gg_o g 0))]) rfl (fun ls hl => ?_)
              refine lv_goto hx hb dX6_cut_291 (tgt := 7) rfl ?_
              exact ih7 _ _ _ ((z7.1 + q14.1), q14.2) (lv_sub hl [2, 0] rfl) hw hf
            replace hf := h_neg hc12 hf
            refine lv_iconst (v := 0) hx hb dX6_cut_203 (by decide) ?_
            refine lv_istore_n hx hb dX6_cut_204 rfl hl (by decide) (lv' := [(3, .int (0 : Int32)), (2, .int q3), (0, .ref (gg_o g 0)), (1, .int z7.1)]) rfl (fun ls hl => ?_)
            refine lv_iconst (v := 0) hx hb dX6_cut_205 (by decide) ?_
            refine lv_istore hx hb dX6_cut_206 hl (by decide) (lv' := [(4, .int (0 : Int32)), (3, .int (0 : Int32)), (2, .int q3), (0, .ref (gg_o g 0)), (1, .int z7.1)]) rfl (fun ls hl => ?_)
            have L208 : ∀ (S : St) (x1 : Int32) (aft208 : (Int32 × Int32) → Option (St)), (∀ (ls : Array Slot) (H : Heap) (locs : List Loc) (e3 : Int32) (e4 : Int32), lv_has ls 8 [(0, .ref (gg_o g 0)), (1, .int x1), (3, .int e3), (4, .int e4)] → HH wd_M g s S H locs → aft208 (e3, e4) = some q → W p l e rm_X6_cut s m args below meth c H locs 0 0 (MQ below (qc_v wd_M g q) args s 0 0 (aw g)) (F0 m 250 ls [])) → ∀ (n208 : Nat) (ls : Array Slot) (H : Heap) (locs : List Loc) (z208 : Int32 × Int32), lv_has ls 8 [(0, .ref (gg_o g 0)), (1, .int x1), (3, .int z208.1), (4, .int z208.2)] → HH wd_M g s S H locs → (iter (f_X6_cut_L208  S x1) n208 z208).bind aft208 = some q → W p l e rm_X6_cut s m args below meth c H locs 0 0 (MQ below (qc_v wd_M g q) args s 0 0 (aw g)) (F0 m 208 ls []) := by
              intro S x1 aft208 hX208 n208
              induction n208 with
              | zero => intro ls H locs z208 hl hw hf; exact h_iter0 hf
              | succ n208 ih208 =>
                intro ls H locs z208 hl hw hf
                replace hf := h_iter hf
                unfold f_X6_cut_L208 at hf
                refine lv_aload_n hx hb dX6_cut_208 rfl (lv_at hl 0 rfl) ?_
                refine lv_iload_n hx hb dX6_cut_209 rfl (lv_at hl 1 rfl) ?_
                refine lv_iload_n hx hb dX6_cut_210 rfl (lv_at hl 2 rfl) ?_
                refine lv_iadd hx hb dX6_cut_211 ?_
                refine r_V_i (As := [.int (x1 + z208.1)]) (rest := []) cx hw hf hM.2.1 (by rw [hM.1]; rfl) lk_X6_208 (fun q15 hq => k_X6_byteAt l g hg  hM S (x1 + z208.1) q15 hq) ⟨⟨rfl, rfl⟩, Nat.le_of_ble_eq_true rfl, Nat.le_of_ble_eq_true rfl⟩ rfl hl.1 rfl (Nat.le_of_ble_eq_true rfl) dX6_cut_212 ⟨Nat.zero_le _, Nat.zero_le _⟩ (fun q15 H locs hw hf => ?_)
                refine r_S_i (As := [.int q15]) (rest := []) cx hw hf lk_X6_220 (fun q16 hq => k_X6_isDigit l g hg   S q15 q16 hq) ⟨⟨rfl, rfl⟩, Nat.le_of_ble_eq_true rfl, Nat.le_of_ble_eq_true rfl⟩ rfl hl.1 rfl (Nat.le_of_ble_eq_true rfl) dX6_cut_215 ⟨Nat.zero_le _, Nat.zero_le _⟩ (fun q16 H locs hw hf => ?_)
                refine lv_if_eq hx hb dX6_cut_218 (tgt := 250) rfl (fun hc17 => ?_) (fun hc17 => ?_)
                · replace hf := h_pos hc17 hf
                  exact hX208 _ _ _ z208.1 z208.2 (lv_sub hl [0, 1, 2, 3] rfl) hw hf
                replace hf := h_neg hc17 hf
                refine lv_iload_n hx hb dX6_cut_221 rfl (lv_at hl 2 rfl) ?_
                refine lv_iconst (v := 4) hx hb dX6_cut_222 (by decide) ?_
                refine lv_icmp_ge hx hb dX6_cut_223 (tgt := 244) rfl (fun hc18 => ?_) (fun hc18 => ?_)
                · replace hf := h_pos hc18 hf
                  refine lv_iinc hx hb dX6_cut_244 hl (k := 2) rfl (congrArg (HAdd.hAdd _) (show Int32.ofInt (1) = 1 by decide)) (by decide) (lv' := [(3, .int (z208.1 + 1)), (0, .ref (gg_o g 0)), (1, .int x1), (4, .int z208.2)]) rfl (fun ls hl => ?_)
                  refine lv_goto hx hb dX6_cut_247 (tgt := 208) rfl ?_
                  exact ih208 _ _ _ ((z208.1 + 1), z208.2) (lv_sub hl [1, 2, 0, 3] rfl) hw hf
                replace hf := h_neg hc18 hf
                refine lv_bipush (v := 10) hx hb dX6_cut_226 (by decide) ?_
                refine lv_iload hx hb dX6_cut_228 (lv_at hl 3 rfl) ?_
                refine lv_imul hx hb dX6_cut_230 ?_
                refine lv_aload_n hx hb dX6_cut_231 rfl (lv_at hl 0 rfl) ?_
                refine lv_iload_n hx hb dX6_cut_232 rfl (lv_at hl 1 rfl) ?_
                refine lv_iload_n hx hb dX6_cut_233 rfl (lv_at hl 2 rfl) ?_
                refine lv_iadd hx hb dX6_cut_234 ?_
                refine r_V_i (As := [.int (x1 + z208.1)]) (rest := [.int ((10 : Int32) * z208.2)]) cx hw hf hM.2.1 (by rw [hM.1]; rfl) lk_X6_208 (fun q19 hq => k_X6_byteAt l g hg  hM S (x1 + z208.1) q19 hq) ⟨⟨rfl, rfl⟩, Nat.le_of_ble_eq_true rfl, Nat.le_of_ble_eq_true rfl⟩ rfl hl.1 rfl (Nat.le_of_ble_eq_true rfl) dX6_cut_235 ⟨Nat.zero_le _, Nat.zero_le _⟩ (fun q19 H locs hw hf => ?_)
                refine lv_iadd hx hb dX6_cut_238 ?_
                refine lv_bipush (v := 48) hx hb dX6_cut_239 (by decide) ?_
                refine lv_isub hx hb dX6_cut_241 ?_
                refine r_leti hf (fun u20 hf => ?_)
                refine lv_istore hx hb dX6_cut_242 hl (by decide) (lv' := [(4, .int u20), (0, .ref (gg_o g 0)), (1, .int x1), (3, .int z208.1)]) rfl (fun ls hl => ?_)
                refine lv_iinc hx hb dX6_cut_244 hl (k := 3) rfl (congrArg (HAdd.hAdd _) (show Int32.ofInt (1) = 1 by decide)) (by decide) (lv' := [(3, .int (z208.1 + 1)), (4, .int u20), (0, .ref (gg_o g 0)), (1, .int x1)]) rfl (fun ls hl => ?_)
                refine lv_goto hx hb dX6_cut_247 (tgt := 208) rfl ?_
                exact ih208 _ _ _ ((z208.1 + 1), u20) (lv_sub hl [2, 3, 0, 1] rfl) hw hf
            refine L208 z7.2 z7.1 _ (fun ls H locs e21 e22 hl hw hf => ?_) FU _ _ _ ((0 : Int32), (0 : Int32)) (lv_sub hl [3, 4, 1, 0] rfl) hw (h_assoc hf)
            try dsimp only at hf
            refine lv_aload_n hx hb dX6_cut_250 rfl (lv_at hl 0 rfl) ?_
            refine lv_iload_n hx hb dX6_cut_251 rfl (lv_at hl 2 rfl) ?_
            refine lv_iconst (v := 4) hx hb dX6_cut_252 (by decide) ?_
            refine lv_icmp_le hx hb dX6_cut_253 (tgt := 260) rfl (fun hc23 => ?_) (fun hc23 => ?_)
            · replace hf := h_pos hc23 hf
              refine lv_iconst (v := 2) hx hb dX6_cut_260 (by decide) ?_
              exact J261 _ _ _ z7.2 z7.1 e21 e22 (2 : Int32) (lv_sub hl [0, 1, 2, 3] rfl) hw hf
            replace hf := h_neg hc23 hf
            refine lv_iconst (v := 3) hx hb dX6_cut_256 (by decide) ?_
            refine lv_goto hx hb dX6_cut_257 (tgt := 261) rfl ?_
            exact J261 _ _ _ z7.2 z7.1 e21 e22 (3 : Int32) (lv_sub hl [0, 1, 2, 3] rfl) hw hf
          replace hf := h_neg hc10 hf
          refine lv_iconst (v := 0) hx hb dX6_cut_80 (by decide) ?_
          refine lv_istore_n hx hb dX6_cut_81 rfl hl (by decide) (lv' := [(3, .int (0 : Int32)), (2, .int q3), (0, .ref (gg_o g 0)), (1, .int z7.1)]) rfl (fun ls hl => ?_)
          refine lv_lconst (v := 0) hx hb dX6_cut_82 (by decide) ?_
          refine lv_lstore hx hb dX6_cut_83 hl (by decide) (lv' := [(4, .long (0 : Int64)), (3, .int (0 : Int32)), (2, .int q3), (0, .ref (gg_o g 0)), (1, .int z7.1)]) rfl (fun ls hl => ?_)
          have L85 : ∀ (S : St) (x1 : Int32) (aft85 : (Int32 × Int64) → Option (St)), (∀ (ls : Array Slot) (H : Heap) (locs : List Loc) (e3 : Int32) (e4 : Int64), lv_has ls 8 [(0, .ref (gg_o g 0)), (1, .int x1), (3, .int e3), (4, .long e4)] → HH wd_M g s S H locs → aft85 (e3, e4) = some q → W p l e rm_X6_cut s m args below meth c H locs 0 0 (MQ below (qc_v wd_M g q) args s 0 0 (aw g)) (F0 m 124 ls [])) → ∀ (n85 : Nat) (ls : Array Slot) (H : Heap) (locs : List Loc) (z85 : Int32 × Int64), lv_has ls 8 [(0, .ref (gg_o g 0)), (1, .int x1), (3, .int z85.1), (4, .long z85.2)] → HH wd_M g s S H locs → (iter (f_X6_cut_L85  S x1) n85 z85).bind aft85 = some q → W p l e rm_X6_cut s m args below meth c H locs 0 0 (MQ below (qc_v wd_M g q) args s 0 0 (aw g)) (F0 m 85 ls []) := by
            intro S x1 aft85 hX85 n85
            induction n85 with
            | zero => intro ls H locs z85 hl hw hf; exact h_iter0 hf
            | succ n85 ih85 =>
              intro ls H locs z85 hl hw hf
              replace hf := h_iter hf
              unfold f_X6_cut_L85 at hf
              refine lv_aload_n hx hb dX6_cut_85 rfl (lv_at hl 0 rfl) ?_
              refine lv_iload_n hx hb dX6_cut_86 rfl (lv_at hl 1 rfl) ?_
              refine lv_iload_n hx hb dX6_cut_87 rfl (lv_at hl 2 rfl) ?_
              refine lv_iadd hx hb dX6_cut_88 ?_
              refine r_V_i (As := [.int (x1 + z85.1)]) (rest := []) cx hw hf hM.2.1 (by rw [hM.1]; rfl) lk_X6_208 (fun q26 hq => k_X6_byteAt l g hg  hM S (x1 + z85.1) q26 hq) ⟨⟨rfl, rfl⟩, Nat.le_of_ble_eq_true rfl, Nat.le_of_ble_eq_true rfl⟩ rfl hl.1 rfl (Nat.le_of_ble_eq_true rfl) dX6_cut_89 ⟨Nat.zero_le _, Nat.zero_le _⟩ (fun q26 H locs hw hf => ?_)
              refine r_S_i (As := [.int q26]) (rest := []) cx hw hf lk_X6_216 (fun q27 hq => k_X6_isLetter l g hg   S q26 q27 hq) ⟨⟨rfl, rfl⟩, Nat.le_of_ble_eq_true rfl, Nat.le_of_ble_eq_true rfl⟩ rfl hl.1 rfl (Nat.le_of_ble_eq_true rfl) dX6_cut_92 ⟨Nat.zero_le _, Nat.zero_le _⟩ (fun q27 H locs hw hf => ?_)
              refine lv_if_eq hx hb dX6_cut_95 (tgt := 124) rfl (fun hc28 => ?_) (fun hc28 => ?_)
              · replace hf := h_pos hc28 hf
                exact hX85 _ _ _ z85.1 z85.2 (lv_sub hl [0, 1, 2, 3] rfl) hw hf
              replace hf := h_neg hc28 hf
              refine lv_iload_n hx hb dX6_cut_98 rfl (lv_at hl 2 rfl) ?_
              refine lv_bipush (v := 8) hx hb dX6_cut_99 (by decide) ?_
              refine lv_icmp_ge hx hb dX6_cut_101 (tgt := 118) rfl (fun hc29 => ?_) (fun hc29 => ?_)
              · replace hf := h_pos hc29 hf
                refine lv_iinc hx hb dX6_cut_118 hl (k := 2) rfl (congrArg (HAdd.hAdd _) (show Int32.ofInt (1) = 1 by decide)) (by decide) (lv' := [(3, .int (z85.1 + 1)), (0, .ref (gg_o g 0)), (1, .int x1), (4, .long z85.2)]) rfl (fun ls hl => ?_)
                refine lv_goto hx hb dX6_cut_121 (tgt := 85) rfl ?_
                exact ih85 _ _ _ ((z85.1 + 1), z85.2) (lv_sub hl [1, 2, 0, 3] rfl) hw hf
              replace hf := h_neg hc29 hf
              refine lv_lload hx hb dX6_cut_104 (lv_at hl 3 rfl) ?_
              refine lv_aload_n hx hb dX6_cut_106 rfl (lv_at hl 0 rfl) ?_
              refine lv_iload_n hx hb dX6_cut_107 rfl (lv_at hl 1 rfl) ?_
              refine lv_iload_n hx hb dX6_cut_108 rfl (lv_at hl 2 rfl) ?_
              refine lv_iadd hx hb dX6_cut_109 ?_
              refine r_V_i (As := [.int (x1 + z85.1)]) (rest := [.long z85.2]) cx hw hf hM.2.1 (by rw [hM.1]; rfl) lk_X6_208 (fun q30 hq => k_X6_byteAt l g hg  hM S (x1 + z85.1) q30 hq) ⟨⟨rfl, rfl⟩, Nat.le_of_ble_eq_true rfl, Nat.le_of_ble_eq_true rfl⟩ rfl hl.1 rfl (Nat.le_of_ble_eq_true rfl) dX6_cut_110 ⟨Nat.zero_le _, Nat.zero_le _⟩ (fun q30 H locs hw hf => ?_)
              refine r_S_l (As := [.long z85.2, .int q30]) (rest := []) cx hw hf lk_X6_201 (fun q31 hq => k_X6_appends l g hg   S z85.2 q30 q31 hq) ⟨⟨rfl, rfl⟩, Nat.le_of_ble_eq_true rfl, Nat.le_of_ble_eq_true rfl⟩ rfl hl.1 rfl (Nat.le_of_ble_eq_true rfl) dX6_cut_113 ⟨Nat.zero_le _, Nat.zero_le _⟩ (fun q31 H locs hw hf => ?_)
              refine lv_lstore hx hb dX6_cut_116 hl (by decide) (lv' := [(4, .long q31), (0, .ref (gg_o g 0)), (1, .int x1), (3, .int z85.1)]) rfl (fun ls hl => ?_)
              refine lv_iinc hx hb dX6_cut_118 hl (k := 3) rfl (congrArg (HAdd.hAdd _) (show Int32.ofInt (1) = 1 by decide)) (by decide) (lv' := [(3, .int (z85.1 + 1)), (4, .long q31), (0, .ref (gg_o g 0)), (1, .int x1)]) rfl (fun ls hl => ?_)
              refine lv_goto hx hb dX6_cut_121 (tgt := 85) rfl ?_
              exact ih85 _ _ _ ((z85.1 + 1), q31) (lv_sub hl [2, 3, 0, 1] rfl) hw hf
          refine L85 z7.2 z7.1 _ (fun ls H locs e32 e33 hl hw hf => ?_) FU _ _ _ ((0 : Int32), (0 : Int64)) (lv_sub hl [3, 4, 1, 0] rfl) hw (h_assoc hf)
          try dsimp only at hf
          refine lv_iload_n hx hb dX6_cut_124 rfl (lv_at hl 2 rfl) ?_
          refine lv_bipush (v := 8) hx hb dX6_cut_125 (by decide) ?_
          refine lv_icmp_le hx hb dX6_cut_127 (tgt := 134) rfl (fun hc34 => ?_) (fun hc34 => ?_)
          · replace hf := h_pos hc34 hf
            refine lv_iconst (v := 1) hx hb dX6_cut_134 (by decide) ?_
            exact J135 _ _ _ z7.2 z7.1 e32 e33 (1 : Int32) (lv_sub hl [0, 1, 2, 3] rfl) hw hf
          replace hf := h_neg hc34 hf
          refine lv_iconst (v := 3) hx hb dX6_cut_130 (by decide) ?_
          refine lv_goto hx hb dX6_cut_131 (tgt := 135) rfl ?_
          exact J135 _ _ _ z7.2 z7.1 e32 e33 (3 : Int32) (lv_sub hl [0, 1, 2, 3] rfl) hw hf
        replace hf := h_pos hc8 hf
        refine lv_iinc hx hb dX6_cut_67 hl (k := 2) rfl (congrArg (HAdd.hAdd _) (show Int32.ofInt (1) = 1 by decide)) (by decide) (lv' := [(1, .int (z7.1 + 1)), (2, .int q3), (0, .ref (gg_o g 0))]) rfl (fun ls hl => ?_)
        refine lv_goto hx hb dX6_cut_70 (tgt := 291) rfl ?_
        refine lv_goto hx hb dX6_cut_291 (tgt := 7) rfl ?_
        exact ih7 _ _ _ ((z7.1 + 1), z7.2) (lv_sub hl [2, 0] rfl) hw hf
      replace hf := h_neg hc4 hf
      exact hX7 _ _ _ z7.2 (lv_sub hl [1] rfl) hw hf
  refine L7 _ (fun ls H locs S42 hl hw hf => ?_) (fun v h => h) FU _ _ _ ((0 : Int32), S1) (lv_sub hl [1, 0] rfl) hw (h_assoc hf)
  try dsimp only at hf
  refine lv_aload_n hx hb dX6_cut_31 rfl (lv_at hl 0 rfl) ?_
  refine lv_iconst (v := 0) hx hb dX6_cut_32 (by decide) ?_
  refine lv_aload_n hx hb dX6_cut_33 rfl (lv_at hl 0 rfl) ?_
  refine gf_X6_196 cx hw hM dX6_cut_34 ?_
  refine lv_iconst (v := 0) hx hb dX6_cut_37 (by decide) ?_
  refine lv_lconst (v := 0) hx hb dX6_cut_38 (by decide) ?_
  refine r_V_v (As := [.int (0 : Int32), .int (st_I S42 (ky 0 4)), .int (0 : Int32), .long (0 : Int64)]) (rest := []) cx hw hf hM.2.1 (by rw [hM.1]; rfl) lk_X6_212 (fun q43 hq => k_X6_token l g hg  hM S42 (0 : Int32) (st_I S42 (ky 0 4)) (0 : Int32) (0 : Int64) q43 hq) ⟨⟨rfl, rfl⟩, Nat.le_of_ble_eq_true rfl, Nat.le_of_ble_eq_true rfl⟩ rfl hl.1 rfl (Nat.le_of_ble_eq_true rfl) dX6_cut_39 ⟨Nat.zero_le _, Nat.zero_le _⟩ (fun q43 H locs hw hf => ?_)
  exact r_vret cx hw hr hlk hf dX6_cut_42
theorem dX6_is_0 : decode cX6_is 0 = .ok (.aload_n 0, 1) := by decide +kernel
theorem dX6_is_1 : decode cX6_is 1 = .ok (.getfield 227, 3) := by decide +kernel
theorem dX6_is_4 : decode cX6_is 4 = .ok (.ifCond .ne 20, 3) := by decide +kernel
theorem dX6_is_7 : decode cX6_is 7 = .ok (.aload_n 0, 1) := by decide +kernel
theorem dX6_is_8 : decode cX6_is 8 = .ok (.getfield 20, 3) := by decide +kernel
theorem dX6_is_11 : decode cX6_is 11 = .ok (.aload_n 0, 1) := by decide +kernel
theorem dX6_is_12 : decode cX6_is 12 = .ok (.getfield 230, 3) := by decide +kernel
theorem dX6_is_15 : decode cX6_is 15 = .ok (.iaload, 1) := by decide +kernel
theorem dX6_is_16 : decode cX6_is 16 = .ok (.iload_n 1, 1) := by decide +kernel
theorem dX6_is_17 : decode cX6_is 17 = .ok (.if_icmp .ne 7, 3) := by decide +kernel
theorem dX6_is_20 : decode cX6_is 20 = .ok (.iconst 1, 1) := by decide +kernel
theorem dX6_is_21 : decode cX6_is 21 = .ok (.goto 4, 3) := by decide +kernel
theorem dX6_is_24 : decode cX6_is 24 = .ok (.iconst 0, 1) := by decide +kernel
theorem dX6_is_25 : decode cX6_is 25 = .ok (.ireturn, 1) := by decide +kernel
abbrev rm_X6_is : Room := { frames := 0, cells := 0, slots := 0, locals := 0 }
def f_X6_is (S : St) (x1 : Int32) : Option (Int32) :=
  if (st_I S (ky 0 13)) = 0 then (chk (ib (st_I S (ky 0 11)) 403) (if (st_A S (ky 0 5) (st_I S (ky 0 11)).toNatClampNeg) = x1 then (some (1 : Int32)) else (some (0 : Int32)))) else (some (0 : Int32))
set_option maxRecDepth 100000 in
set_option maxHeartbeats 4000000 in
theorem k_X6_is (l : Launch) (g : GG) (hg : gd wd_M g)  (hM : hs wd_M g 0 6) (S : St) (x1 : Int32) (q : Int32) (hf : f_X6_is  S x1 = some q) : Met l yX6_is (Cond.code yX6_is cX6_is 2 (some .boolean) :: gw_tbl) rm_X6_is (va_Pc [.ref (gg_o g 0), .int x1] (wI wd_M g S)) (qc_i wd_M g S q) 0 0 (aw g) := by
  refine mt_start (own := RX6) hg (by decide) rfl (Nat.le_of_ble_eq_true rfl) (fun p e s m args below meth c ls H locs cx hw hr hlk hl => ?_)
  have hx := cx.1
  have hb := cx.2.1
  have hown := cx.2.2.2.1
  have hts := cx.2.2.2.2.1
  have hl : lv_has ls 2 [(0, .ref (gg_o g 0)), (1, .int x1)] := hl
  replace hf := h_top hf
  unfold f_X6_is at hf
  refine lv_aload_n hx hb dX6_is_0 rfl (lv_at hl 0 rfl) ?_
  refine gf_X6_227 cx hw hM dX6_is_1 ?_
  refine lv_if_ne hx hb dX6_is_4 (tgt := 24) rfl (fun hc1 => ?_) (fun hc1 => ?_)
  · replace hf := h_neg hc1 hf
    refine lv_iconst (v := 0) hx hb dX6_is_24 (by decide) ?_
    exact r_zret cx hw hr hlk (Or.inl rfl) hf dX6_is_25
  replace hf := h_pos hc1 hf
  refine lv_aload_n hx hb dX6_is_7 rfl (lv_at hl 0 rfl) ?_
  refine gf_X6_20 cx hw hM dX6_is_8 ?_
  refine lv_aload_n hx hb dX6_is_11 rfl (lv_at hl 0 rfl) ?_
  refine gf_X6_230 cx hw hM dX6_is_12 ?_
  refine r_iald cx hw (hM.2.2.1 5 rfl) rfl rfl hf dX6_is_15 (fun hf => ?_)
  refine lv_iload_n hx hb dX6_is_16 rfl (lv_at hl 1 rfl) ?_
  refine lv_icmp_ne hx hb dX6_is_17 (tgt := 24) rfl (fun hc2 => ?_) (fun hc2 => ?_)
  · replace hf := h_neg hc2 hf
    refine lv_iconst (v := 0) hx hb dX6_is_24 (by decide) ?_
    exact r_zret cx hw hr hlk (Or.inl rfl) hf dX6_is_25
  replace hf := h_pos hc2 hf
  refine lv_iconst (v := 1) hx hb dX6_is_20 (by decide) ?_
  refine lv_goto hx hb dX6_is_21 (tgt := 25) rfl ?_
  exact r_zret cx hw hr hlk (Or.inr rfl) hf dX6_is_25
theorem dX6_fail_0 : decode cX6_fail 0 = .ok (.aload_n 0, 1) := by decide +kernel
theorem dX6_fail_1 : decode cX6_fail 1 = .ok (.getfield 227, 3) := by decide +kernel
theorem dX6_fail_4 : decode cX6_fail 4 = .ok (.ifCond .le 4, 3) := by decide +kernel
theorem dX6_fail_7 : decode cX6_fail 7 = .ok (.return_, 1) := by decide +kernel
theorem dX6_fail_8 : decode cX6_fail 8 = .ok (.aload_n 0, 1) := by decide +kernel
theorem dX6_fail_9 : decode cX6_fail 9 = .ok (.iload_n 1, 1) := by decide +kernel
theorem dX6_fail_10 : decode cX6_fail 10 = .ok (.putfield 227, 3) := by decide +kernel
theorem dX6_fail_13 : decode cX6_fail 13 = .ok (.aload_n 0, 1) := by decide +kernel
theorem dX6_fail_14 : decode cX6_fail 14 = .ok (.aload_n 0, 1) := by decide +kernel
theorem dX6_fail_15 : decode cX6_fail 15 = .ok (.getfield 24, 3) := by decide +kernel
theorem dX6_fail_18 : decode cX6_fail 18 = .ok (.aload_n 0, 1) := by decide +kernel
theorem dX6_fail_19 : decode cX6_fail 19 = .ok (.getfield 230, 3) := by decide +kernel
theorem dX6_fail_22 : decode cX6_fail 22 = .ok (.iaload, 1) := by decide +kernel
theorem dX6_fail_23 : decode cX6_fail 23 = .ok (.putfield 233, 3) := by decide +kernel
theorem dX6_fail_26 : decode cX6_fail 26 = .ok (.return_, 1) := by decide +kernel
abbrev rm_X6_fail : Room := { frames := 0, cells := 0, slots := 0, locals := 0 }
def f_X6_fail (S : St) (x1 : Int32) : Option (St) :=
  if (st_I S (ky 0 13)) ≤ 0 then (lt_v (up_I S (ky 0 13) x1) (fun (S2 : St) => chk (ib (st_I S2 (ky 0 11)) 403) (lt_v (up_I S2 (ky 0 14) (st_A S2 (ky 0 6) (st_I S2 (ky 0 11)).toNatClampNeg)) (fun (S3 : St) => some S3)))) else (some S)
set_option maxRecDepth 100000 in
set_option maxHeartbeats 4000000 in
theorem k_X6_fail (l : Launch) (g : GG) (hg : gd wd_M g)  (hM : hs wd_M g 0 6) (S : St) (x1 : Int32) (q : St) (hf : f_X6_fail  S x1 = some q) : Met l yX6_fail (Cond.code yX6_fail cX6_fail 2 none :: gw_tbl) rm_X6_fail (va_Pc [.ref (gg_o g 0), .int x1] (wI wd_M g S)) (qc_v wd_M g q) 0 0 (aw g) := by
  refine mt_start (own := RX6) hg (by decide) rfl (Nat.le_of_ble_eq_true rfl) (fun p e s m args below meth c ls H locs cx hw hr hlk hl => ?_)
  have hx := cx.1
  have hb := cx.2.1
  have hown := cx.2.2.2.1
  have hts := cx.2.2.2.2.1
  have hl : lv_has ls 2 [(0, .ref (gg_o g 0)), (1, .int x1)] := hl
  replace hf := h_top hf
  unfold f_X6_fail at hf
  refine lv_aload_n hx hb dX6_fail_0 rfl (lv_at hl 0 rfl) ?_
  refine gf_X6_227 cx hw hM dX6_fail_1 ?_
  refine lv_if_le hx hb dX6_fail_4 (tgt := 8) rfl (fun hc1 => ?_) (fun hc1 => ?_)
  · replace hf := h_pos hc1 hf
    refine lv_aload_n hx hb dX6_fail_8 rfl (lv_at hl 0 rfl) ?_
    refine lv_iload_n hx hb dX6_fail_9 rfl (lv_at hl 1 rfl) ?_
    refine pf_X6_227 cx hw hM hf dX6_fail_10 (fun S2 H locs hw hf => ?_)
    refine lv_aload_n hx hb dX6_fail_13 rfl (lv_at hl 0 rfl) ?_
    refine lv_aload_n hx hb dX6_fail_14 rfl (lv_at hl 0 rfl) ?_
    refine gf_X6_24 cx hw hM dX6_fail_15 ?_
    refine lv_aload_n hx hb dX6_fail_18 rfl (lv_at hl 0 rfl) ?_
    refine gf_X6_230 cx hw hM dX6_fail_19 ?_
    refine r_iald cx hw (hM.2.2.1 6 rfl) rfl rfl hf dX6_fail_22 (fun hf => ?_)
    refine pf_X6_233 cx hw hM hf dX6_fail_23 (fun S3 H locs hw hf => ?_)
    exact r_vret cx hw hr hlk hf dX6_fail_26
  replace hf := h_neg hc1 hf
  exact r_vret cx hw hr hlk hf dX6_fail_7
theorem dX6_wrong_0 : decode cX6_wrong 0 = .ok (.aload_n 0, 1) := by decide +kernel
theorem dX6_wrong_1 : decode cX6_wrong 1 = .ok (.getfield 24, 3) := by decide +kernel
theorem dX6_wrong_4 : decode cX6_wrong 4 = .ok (.iload_n 2, 1) := by decide +kernel
theorem dX6_wrong_5 : decode cX6_wrong 5 = .ok (.iaload, 1) := by decide +kernel
theorem dX6_wrong_6 : decode cX6_wrong 6 = .ok (.istore_n 3, 1) := by decide +kernel
theorem dX6_wrong_7 : decode cX6_wrong 7 = .ok (.aload_n 0, 1) := by decide +kernel
theorem dX6_wrong_8 : decode cX6_wrong 8 = .ok (.getfield 227, 3) := by decide +kernel
theorem dX6_wrong_11 : decode cX6_wrong 11 = .ok (.ifCond .gt 34, 3) := by decide +kernel
theorem dX6_wrong_14 : decode cX6_wrong 14 = .ok (.aload_n 0, 1) := by decide +kernel
theorem dX6_wrong_15 : decode cX6_wrong 15 = .ok (.getfield 236, 3) := by decide +kernel
theorem dX6_wrong_18 : decode cX6_wrong 18 = .ok (.ifCond .eq 28, 3) := by decide +kernel
theorem dX6_wrong_21 : decode cX6_wrong 21 = .ok (.iload_n 3, 1) := by decide +kernel
theorem dX6_wrong_22 : decode cX6_wrong 22 = .ok (.aload_n 0, 1) := by decide +kernel
theorem dX6_wrong_23 : decode cX6_wrong 23 = .ok (.getfield 239, 3) := by decide +kernel
theorem dX6_wrong_26 : decode cX6_wrong 26 = .ok (.if_icmp .gt 19, 3) := by decide +kernel
theorem dX6_wrong_29 : decode cX6_wrong 29 = .ok (.iload_n 3, 1) := by decide +kernel
theorem dX6_wrong_30 : decode cX6_wrong 30 = .ok (.aload_n 0, 1) := by decide +kernel
theorem dX6_wrong_31 : decode cX6_wrong 31 = .ok (.getfield 239, 3) := by decide +kernel
theorem dX6_wrong_34 : decode cX6_wrong 34 = .ok (.if_icmp .ne 12, 3) := by decide +kernel
theorem dX6_wrong_37 : decode cX6_wrong 37 = .ok (.iload_n 1, 1) := by decide +kernel
theorem dX6_wrong_38 : decode cX6_wrong 38 = .ok (.aload_n 0, 1) := by decide +kernel
theorem dX6_wrong_39 : decode cX6_wrong 39 = .ok (.getfield 236, 3) := by decide +kernel
theorem dX6_wrong_42 : decode cX6_wrong 42 = .ok (.if_icmp .lt 4, 3) := by decide +kernel
theorem dX6_wrong_45 : decode cX6_wrong 45 = .ok (.return_, 1) := by decide +kernel
theorem dX6_wrong_46 : decode cX6_wrong 46 = .ok (.aload_n 0, 1) := by decide +kernel
theorem dX6_wrong_47 : decode cX6_wrong 47 = .ok (.iload_n 1, 1) := by decide +kernel
theorem dX6_wrong_48 : decode cX6_wrong 48 = .ok (.putfield 236, 3) := by decide +kernel
theorem dX6_wrong_51 : decode cX6_wrong 51 = .ok (.aload_n 0, 1) := by decide +kernel
theorem dX6_wrong_52 : decode cX6_wrong 52 = .ok (.iload_n 3, 1) := by decide +kernel
theorem dX6_wrong_53 : decode cX6_wrong 53 = .ok (.putfield 239, 3) := by decide +kernel
theorem dX6_wrong_56 : decode cX6_wrong 56 = .ok (.return_, 1) := by decide +kernel
abbrev rm_X6_wrong : Room := { frames := 0, cells := 0, slots := 0, locals := 0 }
def f_X6_wrong_J46 (S : St) (x1 : Int32) (x3 : Int32) : Option (St) :=
  lt_v (up_I S (ky 0 15) x1) (fun (S3 : St) => lt_v (up_I S3 (ky 0 16) x3) (fun (S4 : St) => some S4))
def f_X6_wrong (S : St) (x1 : Int32) (x2 : Int32) : Option (St) :=
  chk (ib x2 403) (if 0 < (st_I S (ky 0 13)) then (some S) else (if (st_I S (ky 0 15)) = 0 then (f_X6_wrong_J46  S x1 (st_A S (ky 0 6) x2.toNatClampNeg)) else (if (st_I S (ky 0 16)) < (st_A S (ky 0 6) x2.toNatClampNeg) then (some S) else (if (st_A S (ky 0 6) x2.toNatClampNeg) = (st_I S (ky 0 16)) then (if x1 < (st_I S (ky 0 15)) then (f_X6_wrong_J46  S x1 (st_A S (ky 0 6) x2.toNatClampNeg)) else (some S)) else (f_X6_wrong_J46  S x1 (st_A S (ky 0 6) x2.toNatClampNeg))))))
set_option maxRecDepth 100000 in
set_option maxHeartbeats 4000000 in
theorem k_X6_wrong (l : Launch) (g : GG) (hg : gd wd_M g)  (hM : hs wd_M g 0 6) (S : St) (x1 : Int32) (x2 : Int32) (q : St) (hf : f_X6_wrong  S x1 x2 = some q) : Met l yX6_wrong (Cond.code yX6_wrong cX6_wrong 4 none :: gw_tbl) rm_X6_wrong (va_Pc [.ref (gg_o g 0), .int x1, .int x2] (wI wd_M g S)) (qc_v wd_M g q) 0 0 (aw g) := by
  refine mt_start (own := RX6) hg (by decide) rfl (Nat.le_of_ble_eq_true rfl) (fun p e s m args below meth c ls H locs cx hw hr hlk hl => ?_)
  have hx := cx.1
  have hb := cx.2.1
  have hown := cx.2.2.2.1
  have hts := cx.2.2.2.2.1
  have hl : lv_has ls 4 [(0, .ref (gg_o g 0)), (1, .int x1), (2, .int x2)] := hl
  replace hf := h_top hf
  unfold f_X6_wrong at hf
  have J46 : ∀ (ls : Array Slot) (H : Heap) (locs : List Loc) (S : St) (x1 : Int32) (x3 : Int32), lv_has ls 4 [(0, .ref (gg_o g 0)), (1, .int x1), (3, .int x3)] → HH wd_M g s S H locs → (f_X6_wrong_J46  S x1 x3).bind some = some q → W p l e rm_X6_wrong s m args below meth c H locs 0 0 (MQ below (qc_v wd_M g q) args s 0 0 (aw g)) (F0 m 46 ls []) := by
    intro ls H locs S x1 x3 hl hw hf
    unfold f_X6_wrong_J46 at hf
    refine lv_aload_n hx hb dX6_wrong_46 rfl (lv_at hl 0 rfl) ?_
    refine lv_iload_n hx hb dX6_wrong_47 rfl (lv_at hl 1 rfl) ?_
    refine pf_X6_236 cx hw hM hf dX6_wrong_48 (fun S3 H locs hw hf => ?_)
    refine lv_aload_n hx hb dX6_wrong_51 rfl (lv_at hl 0 rfl) ?_
    refine lv_iload_n hx hb dX6_wrong_52 rfl (lv_at hl 2 rfl) ?_
    refine pf_X6_239 cx hw hM hf dX6_wrong_53 (fun S4 H locs hw hf => ?_)
    exact r_vret cx hw hr hlk hf dX6_wrong_56
  refine lv_aload_n hx hb dX6_wrong_0 rfl (lv_at hl 0 rfl) ?_
  refine gf_X6_24 cx hw hM dX6_wrong_1 ?_
  refine lv_iload_n hx hb dX6_wrong_4 rfl (lv_at hl 2 rfl) ?_
  refine r_iald cx hw (hM.2.2.1 6 rfl) rfl rfl hf dX6_wrong_5 (fun hf => ?_)
  refine lv_istore_n hx hb dX6_wrong_6 rfl hl (by decide) (lv' := [(3, .int (st_A S (ky 0 6) x2.toNatClampNeg)), (0, .ref (gg_o g 0)), (1, .int x1), (2, .int x2)]) rfl (fun ls hl => ?_)
  refine lv_aload_n hx hb dX6_wrong_7 rfl (lv_at hl 1 rfl) ?_
  refine gf_X6_227 cx hw hM dX6_wrong_8 ?_
  refine lv_if_gt hx hb dX6_wrong_11 (tgt := 45) rfl (fun hc1 => ?_) (fun hc1 => ?_)
  · replace hf := h_pos hc1 hf
    exact r_vret cx hw hr hlk hf dX6_wrong_45
  replace hf := h_neg hc1 hf
  refine lv_aload_n hx hb dX6_wrong_14 rfl (lv_at hl 1 rfl) ?_
  refine gf_X6_236 cx hw hM dX6_wrong_15 ?_
  refine lv_if_eq hx hb dX6_wrong_18 (tgt := 46) rfl (fun hc2 => ?_) (fun hc2 => ?_)
  · replace hf := h_pos hc2 hf
    exact J46 _ _ _ S x1 (st_A S (ky 0 6) x2.toNatClampNeg) (lv_sub hl [1, 2, 0] rfl) hw hf
  replace hf := h_neg hc2 hf
  refine lv_iload_n hx hb dX6_wrong_21 rfl (lv_at hl 0 rfl) ?_
  refine lv_aload_n hx hb dX6_wrong_22 rfl (lv_at hl 1 rfl) ?_
  refine gf_X6_239 cx hw hM dX6_wrong_23 ?_
  refine lv_icmp_gt hx hb dX6_wrong_26 (tgt := 45) rfl (fun hc5 => ?_) (fun hc5 => ?_)
  · replace hf := h_pos hc5 hf
    exact r_vret cx hw hr hlk hf dX6_wrong_45
  replace hf := h_neg hc5 hf
  refine lv_iload_n hx hb dX6_wrong_29 rfl (lv_at hl 0 rfl) ?_
  refine lv_aload_n hx hb dX6_wrong_30 rfl (lv_at hl 1 rfl) ?_
  refine gf_X6_239 cx hw hM dX6_wrong_31 ?_
  refine lv_icmp_ne hx hb dX6_wrong_34 (tgt := 46) rfl (fun hc6 => ?_) (fun hc6 => ?_)
  · replace hf := h_neg hc6 hf
    exact J46 _ _ _ S x1 (st_A S (ky 0 6) x2.toNatClampNeg) (lv_sub hl [1, 2, 0] rfl) hw hf
  replace hf := h_pos hc6 hf
  refine lv_iload_n hx hb dX6_wrong_37 rfl (lv_at hl 2 rfl) ?_
  refine lv_aload_n hx hb dX6_wrong_38 rfl (lv_at hl 1 rfl) ?_
  refine gf_X6_236 cx hw hM dX6_wrong_39 ?_
  refine lv_icmp_lt hx hb dX6_wrong_42 (tgt := 46) rfl (fun hc7 => ?_) (fun hc7 => ?_)
  · replace hf := h_pos hc7 hf
    exact J46 _ _ _ S x1 (st_A S (ky 0 6) x2.toNatClampNeg) (lv_sub hl [1, 2, 0] rfl) hw hf
  replace hf := h_neg hc7 hf
  exact r_vret cx hw hr hlk hf dX6_wrong_45
theorem dX6_goesOn_0 : decode cX6_goesOn 0 = .ok (.aload_n 0, 1) := by decide +kernel
theorem dX6_goesOn_1 : decode cX6_goesOn 1 = .ok (.getfield 230, 3) := by decide +kernel
theorem dX6_goesOn_4 : decode cX6_goesOn 4 = .ok (.sipush 400, 3) := by decide +kernel
theorem dX6_goesOn_7 : decode cX6_goesOn 7 = .ok (.if_icmp .ne 11, 3) := by decide +kernel
theorem dX6_goesOn_10 : decode cX6_goesOn 10 = .ok (.aload_n 0, 1) := by decide +kernel
theorem dX6_goesOn_11 : decode cX6_goesOn 11 = .ok (.iconst 2, 1) := by decide +kernel
theorem dX6_goesOn_12 : decode cX6_goesOn 12 = .ok (.invokevirtual 242, 3) := by decide +kernel
theorem dX6_goesOn_15 : decode cX6_goesOn 15 = .ok (.goto 13, 3) := by decide +kernel
theorem dX6_goesOn_18 : decode cX6_goesOn 18 = .ok (.aload_n 0, 1) := by decide +kernel
theorem dX6_goesOn_19 : decode cX6_goesOn 19 = .ok (.dup, 1) := by decide +kernel
theorem dX6_goesOn_20 : decode cX6_goesOn 20 = .ok (.getfield 230, 3) := by decide +kernel
theorem dX6_goesOn_23 : decode cX6_goesOn 23 = .ok (.iconst 1, 1) := by decide +kernel
theorem dX6_goesOn_24 : decode cX6_goesOn 24 = .ok (.iadd, 1) := by decide +kernel
theorem dX6_goesOn_25 : decode cX6_goesOn 25 = .ok (.putfield 230, 3) := by decide +kernel
theorem dX6_goesOn_28 : decode cX6_goesOn 28 = .ok (.return_, 1) := by decide +kernel
abbrev rm_X6_goesOn : Room := { frames := 1, cells := 0, slots := 0, locals := 21 }
def f_X6_goesOn (S : St)  : Option (St) :=
  if (st_I S (ky 0 11)) = (400 : Int32) then ((f_X6_fail  S (2 : Int32)).bind (fun (q3 : St) => some q3)) else (lt_v (up_I S (ky 0 11) ((st_I S (ky 0 11)) + (1 : Int32))) (fun (S2 : St) => some S2))
set_option maxRecDepth 100000 in
set_option maxHeartbeats 4000000 in
theorem k_X6_goesOn (l : Launch) (g : GG) (hg : gd wd_M g)  (hM : hs wd_M g 0 6) (S : St)  (q : St) (hf : f_X6_goesOn  S  = some q) : Met l yX6_goesOn (Cond.code yX6_goesOn cX6_goesOn 1 none :: gw_tbl) rm_X6_goesOn (va_Pc [.ref (gg_o g 0)] (wI wd_M g S)) (qc_v wd_M g q) 0 0 (aw g) := by
  refine mt_start (own := RX6) hg (by decide) rfl (Nat.le_of_ble_eq_true rfl) (fun p e s m args below meth c ls H locs cx hw hr hlk hl => ?_)
  have hx := cx.1
  have hb := cx.2.1
  have hown := cx.2.2.2.1
  have hts := cx.2.2.2.2.1
  have hl : lv_has ls 1 [(0, .ref (gg_o g 0))] := hl
  replace hf := h_top hf
  unfold f_X6_goesOn at hf
  refine lv_aload_n hx hb dX6_goesOn_0 rfl (lv_at hl 0 rfl) ?_
  refine gf_X6_230 cx hw hM dX6_goesOn_1 ?_
  refine lv_sipush (v := 400) hx hb dX6_goesOn_4 (by decide) ?_
  refine lv_icmp_ne hx hb dX6_goesOn_7 (tgt := 18) rfl (fun hc1 => ?_) (fun hc1 => ?_)
  · replace hf := h_neg hc1 hf
    refine lv_aload_n hx hb dX6_goesOn_18 rfl (lv_at hl 0 rfl) ?_
    refine lv_dup hx hb dX6_goesOn_19 rfl ?_
    refine gf_X6_230 cx hw hM dX6_goesOn_20 ?_
    refine lv_iconst (v := 1) hx hb dX6_goesOn_23 (by decide) ?_
    refine lv_iadd hx hb dX6_goesOn_24 ?_
    refine pf_X6_230 cx hw hM hf dX6_goesOn_25 (fun S2 H locs hw hf => ?_)
    exact r_vret cx hw hr hlk hf dX6_goesOn_28
  replace hf := h_pos hc1 hf
  refine lv_aload_n hx hb dX6_goesOn_10 rfl (lv_at hl 0 rfl) ?_
  refine lv_iconst (v := 2) hx hb dX6_goesOn_11 (by decide) ?_
  refine r_V_v (As := [.int (2 : Int32)]) (rest := []) cx hw hf hM.2.1 (by rw [hM.1]; rfl) lk_X6_242 (fun q3 hq => k_X6_fail l g hg  hM S (2 : Int32) q3 hq) ⟨⟨rfl, rfl⟩, Nat.le_of_ble_eq_true rfl, Nat.le_of_ble_eq_true rfl⟩ rfl hl.1 rfl (Nat.le_of_ble_eq_true rfl) dX6_goesOn_12 ⟨Nat.zero_le _, Nat.zero_le _⟩ (fun q3 H locs hw hf => ?_)
  refine lv_goto hx hb dX6_goesOn_15 (tgt := 28) rfl ?_
  exact r_vret cx hw hr hlk hf dX6_goesOn_28
theorem dX6_must_0 : decode cX6_must 0 = .ok (.aload_n 0, 1) := by decide +kernel
theorem dX6_must_1 : decode cX6_must 1 = .ok (.iload_n 1, 1) := by decide +kernel
theorem dX6_must_2 : decode cX6_must 2 = .ok (.invokevirtual 245, 3) := by decide +kernel
theorem dX6_must_5 : decode cX6_must 5 = .ok (.ifCond .eq 10, 3) := by decide +kernel
theorem dX6_must_8 : decode cX6_must 8 = .ok (.aload_n 0, 1) := by decide +kernel
theorem dX6_must_9 : decode cX6_must 9 = .ok (.invokevirtual 248, 3) := by decide +kernel
theorem dX6_must_12 : decode cX6_must 12 = .ok (.goto 8, 3) := by decide +kernel
theorem dX6_must_15 : decode cX6_must 15 = .ok (.aload_n 0, 1) := by decide +kernel
theorem dX6_must_16 : decode cX6_must 16 = .ok (.iconst 1, 1) := by decide +kernel
theorem dX6_must_17 : decode cX6_must 17 = .ok (.invokevirtual 242, 3) := by decide +kernel
theorem dX6_must_20 : decode cX6_must 20 = .ok (.return_, 1) := by decide +kernel
abbrev rm_X6_must : Room := { frames := 2, cells := 0, slots := 0, locals := 41 }
def f_X6_must (S : St) (x1 : Int32) : Option (St) :=
  (f_X6_is  S x1).bind (fun (q1 : Int32) => if q1 = 0 then ((f_X6_fail  S (1 : Int32)).bind (fun (q3 : St) => some q3)) else ((f_X6_goesOn  S ).bind (fun (q4 : St) => some q4)))
set_option maxRecDepth 100000 in
set_option maxHeartbeats 4000000 in
theorem k_X6_must (l : Launch) (g : GG) (hg : gd wd_M g)  (hM : hs wd_M g 0 6) (S : St) (x1 : Int32) (q : St) (hf : f_X6_must  S x1 = some q) : Met l yX6_must (Cond.code yX6_must cX6_must 2 none :: gw_tbl) rm_X6_must (va_Pc [.ref (gg_o g 0), .int x1] (wI wd_M g S)) (qc_v wd_M g q) 0 0 (aw g) := by
  refine mt_start (own := RX6) hg (by decide) rfl (Nat.le_of_ble_eq_true rfl) (fun p e s m args below meth c ls H locs cx hw hr hlk hl => ?_)
  have hx := cx.1
  have hb := cx.2.1
  have hown := cx.2.2.2.1
  have hts := cx.2.2.2.2.1
  have hl : lv_has ls 2 [(0, .ref (gg_o g 0)), (1, .int x1)] := hl
  replace hf := h_top hf
  unfold f_X6_must at hf
  refine lv_aload_n hx hb dX6_must_0 rfl (lv_at hl 0 rfl) ?_
  refine lv_iload_n hx hb dX6_must_1 rfl (lv_at hl 1 rfl) ?_
  refine r_V_i (As := [.int x1]) (rest := []) cx hw hf hM.2.1 (by rw [hM.1]; rfl) lk_X6_245 (fun q1 hq => k_X6_is l g hg  hM S x1 q1 hq) ⟨⟨rfl, rfl⟩, Nat.le_of_ble_eq_true rfl, Nat.le_of_ble_eq_true rfl⟩ rfl hl.1 rfl (Nat.le_of_ble_eq_true rfl) dX6_must_2 ⟨Nat.zero_le _, Nat.zero_le _⟩ (fun q1 H locs hw hf => ?_)
  refine lv_if_eq hx hb dX6_must_5 (tgt := 15) rfl (fun hc2 => ?_) (fun hc2 => ?_)
  · replace hf := h_pos hc2 hf
    refine lv_aload_n hx hb dX6_must_15 rfl (lv_at hl 0 rfl) ?_
    refine lv_iconst (v := 1) hx hb dX6_must_16 (by decide) ?_
    refine r_V_v (As := [.int (1 : Int32)]) (rest := []) cx hw hf hM.2.1 (by rw [hM.1]; rfl) lk_X6_242 (fun q3 hq => k_X6_fail l g hg  hM S (1 : Int32) q3 hq) ⟨⟨rfl, rfl⟩, Nat.le_of_ble_eq_true rfl, Nat.le_of_ble_eq_true rfl⟩ rfl hl.1 rfl (Nat.le_of_ble_eq_true rfl) dX6_must_17 ⟨Nat.zero_le _, Nat.zero_le _⟩ (fun q3 H locs hw hf => ?_)
    exact r_vret cx hw hr hlk hf dX6_must_20
  replace hf := h_neg hc2 hf
  refine lv_aload_n hx hb dX6_must_8 rfl (lv_at hl 0 rfl) ?_
  refine r_V_v (As := []) (rest := []) cx hw hf hM.2.1 (by rw [hM.1]; rfl) lk_X6_248 (fun q4 hq => k_X6_goesOn l g hg  hM S  q4 hq) ⟨⟨rfl, rfl⟩, Nat.le_of_ble_eq_true rfl, Nat.le_of_ble_eq_true rfl⟩ rfl hl.1 rfl (Nat.le_of_ble_eq_true rfl) dX6_must_9 ⟨Nat.zero_le _, Nat.zero_le _⟩ (fun q4 H locs hw hf => ?_)
  refine lv_goto hx hb dX6_must_12 (tgt := 20) rfl ?_
  exact r_vret cx hw hr hlk hf dX6_must_20
theorem dX6_plain_0 : decode cX6_plain 0 = .ok (.aload_n 0, 1) := by decide +kernel
theorem dX6_plain_1 : decode cX6_plain 1 = .ok (.getfield 49, 3) := by decide +kernel
theorem dX6_plain_4 : decode cX6_plain 4 = .ok (.iload_n 1, 1) := by decide +kernel
theorem dX6_plain_5 : decode cX6_plain 5 = .ok (.iconst 0, 1) := by decide +kernel
theorem dX6_plain_6 : decode cX6_plain 6 = .ok (.iastore, 1) := by decide +kernel
theorem dX6_plain_7 : decode cX6_plain 7 = .ok (.aload_n 0, 1) := by decide +kernel
theorem dX6_plain_8 : decode cX6_plain 8 = .ok (.getfield 52, 3) := by decide +kernel
theorem dX6_plain_11 : decode cX6_plain 11 = .ok (.iload_n 1, 1) := by decide +kernel
theorem dX6_plain_12 : decode cX6_plain 12 = .ok (.iconst 0, 1) := by decide +kernel
theorem dX6_plain_13 : decode cX6_plain 13 = .ok (.iastore, 1) := by decide +kernel
theorem dX6_plain_14 : decode cX6_plain 14 = .ok (.aload_n 0, 1) := by decide +kernel
theorem dX6_plain_15 : decode cX6_plain 15 = .ok (.getfield 61, 3) := by decide +kernel
theorem dX6_plain_18 : decode cX6_plain 18 = .ok (.iload_n 1, 1) := by decide +kernel
theorem dX6_plain_19 : decode cX6_plain 19 = .ok (.iconst 0, 1) := by decide +kernel
theorem dX6_plain_20 : decode cX6_plain 20 = .ok (.iastore, 1) := by decide +kernel
theorem dX6_plain_21 : decode cX6_plain 21 = .ok (.aload_n 0, 1) := by decide +kernel
theorem dX6_plain_22 : decode cX6_plain 22 = .ok (.getfield 70, 3) := by decide +kernel
theorem dX6_plain_25 : decode cX6_plain 25 = .ok (.iload_n 1, 1) := by decide +kernel
theorem dX6_plain_26 : decode cX6_plain 26 = .ok (.iconst 0, 1) := by decide +kernel
theorem dX6_plain_27 : decode cX6_plain 27 = .ok (.iastore, 1) := by decide +kernel
theorem dX6_plain_28 : decode cX6_plain 28 = .ok (.aload_n 0, 1) := by decide +kernel
theorem dX6_plain_29 : decode cX6_plain 29 = .ok (.getfield 79, 3) := by decide +kernel
theorem dX6_plain_32 : decode cX6_plain 32 = .ok (.iload_n 1, 1) := by decide +kernel
theorem dX6_plain_33 : decode cX6_plain 33 = .ok (.iconst 0, 1) := by decide +kernel
theorem dX6_plain_34 : decode cX6_plain 34 = .ok (.iastore, 1) := by decide +kernel
theorem dX6_plain_35 : decode cX6_plain 35 = .ok (.aload_n 0, 1) := by decide +kernel
theorem dX6_plain_36 : decode cX6_plain 36 = .ok (.getfield 82, 3) := by decide +kernel
theorem dX6_plain_39 : decode cX6_plain 39 = .ok (.iload_n 1, 1) := by decide +kernel
theorem dX6_plain_40 : decode cX6_plain 40 = .ok (.iconst 0, 1) := by decide +kernel
theorem dX6_plain_41 : decode cX6_plain 41 = .ok (.iastore, 1) := by decide +kernel
theorem dX6_plain_42 : decode cX6_plain 42 = .ok (.iconst 0, 1) := by decide +kernel
theorem dX6_plain_43 : decode cX6_plain 43 = .ok (.istore_n 2, 1) := by decide +kernel
theorem dX6_plain_44 : decode cX6_plain 44 = .ok (.iload_n 2, 1) := by decide +kernel
theorem dX6_plain_45 : decode cX6_plain 45 = .ok (.bipush 7, 2) := by decide +kernel
theorem dX6_plain_47 : decode cX6_plain 47 = .ok (.if_icmp .ge 33, 3) := by decide +kernel
theorem dX6_plain_50 : decode cX6_plain 50 = .ok (.aload_n 0, 1) := by decide +kernel
theorem dX6_plain_51 : decode cX6_plain 51 = .ok (.getfield 85, 3) := by decide +kernel
theorem dX6_plain_54 : decode cX6_plain 54 = .ok (.bipush 7, 2) := by decide +kernel
theorem dX6_plain_56 : decode cX6_plain 56 = .ok (.iload_n 1, 1) := by decide +kernel
theorem dX6_plain_57 : decode cX6_plain 57 = .ok (.imul, 1) := by decide +kernel
theorem dX6_plain_58 : decode cX6_plain 58 = .ok (.iload_n 2, 1) := by decide +kernel
theorem dX6_plain_59 : decode cX6_plain 59 = .ok (.iadd, 1) := by decide +kernel
theorem dX6_plain_60 : decode cX6_plain 60 = .ok (.iconst 0, 1) := by decide +kernel
theorem dX6_plain_61 : decode cX6_plain 61 = .ok (.iastore, 1) := by decide +kernel
theorem dX6_plain_62 : decode cX6_plain 62 = .ok (.aload_n 0, 1) := by decide +kernel
theorem dX6_plain_63 : decode cX6_plain 63 = .ok (.getfield 88, 3) := by decide +kernel
theorem dX6_plain_66 : decode cX6_plain 66 = .ok (.bipush 7, 2) := by decide +kernel
theorem dX6_plain_68 : decode cX6_plain 68 = .ok (.iload_n 1, 1) := by decide +kernel
theorem dX6_plain_69 : decode cX6_plain 69 = .ok (.imul, 1) := by decide +kernel
theorem dX6_plain_70 : decode cX6_plain 70 = .ok (.iload_n 2, 1) := by decide +kernel
theorem dX6_plain_71 : decode cX6_plain 71 = .ok (.iadd, 1) := by decide +kernel
theorem dX6_plain_72 : decode cX6_plain 72 = .ok (.iconst 0, 1) := by decide +kernel
theorem dX6_plain_73 : decode cX6_plain 73 = .ok (.iastore, 1) := by decide +kernel
theorem dX6_plain_74 : decode cX6_plain 74 = .ok (.iinc 2 1, 3) := by decide +kernel
theorem dX6_plain_77 : decode cX6_plain 77 = .ok (.goto (-33), 3) := by decide +kernel
theorem dX6_plain_80 : decode cX6_plain 80 = .ok (.return_, 1) := by decide +kernel
abbrev rm_X6_plain : Room := { frames := 0, cells := 0, slots := 0, locals := 0 }
def f_X6_plain_L44 (x1 : Int32) (z44 : Int32 × St) : Option ((Int32 × St) ⊕ (St)) :=
  if (7 : Int32) ≤ z44.1 then (some (.inr z44.2)) else (chk (ib (((7 : Int32) * x1) + z44.1) 14) (lt_v (up_A z44.2 (ky 0 36) (upd (st_A z44.2 (ky 0 36)) (((7 : Int32) * x1) + z44.1).toNatClampNeg (0 : Int32))) (fun (S8 : St) => chk (ib (((7 : Int32) * x1) + z44.1) 14) (lt_v (up_A S8 (ky 0 37) (upd (st_A S8 (ky 0 37)) (((7 : Int32) * x1) + z44.1).toNatClampNeg (0 : Int32))) (fun (S9 : St) => some (.inl ((z44.1 + 1), S9)))))))
def f_X6_plain (S : St) (x1 : Int32) : Option (St) :=
  chk (ib x1 2) (lt_v (up_A S (ky 0 24) (upd (st_A S (ky 0 24)) x1.toNatClampNeg (0 : Int32))) (fun (S1 : St) => chk (ib x1 2) (lt_v (up_A S1 (ky 0 25) (upd (st_A S1 (ky 0 25)) x1.toNatClampNeg (0 : Int32))) (fun (S2 : St) => chk (ib x1 2) (lt_v (up_A S2 (ky 0 28) (upd (st_A S2 (ky 0 28)) x1.toNatClampNeg (0 : Int32))) (fun (S3 : St) => chk (ib x1 2) (lt_v (up_A S3 (ky 0 31) (upd (st_A S3 (ky 0 31)) x1.toNatClampNeg (0 : Int32))) (fun (S4 : St) => chk (ib x1 2) (lt_v (up_A S4 (ky 0 34) (upd (st_A S4 (ky 0 34)) x1.toNatClampNeg (0 : Int32))) (fun (S5 : St) => chk (ib x1 2) (lt_v (up_A S5 (ky 0 35) (upd (st_A S5 (ky 0 35)) x1.toNatClampNeg (0 : Int32))) (fun (S6 : St) => iter (f_X6_plain_L44   x1) FU ((0 : Int32), S6)))))))))))))
set_option maxRecDepth 100000 in
set_option maxHeartbeats 4000000 in
theorem k_X6_plain (l : Launch) (g : GG) (hg : gd wd_M g)  (hM : hs wd_M g 0 6) (S : St) (x1 : Int32) (q : St) (hf : f_X6_plain  S x1 = some q) : Met l yX6_plain (Cond.code yX6_plain cX6_plain 3 none :: gw_tbl) rm_X6_plain (va_Pc [.ref (gg_o g 0), .int x1] (wI wd_M g S)) (qc_v wd_M g q) 0 0 (aw g) := by
  refine mt_start (own := RX6) hg (by decide) rfl (Nat.le_of_ble_eq_true rfl) (fun p e s m args below meth c ls H locs cx hw hr hlk hl => ?_)
  have hx := cx.1
  have hb := cx.2.1
  have hown := cx.2.2.2.1
  have hts := cx.2.2.2.2.1
  have hl : lv_has ls 3 [(0, .ref (gg_o g 0)), (1, .int x1)] := hl
  replace hf := h_top hf
  unfold f_X6_plain at hf
  refine lv_aload_n hx hb dX6_plain_0 rfl (lv_at hl 0 rfl) ?_
  refine gf_X6_49 cx hw hM dX6_plain_1 ?_
  refine lv_iload_n hx hb dX6_plain_4 rfl (lv_at hl 1 rfl) ?_
  refine lv_iconst (v := 0) hx hb dX6_plain_5 (by decide) ?_
  refine r_iast cx hw (hM.2.2.1 24 rfl) rfl rfl hf dX6_plain_6 (fun S1 H locs hw hf => ?_)
  refine lv_aload_n hx hb dX6_plain_7 rfl (lv_at hl 0 rfl) ?_
  refine gf_X6_52 cx hw hM dX6_plain_8 ?_
  refine lv_iload_n hx hb dX6_plain_11 rfl (lv_at hl 1 rfl) ?_
  refine lv_iconst (v := 0) hx hb dX6_plain_12 (by decide) ?_
  refine r_iast cx hw (hM.2.2.1 25 rfl) rfl rfl hf dX6_plain_13 (fun S2 H locs hw hf => ?_)
  refine lv_aload_n hx hb dX6_plain_14 rfl (lv_at hl 0 rfl) ?_
  refine gf_X6_61 cx hw hM dX6_plain_15 ?_
  refine lv_iload_n hx hb dX6_plain_18 rfl (lv_at hl 1 rfl) ?_
  refine lv_iconst (v := 0) hx hb dX6_plain_19 (by decide) ?_
  refine r_iast cx hw (hM.2.2.1 28 rfl) rfl rfl hf dX6_plain_20 (fun S3 H locs hw hf => ?_)
  refine lv_aload_n hx hb dX6_plain_21 rfl (lv_at hl 0 rfl) ?_
  refine gf_X6_70 cx hw hM dX6_plain_22 ?_
  refine lv_iload_n hx hb dX6_plain_25 rfl (lv_at hl 1 rfl) ?_
  refine lv_iconst (v := 0) hx hb dX6_plain_26 (by decide) ?_
  refine r_iast cx hw (hM.2.2.1 31 rfl) rfl rfl hf dX6_plain_27 (fun S4 H locs hw hf => ?_)
  refine lv_aload_n hx hb dX6_plain_28 rfl (lv_at hl 0 rfl) ?_
  refine gf_X6_79 cx hw hM dX6_plain_29 ?_
  refine lv_iload_n hx hb dX6_plain_32 rfl (lv_at hl 1 rfl) ?_
  refine lv_iconst (v := 0) hx hb dX6_plain_33 (by decide) ?_
  refine r_iast cx hw (hM.2.2.1 34 rfl) rfl rfl hf dX6_plain_34 (fun S5 H locs hw hf => ?_)
  refine lv_aload_n hx hb dX6_plain_35 rfl (lv_at hl 0 rfl) ?_
  refine gf_X6_82 cx hw hM dX6_plain_36 ?_
  refine lv_iload_n hx hb dX6_plain_39 rfl (lv_at hl 1 rfl) ?_
  refine lv_iconst (v := 0) hx hb dX6_plain_40 (by decide) ?_
  refine r_iast cx hw (hM.2.2.1 35 rfl) rfl rfl hf dX6_plain_41 (fun S6 H locs hw hf => ?_)
  refine lv_iconst (v := 0) hx hb dX6_plain_42 (by decide) ?_
  refine lv_istore_n hx hb dX6_plain_43 rfl hl (by decide) (lv' := [(2, .int (0 : Int32)), (0, .ref (gg_o g 0)), (1, .int x1)]) rfl (fun ls hl => ?_)
  have L44 : ∀ (x1 : Int32) (aft44 : St → Option (St)), (∀ v : St, aft44 v = some q → (some v : Option (St)).bind some = some q) → ∀ (n44 : Nat) (ls : Array Slot) (H : Heap) (locs : List Loc) (z44 : Int32 × St), lv_has ls 3 [(0, .ref (gg_o g 0)), (1, .int x1), (2, .int z44.1)] → HH wd_M g s z44.2 H locs → (iter (f_X6_plain_L44   x1) n44 z44).bind aft44 = some q → W p l e rm_X6_plain s m args below meth c H locs 0 0 (MQ below (qc_v wd_M g q) args s 0 0 (aw g)) (F0 m 44 ls []) := by
    intro x1 aft44 hR44 n44
    induction n44 with
    | zero => intro ls H locs z44 hl hw hf; exact h_iter0 hf
    | succ n44 ih44 =>
      intro ls H locs z44 hl hw hf
      replace hf := h_iter hf
      unfold f_X6_plain_L44 at hf
      refine lv_iload_n hx hb dX6_plain_44 rfl (lv_at hl 2 rfl) ?_
      refine lv_bipush (v := 7) hx hb dX6_plain_45 (by decide) ?_
      refine lv_icmp_ge hx hb dX6_plain_47 (tgt := 80) rfl (fun hc7 => ?_) (fun hc7 => ?_)
      · replace hf := h_pos hc7 hf
        replace hf := hR44 z44.2 hf
        exact r_vret cx hw hr hlk hf dX6_plain_80
      replace hf := h_neg hc7 hf
      refine lv_aload_n hx hb dX6_plain_50 rfl (lv_at hl 0 rfl) ?_
      refine gf_X6_85 cx hw hM dX6_plain_51 ?_
      refine lv_bipush (v := 7) hx hb dX6_plain_54 (by decide) ?_
      refine lv_iload_n hx hb dX6_plain_56 rfl (lv_at hl 1 rfl) ?_
      refine lv_imul hx hb dX6_plain_57 ?_
      refine lv_iload_n hx hb dX6_plain_58 rfl (lv_at hl 2 rfl) ?_
      refine lv_iadd hx hb dX6_plain_59 ?_
      refine lv_iconst (v := 0) hx hb dX6_plain_60 (by decide) ?_
      refine r_iast cx hw (hM.2.2.1 36 rfl) rfl rfl hf dX6_plain_61 (fun S8 H locs hw hf => ?_)
      refine lv_aload_n hx hb dX6_plain_62 rfl (lv_at hl 0 rfl) ?_
      refine gf_X6_88 cx hw hM dX6_plain_63 ?_
      refine lv_bipush (v := 7) hx hb dX6_plain_66 (by decide) ?_
      refine lv_iload_n hx hb dX6_plain_68 rfl (lv_at hl 1 rfl) ?_
      refine lv_imul hx hb dX6_plain_69 ?_
      refine lv_iload_n hx hb dX6_plain_70 rfl (lv_at hl 2 rfl) ?_
      refine lv_iadd hx hb dX6_plain_71 ?_
      refine lv_iconst (v := 0) hx hb dX6_plain_72 (by decide) ?_
      refine r_iast cx hw (hM.2.2.1 37 rfl) rfl rfl hf dX6_plain_73 (fun S9 H locs hw hf => ?_)
      refine lv_iinc hx hb dX6_plain_74 hl (k := 2) rfl (congrArg (HAdd.hAdd _) (show Int32.ofInt (1) = 1 by decide)) (by decide) (lv' := [(2, .int (z44.1 + 1)), (0, .ref (gg_o g 0)), (1, .int x1)]) rfl (fun ls hl => ?_)
      refine lv_goto hx hb dX6_plain_77 (tgt := 44) rfl ?_
      exact ih44 _ _ _ ((z44.1 + 1), S9) (lv_sub hl [1, 2, 0] rfl) hw hf
  exact L44 x1 some (fun v h => h) FU _ _ _ ((0 : Int32), S6) (lv_sub hl [1, 2, 0] rfl) hw hf
theorem dX6_roomFor_0 : decode cX6_roomFor 0 = .ok (.iload_n 1, 1) := by decide +kernel
theorem dX6_roomFor_1 : decode cX6_roomFor 1 = .ok (.iload_n 2, 1) := by decide +kernel
theorem dX6_roomFor_2 : decode cX6_roomFor 2 = .ok (.if_icmp .ne 8, 3) := by decide +kernel
theorem dX6_roomFor_5 : decode cX6_roomFor 5 = .ok (.aload_n 0, 1) := by decide +kernel
theorem dX6_roomFor_6 : decode cX6_roomFor 6 = .ok (.iconst 2, 1) := by decide +kernel
theorem dX6_roomFor_7 : decode cX6_roomFor 7 = .ok (.invokevirtual 242, 3) := by decide +kernel
theorem dX6_roomFor_10 : decode cX6_roomFor 10 = .ok (.aload_n 0, 1) := by decide +kernel
theorem dX6_roomFor_11 : decode cX6_roomFor 11 = .ok (.getfield 227, 3) := by decide +kernel
theorem dX6_roomFor_14 : decode cX6_roomFor 14 = .ok (.ifCond .ne 7, 3) := by decide +kernel
theorem dX6_roomFor_17 : decode cX6_roomFor 17 = .ok (.aload_n 0, 1) := by decide +kernel
theorem dX6_roomFor_18 : decode cX6_roomFor 18 = .ok (.invokevirtual 248, 3) := by decide +kernel
theorem dX6_roomFor_21 : decode cX6_roomFor 21 = .ok (.return_, 1) := by decide +kernel
abbrev rm_X6_roomFor : Room := { frames := 2, cells := 0, slots := 0, locals := 41 }
def f_X6_roomFor_J10 (S : St)  : Option (St) :=
  if (st_I S (ky 0 13)) = 0 then ((f_X6_goesOn  S ).bind (fun (q3 : St) => some q3)) else (some S)
def f_X6_roomFor (S : St) (x1 : Int32) (x2 : Int32) : Option (St) :=
  if x1 = x2 then ((f_X6_fail  S (2 : Int32)).bind (fun (q4 : St) => f_X6_roomFor_J10  q4 )) else (f_X6_roomFor_J10  S )
set_option maxRecDepth 100000 in
set_option maxHeartbeats 4000000 in
theorem k_X6_roomFor (l : Launch) (g : GG) (hg : gd wd_M g)  (hM : hs wd_M g 0 6) (S : St) (x1 : Int32) (x2 : Int32) (q : St) (hf : f_X6_roomFor  S x1 x2 = some q) : Met l yX6_roomFor (Cond.code yX6_roomFor cX6_roomFor 3 none :: gw_tbl) rm_X6_roomFor (va_Pc [.ref (gg_o g 0), .int x1, .int x2] (wI wd_M g S)) (qc_v wd_M g q) 0 0 (aw g) := by
  refine mt_start (own := RX6) hg (by decide) rfl (Nat.le_of_ble_eq_true rfl) (fun p e s m args below meth c ls H locs cx hw hr hlk hl => ?_)
  have hx := cx.1
  have hb := cx.2.1
  have hown := cx.2.2.2.1
  have hts := cx.2.2.2.2.1
  have hl : lv_has ls 3 [(0, .ref (gg_o g 0)), (1, .int x1), (2, .int x2)] := hl
  replace hf := h_top hf
  unfold f_X6_roomFor at hf
  have J10 : ∀ (ls : Array Slot) (H : Heap) (locs : List Loc) (S : St) , lv_has ls 3 [(0, .ref (gg_o g 0))] → HH wd_M g s S H locs → (f_X6_roomFor_J10  S ).bind some = some q → W p l e rm_X6_roomFor s m args below meth c H locs 0 0 (MQ below (qc_v wd_M g q) args s 0 0 (aw g)) (F0 m 10 ls []) := by
    intro ls H locs S  hl hw hf
    unfold f_X6_roomFor_J10 at hf
    refine lv_aload_n hx hb dX6_roomFor_10 rfl (lv_at hl 0 rfl) ?_
    refine gf_X6_227 cx hw hM dX6_roomFor_11 ?_
    refine lv_if_ne hx hb dX6_roomFor_14 (tgt := 21) rfl (fun hc2 => ?_) (fun hc2 => ?_)
    · replace hf := h_neg hc2 hf
      exact r_vret cx hw hr hlk hf dX6_roomFor_21
    replace hf := h_pos hc2 hf
    refine lv_aload_n hx hb dX6_roomFor_17 rfl (lv_at hl 0 rfl) ?_
    refine r_V_v (As := []) (rest := []) cx hw hf hM.2.1 (by rw [hM.1]; rfl) lk_X6_248 (fun q3 hq => k_X6_goesOn l g hg  hM S  q3 hq) ⟨⟨rfl, rfl⟩, Nat.le_of_ble_eq_true rfl, Nat.le_of_ble_eq_true rfl⟩ rfl hl.1 rfl (Nat.le_of_ble_eq_true rfl) dX6_roomFor_18 ⟨Nat.zero_le _, Nat.zero_le _⟩ (fun q3 H locs hw hf => ?_)
    exact r_vret cx hw hr hlk hf dX6_roomFor_21
  refine lv_iload_n hx hb dX6_roomFor_0 rfl (lv_at hl 1 rfl) ?_
  refine lv_iload_n hx hb dX6_roomFor_1 rfl (lv_at hl 2 rfl) ?_
  refine lv_icmp_ne hx hb dX6_roomFor_2 (tgt := 10) rfl (fun hc1 => ?_) (fun hc1 => ?_)
  · replace hf := h_neg hc1 hf
    exact J10 _ _ _ S (lv_sub hl [0] rfl) hw hf
  replace hf := h_pos hc1 hf
  refine lv_aload_n hx hb dX6_roomFor_5 rfl (lv_at hl 0 rfl) ?_
  refine lv_iconst (v := 2) hx hb dX6_roomFor_6 (by decide) ?_
  refine r_V_v (As := [.int (2 : Int32)]) (rest := []) cx hw hf hM.2.1 (by rw [hM.1]; rfl) lk_X6_242 (fun q4 hq => k_X6_fail l g hg  hM S (2 : Int32) q4 hq) ⟨⟨rfl, rfl⟩, Nat.le_of_ble_eq_true rfl, Nat.le_of_ble_eq_true rfl⟩ rfl hl.1 rfl (Nat.le_of_ble_eq_true rfl) dX6_roomFor_7 ⟨Nat.zero_le _, Nat.zero_le _⟩ (fun q4 H locs hw hf => ?_)
  exact J10 _ _ _ q4 (lv_sub hl [0] rfl) hw hf
theorem dX6_named_0 : decode cX6_named 0 = .ok (.aload_n 0, 1) := by decide +kernel
theorem dX6_named_1 : decode cX6_named 1 = .ok (.getfield 230, 3) := by decide +kernel
theorem dX6_named_4 : decode cX6_named 4 = .ok (.istore_n 1, 1) := by decide +kernel
theorem dX6_named_5 : decode cX6_named 5 = .ok (.aload_n 0, 1) := by decide +kernel
theorem dX6_named_6 : decode cX6_named 6 = .ok (.iconst 1, 1) := by decide +kernel
theorem dX6_named_7 : decode cX6_named 7 = .ok (.invokevirtual 289, 3) := by decide +kernel
theorem dX6_named_10 : decode cX6_named 10 = .ok (.iconst 0, 1) := by decide +kernel
theorem dX6_named_11 : decode cX6_named 11 = .ok (.istore_n 2, 1) := by decide +kernel
theorem dX6_named_12 : decode cX6_named 12 = .ok (.iload_n 2, 1) := by decide +kernel
theorem dX6_named_13 : decode cX6_named 13 = .ok (.aload_n 0, 1) := by decide +kernel
theorem dX6_named_14 : decode cX6_named 14 = .ok (.getfield 263, 3) := by decide +kernel
theorem dX6_named_17 : decode cX6_named 17 = .ok (.if_icmp .ge 38, 3) := by decide +kernel
theorem dX6_named_20 : decode cX6_named 20 = .ok (.aload_n 0, 1) := by decide +kernel
theorem dX6_named_21 : decode cX6_named 21 = .ok (.getfield 227, 3) := by decide +kernel
theorem dX6_named_24 : decode cX6_named 24 = .ok (.ifCond .ne 31, 3) := by decide +kernel
theorem dX6_named_27 : decode cX6_named 27 = .ok (.aload_n 0, 1) := by decide +kernel
theorem dX6_named_28 : decode cX6_named 28 = .ok (.getfield 40, 3) := by decide +kernel
theorem dX6_named_31 : decode cX6_named 31 = .ok (.iload_n 2, 1) := by decide +kernel
theorem dX6_named_32 : decode cX6_named 32 = .ok (.laload, 1) := by decide +kernel
theorem dX6_named_33 : decode cX6_named 33 = .ok (.aload_n 0, 1) := by decide +kernel
theorem dX6_named_34 : decode cX6_named 34 = .ok (.getfield 30, 3) := by decide +kernel
theorem dX6_named_37 : decode cX6_named 37 = .ok (.iload_n 1, 1) := by decide +kernel
theorem dX6_named_38 : decode cX6_named 38 = .ok (.laload, 1) := by decide +kernel
theorem dX6_named_39 : decode cX6_named 39 = .ok (.lcmp, 1) := by decide +kernel
theorem dX6_named_40 : decode cX6_named 40 = .ok (.ifCond .ne 9, 3) := by decide +kernel
theorem dX6_named_43 : decode cX6_named 43 = .ok (.aload_n 0, 1) := by decide +kernel
theorem dX6_named_44 : decode cX6_named 44 = .ok (.iconst 3, 1) := by decide +kernel
theorem dX6_named_45 : decode cX6_named 45 = .ok (.iload_n 1, 1) := by decide +kernel
theorem dX6_named_46 : decode cX6_named 46 = .ok (.invokevirtual 315, 3) := by decide +kernel
theorem dX6_named_49 : decode cX6_named 49 = .ok (.iinc 2 1, 3) := by decide +kernel
theorem dX6_named_52 : decode cX6_named 52 = .ok (.goto (-40), 3) := by decide +kernel
theorem dX6_named_55 : decode cX6_named 55 = .ok (.iload_n 1, 1) := by decide +kernel
theorem dX6_named_56 : decode cX6_named 56 = .ok (.ireturn, 1) := by decide +kernel
abbrev rm_X6_named : Room := { frames := 3, cells := 0, slots := 0, locals := 62 }
def f_X6_named_L12 (x1 : Int32) (z12 : Int32 × St) : Option ((Int32 × St) ⊕ (Int32 × St)) :=
  if (st_I z12.2 (ky 0 20)) ≤ z12.1 then (some (.inr (x1, z12.2))) else (if (st_I z12.2 (ky 0 13)) = 0 then (chk (ib z12.1 22) (chk (ib x1 403) (if (lg_cmp (st_L z12.2 (ky 0 21) z12.1.toNatClampNeg) (st_L z12.2 (ky 0 8) x1.toNatClampNeg)) = 0 then ((f_X6_wrong  z12.2 (3 : Int32) x1).bind (fun (q5 : St) => some (.inl ((z12.1 + 1), q5)))) else (some (.inl ((z12.1 + 1), z12.2)))))) else (some (.inr (x1, z12.2))))
def f_X6_named (S : St)  : Option (Int32 × St) :=
  (f_X6_must  S (1 : Int32)).bind (fun (q1 : St) => iter (f_X6_named_L12   (st_I S (ky 0 11))) FU ((0 : Int32), q1))
set_option maxRecDepth 100000 in
set_option maxHeartbeats 4000000 in
theorem k_X6_named (l : Launch) (g : GG) (hg : gd wd_M g)  (hM : hs wd_M g 0 6) (S : St)  (q : Int32 × St) (hf : f_X6_named  S  = some q) : Met l yX6_named (Cond.code yX6_named cX6_named 3 (some .int) :: gw_tbl) rm_X6_named (va_Pc [.ref (gg_o g 0)] (wI wd_M g S)) (qc_w wd_M g q) 0 0 (aw g) := by
  refine mt_start (own := RX6) hg (by decide) rfl (Nat.le_of_ble_eq_true rfl) (fun p e s m args below meth c ls H locs cx hw hr hlk hl => ?_)
  have hx := cx.1
  have hb := cx.2.1
  have hown := cx.2.2.2.1
  have hts := cx.2.2.2.2.1
  have hl : lv_has ls 3 [(0, .ref (gg_o g 0))] := hl
  replace hf := h_top hf
  unfold f_X6_named at hf
  refine lv_aload_n hx hb dX6_named_0 rfl (lv_at hl 0 rfl) ?_
  refine gf_X6_230 cx hw hM dX6_named_1 ?_
  refine lv_istore_n hx hb dX6_named_4 rfl hl (by decide) (lv' := [(1, .int (st_I S (ky 0 11))), (0, .ref (gg_o g 0))]) rfl (fun ls hl => ?_)
  refine lv_aload_n hx hb dX6_named_5 rfl (lv_at hl 1 rfl) ?_
  refine lv_iconst (v := 1) hx hb dX6_named_6 (by decide) ?_
  refine r_V_v (As := [.int (1 : Int32)]) (rest := []) cx hw hf hM.2.1 (by rw [hM.1]; rfl) lk_X6_289 (fun q1 hq => k_X6_must l g hg  hM S (1 : Int32) q1 hq) ⟨⟨rfl, rfl⟩, Nat.le_of_ble_eq_true rfl, Nat.le_of_ble_eq_true rfl⟩ rfl hl.1 rfl (Nat.le_of_ble_eq_true rfl) dX6_named_7 ⟨Nat.zero_le _, Nat.zero_le _⟩ (fun q1 H locs hw hf => ?_)
  refine lv_iconst (v := 0) hx hb dX6_named_10 (by decide) ?_
  refine lv_istore_n hx hb dX6_named_11 rfl hl (by decide) (lv' := [(2, .int (0 : Int32)), (1, .int (st_I S (ky 0 11))), (0, .ref (gg_o g 0))]) rfl (fun ls hl => ?_)
  have L12 : ∀ (x1 : Int32) (aft12 : (Int32 × St) → Option (Int32 × St)), (∀ v : Int32 × St, aft12 v = some q → (some v : Option (Int32 × St)).bind some = some q) → ∀ (n12 : Nat) (ls : Array Slot) (H : Heap) (locs : List Loc) (z12 : Int32 × St), lv_has ls 3 [(0, .ref (gg_o g 0)), (1, .int x1), (2, .int z12.1)] → HH wd_M g s z12.2 H locs → (iter (f_X6_named_L12   x1) n12 z12).bind aft12 = some q → W p l e rm_X6_named s m args below meth c H locs 0 0 (MQ below (qc_w wd_M g q) args s 0 0 (aw g)) (F0 m 12 ls []) := by
    intro x1 aft12 hR12 n12
    induction n12 with
    | zero => intro ls H locs z12 hl hw hf; exact h_iter0 hf
    | succ n12 ih12 =>
      intro ls H locs z12 hl hw hf
      replace hf := h_iter hf
      unfold f_X6_named_L12 at hf
      refine lv_iload_n hx hb dX6_named_12 rfl (lv_at hl 2 rfl) ?_
      refine lv_aload_n hx hb dX6_named_13 rfl (lv_at hl 0 rfl) ?_
      refine gf_X6_263 cx hw hM dX6_named_14 ?_
      refine lv_icmp_ge hx hb dX6_named_17 (tgt := 55) rfl (fun hc2 => ?_) (fun hc2 => ?_)
      · replace hf := h_pos hc2 hf
        refine lv_iload_n hx hb dX6_named_55 rfl (lv_at hl 1 rfl) ?_
        replace hf := hR12 (x1, z12.2) hf
        exact r_iretw cx hw hr hlk hf dX6_named_56
      replace hf := h_neg hc2 hf
      refine lv_aload_n hx hb dX6_named_20 rfl (lv_at hl 0 rfl) ?_
      refine gf_X6_227 cx hw hM dX6_named_21 ?_
      refine lv_if_ne hx hb dX6_named_24 (tgt := 55) rfl (fun hc3 => ?_) (fun hc3 => ?_)
      · replace hf := h_neg hc3 hf
        refine lv_iload_n hx hb dX6_named_55 rfl (lv_at hl 1 rfl) ?_
        replace hf := hR12 (x1, z12.2) hf
        exact r_iretw cx hw hr hlk hf dX6_named_56
      replace hf := h_pos hc3 hf
      refine lv_aload_n hx hb dX6_named_27 rfl (lv_at hl 0 rfl) ?_
      refine gf_X6_40 cx hw hM dX6_named_28 ?_
      refine lv_iload_n hx hb dX6_named_31 rfl (lv_at hl 2 rfl) ?_
      refine r_lald cx hw (hM.2.2.2.1 21 rfl) rfl hf dX6_named_32 (fun hf => ?_)
      refine lv_aload_n hx hb dX6_named_33 rfl (lv_at hl 0 rfl) ?_
      refine gf_X6_30 cx hw hM dX6_named_34 ?_
      refine lv_iload_n hx hb dX6_named_37 rfl (lv_at hl 1 rfl) ?_
      refine r_lald cx hw (hM.2.2.2.1 8 rfl) rfl hf dX6_named_38 (fun hf => ?_)
      refine W.lcmp hx hb dX6_named_39 ?_
      refine lv_if_ne hx hb dX6_named_40 (tgt := 49) rfl (fun hc4 => ?_) (fun hc4 => ?_)
      · replace hf := h_neg hc4 hf
        refine lv_iinc hx hb dX6_named_49 hl (k := 2) rfl (congrArg (HAdd.hAdd _) (show Int32.ofInt (1) = 1 by decide)) (by decide) (lv' := [(2, .int (z12.1 + 1)), (0, .ref (gg_o g 0)), (1, .int x1)]) rfl (fun ls hl => ?_)
        refine lv_goto hx hb dX6_named_52 (tgt := 12) rfl ?_
        exact ih12 _ _ _ ((z12.1 + 1), z12.2) (lv_sub hl [1, 2, 0] rfl) hw hf
      replace hf := h_pos hc4 hf
      refine lv_aload_n hx hb dX6_named_43 rfl (lv_at hl 0 rfl) ?_
      refine lv_iconst (v := 3) hx hb dX6_named_44 (by decide) ?_
      refine lv_iload_n hx hb dX6_named_45 rfl (lv_at hl 1 rfl) ?_
      refine r_V_v (As := [.int (3 : Int32), .int x1]) (rest := []) cx hw hf hM.2.1 (by rw [hM.1]; rfl) lk_X6_315 (fun q5 hq => k_X6_wrong l g hg  hM z12.2 (3 : Int32) x1 q5 hq) ⟨⟨rfl, rfl⟩, Nat.le_of_ble_eq_true rfl, Nat.le_of_ble_eq_true rfl⟩ rfl hl.1 rfl (Nat.le_of_ble_eq_true rfl) dX6_named_46 ⟨Nat.zero_le _, Nat.zero_le _⟩ (fun q5 H locs hw hf => ?_)
      refine lv_iinc hx hb dX6_named_49 hl (k := 2) rfl (congrArg (HAdd.hAdd _) (show Int32.ofInt (1) = 1 by decide)) (by decide) (lv' := [(2, .int (z12.1 + 1)), (0, .ref (gg_o g 0)), (1, .int x1)]) rfl (fun ls hl => ?_)
      refine lv_goto hx hb dX6_named_52 (tgt := 12) rfl ?_
      exact ih12 _ _ _ ((z12.1 + 1), q5) (lv_sub hl [1, 2, 0] rfl) hw hf
  exact L12 (st_I S (ky 0 11)) some (fun v h => h) FU _ _ _ ((0 : Int32), q1) (lv_sub hl [2, 1, 0] rfl) hw hf
theorem dX6_notes_0 : decode cX6_notes 0 = .ok (.aload_n 0, 1) := by decide +kernel
theorem dX6_notes_1 : decode cX6_notes 1 = .ok (.getfield 40, 3) := by decide +kernel
theorem dX6_notes_4 : decode cX6_notes 4 = .ok (.aload_n 0, 1) := by decide +kernel
theorem dX6_notes_5 : decode cX6_notes 5 = .ok (.getfield 263, 3) := by decide +kernel
theorem dX6_notes_8 : decode cX6_notes 8 = .ok (.aload_n 0, 1) := by decide +kernel
theorem dX6_notes_9 : decode cX6_notes 9 = .ok (.getfield 30, 3) := by decide +kernel
theorem dX6_notes_12 : decode cX6_notes 12 = .ok (.iload_n 1, 1) := by decide +kernel
theorem dX6_notes_13 : decode cX6_notes 13 = .ok (.laload, 1) := by decide +kernel
theorem dX6_notes_14 : decode cX6_notes 14 = .ok (.lastore, 1) := by decide +kernel
theorem dX6_notes_15 : decode cX6_notes 15 = .ok (.aload_n 0, 1) := by decide +kernel
theorem dX6_notes_16 : decode cX6_notes 16 = .ok (.getfield 43, 3) := by decide +kernel
theorem dX6_notes_19 : decode cX6_notes 19 = .ok (.aload_n 0, 1) := by decide +kernel
theorem dX6_notes_20 : decode cX6_notes 20 = .ok (.getfield 263, 3) := by decide +kernel
theorem dX6_notes_23 : decode cX6_notes 23 = .ok (.iload_n 2, 1) := by decide +kernel
theorem dX6_notes_24 : decode cX6_notes 24 = .ok (.iastore, 1) := by decide +kernel
theorem dX6_notes_25 : decode cX6_notes 25 = .ok (.aload_n 0, 1) := by decide +kernel
theorem dX6_notes_26 : decode cX6_notes 26 = .ok (.getfield 46, 3) := by decide +kernel
theorem dX6_notes_29 : decode cX6_notes 29 = .ok (.aload_n 0, 1) := by decide +kernel
theorem dX6_notes_30 : decode cX6_notes 30 = .ok (.getfield 263, 3) := by decide +kernel
theorem dX6_notes_33 : decode cX6_notes 33 = .ok (.iload_n 3, 1) := by decide +kernel
theorem dX6_notes_34 : decode cX6_notes 34 = .ok (.iastore, 1) := by decide +kernel
theorem dX6_notes_35 : decode cX6_notes 35 = .ok (.aload_n 0, 1) := by decide +kernel
theorem dX6_notes_36 : decode cX6_notes 36 = .ok (.dup, 1) := by decide +kernel
theorem dX6_notes_37 : decode cX6_notes 37 = .ok (.getfield 263, 3) := by decide +kernel
theorem dX6_notes_40 : decode cX6_notes 40 = .ok (.iconst 1, 1) := by decide +kernel
theorem dX6_notes_41 : decode cX6_notes 41 = .ok (.iadd, 1) := by decide +kernel
theorem dX6_notes_42 : decode cX6_notes 42 = .ok (.putfield 263, 3) := by decide +kernel
theorem dX6_notes_45 : decode cX6_notes 45 = .ok (.return_, 1) := by decide +kernel
abbrev rm_X6_notes : Room := { frames := 0, cells := 0, slots := 0, locals := 0 }
def f_X6_notes (S : St) (x1 : Int32) (x2 : Int32) (x3 : Int32) : Option (St) :=
  chk (ib x1 403) (chk (ib (st_I S (ky 0 20)) 22) (lt_v (up_L S (ky 0 21) (vp_updL (st_L S (ky 0 21)) (st_I S (ky 0 20)).toNatClampNeg (st_L S (ky 0 8) x1.toNatClampNeg))) (fun (S1 : St) => chk (ib (st_I S1 (ky 0 20)) 22) (lt_v (up_A S1 (ky 0 22) (upd (st_A S1 (ky 0 22)) (st_I S1 (ky 0 20)).toNatClampNeg x2)) (fun (S2 : St) => chk (ib (st_I S2 (ky 0 20)) 22) (lt_v (up_A S2 (ky 0 23) (upd (st_A S2 (ky 0 23)) (st_I S2 (ky 0 20)).toNatClampNeg x3)) (fun (S3 : St) => lt_v (up_I S3 (ky 0 20) ((st_I S3 (ky 0 20)) + (1 : Int32))) (fun (S4 : St) => some S4))))))))
set_option maxRecDepth 100000 in
set_option maxHeartbeats 4000000 in
theorem k_X6_notes (l : Launch) (g : GG) (hg : gd wd_M g)  (hM : hs wd_M g 0 6) (S : St) (x1 : Int32) (x2 : Int32) (x3 : Int32) (q : St) (hf : f_X6_notes  S x1 x2 x3 = some q) : Met l yX6_notes (Cond.code yX6_notes cX6_notes 4 none :: gw_tbl) rm_X6_notes (va_Pc [.ref (gg_o g 0), .int x1, .int x2, .int x3] (wI wd_M g S)) (qc_v wd_M g q) 0 0 (aw g) := by
  refine mt_start (own := RX6) hg (by decide) rfl (Nat.le_of_ble_eq_true rfl) (fun p e s m args below meth c ls H locs cx hw hr hlk hl => ?_)
  have hx := cx.1
  have hb := cx.2.1
  have hown := cx.2.2.2.1
  have hts := cx.2.2.2.2.1
  have hl : lv_has ls 4 [(0, .ref (gg_o g 0)), (1, .int x1), (2, .int x2), (3, .int x3)] := hl
  replace hf := h_top hf
  unfold f_X6_notes at hf
  refine lv_aload_n hx hb dX6_notes_0 rfl (lv_at hl 0 rfl) ?_
  refine gf_X6_40 cx hw hM dX6_notes_1 ?_
  refine lv_aload_n hx hb dX6_notes_4 rfl (lv_at hl 0 rfl) ?_
  refine gf_X6_263 cx hw hM dX6_notes_5 ?_
  refine lv_aload_n hx hb dX6_notes_8 rfl (lv_at hl 0 rfl) ?_
  refine gf_X6_30 cx hw hM dX6_notes_9 ?_
  refine lv_iload_n hx hb dX6_notes_12 rfl (lv_at hl 1 rfl) ?_
  refine r_lald cx hw (hM.2.2.2.1 8 rfl) rfl hf dX6_notes_13 (fun hf => ?_)
  refine r_last cx hw (hM.2.2.2.1 21 rfl) rfl hf dX6_notes_14 (fun S1 H locs hw hf => ?_)
  refine lv_aload_n hx hb dX6_notes_15 rfl (lv_at hl 0 rfl) ?_
  refine gf_X6_43 cx hw hM dX6_notes_16 ?_
  refine lv_aload_n hx hb dX6_notes_19 rfl (lv_at hl 0 rfl) ?_
  refine gf_X6_263 cx hw hM dX6_notes_20 ?_
  refine lv_iload_n hx hb dX6_notes_23 rfl (lv_at hl 2 rfl) ?_
  refine r_iast cx hw (hM.2.2.1 22 rfl) rfl rfl hf dX6_notes_24 (fun S2 H locs hw hf => ?_)
  refine lv_aload_n hx hb dX6_notes_25 rfl (lv_at hl 0 rfl) ?_
  refine gf_X6_46 cx hw hM dX6_notes_26 ?_
  refine lv_aload_n hx hb dX6_notes_29 rfl (lv_at hl 0 rfl) ?_
  refine gf_X6_263 cx hw hM dX6_notes_30 ?_
  refine lv_iload_n hx hb dX6_notes_33 rfl (lv_at hl 3 rfl) ?_
  refine r_iast cx hw (hM.2.2.1 23 rfl) rfl rfl hf dX6_notes_34 (fun S3 H locs hw hf => ?_)
  refine lv_aload_n hx hb dX6_notes_35 rfl (lv_at hl 0 rfl) ?_
  refine lv_dup hx hb dX6_notes_36 rfl ?_
  refine gf_X6_263 cx hw hM dX6_notes_37 ?_
  refine lv_iconst (v := 1) hx hb dX6_notes_40 (by decide) ?_
  refine lv_iadd hx hb dX6_notes_41 ?_
  refine pf_X6_263 cx hw hM hf dX6_notes_42 (fun S4 H locs hw hf => ?_)
  exact r_vret cx hw hr hlk hf dX6_notes_45
theorem dX6_known_0 : decode cX6_known 0 = .ok (.aload_n 0, 1) := by decide +kernel
theorem dX6_known_1 : decode cX6_known 1 = .ok (.getfield 230, 3) := by decide +kernel
theorem dX6_known_4 : decode cX6_known 4 = .ok (.istore_n 2, 1) := by decide +kernel
theorem dX6_known_5 : decode cX6_known 5 = .ok (.aload_n 0, 1) := by decide +kernel
theorem dX6_known_6 : decode cX6_known 6 = .ok (.iconst 1, 1) := by decide +kernel
theorem dX6_known_7 : decode cX6_known 7 = .ok (.invokevirtual 289, 3) := by decide +kernel
theorem dX6_known_10 : decode cX6_known 10 = .ok (.aload_n 0, 1) := by decide +kernel
theorem dX6_known_11 : decode cX6_known 11 = .ok (.getfield 227, 3) := by decide +kernel
theorem dX6_known_14 : decode cX6_known 14 = .ok (.ifCond .le 5, 3) := by decide +kernel
theorem dX6_known_17 : decode cX6_known 17 = .ok (.iconst (-1), 1) := by decide +kernel
theorem dX6_known_18 : decode cX6_known 18 = .ok (.ireturn, 1) := by decide +kernel
theorem dX6_known_19 : decode cX6_known 19 = .ok (.iconst 0, 1) := by decide +kernel
theorem dX6_known_20 : decode cX6_known 20 = .ok (.istore_n 3, 1) := by decide +kernel
theorem dX6_known_21 : decode cX6_known 21 = .ok (.iload_n 3, 1) := by decide +kernel
theorem dX6_known_22 : decode cX6_known 22 = .ok (.aload_n 0, 1) := by decide +kernel
theorem dX6_known_23 : decode cX6_known 23 = .ok (.getfield 263, 3) := by decide +kernel
theorem dX6_known_26 : decode cX6_known 26 = .ok (.if_icmp .ge 42, 3) := by decide +kernel
theorem dX6_known_29 : decode cX6_known 29 = .ok (.aload_n 0, 1) := by decide +kernel
theorem dX6_known_30 : decode cX6_known 30 = .ok (.getfield 40, 3) := by decide +kernel
theorem dX6_known_33 : decode cX6_known 33 = .ok (.iload_n 3, 1) := by decide +kernel
theorem dX6_known_34 : decode cX6_known 34 = .ok (.laload, 1) := by decide +kernel
theorem dX6_known_35 : decode cX6_known 35 = .ok (.aload_n 0, 1) := by decide +kernel
theorem dX6_known_36 : decode cX6_known 36 = .ok (.getfield 30, 3) := by decide +kernel
theorem dX6_known_39 : decode cX6_known 39 = .ok (.iload_n 2, 1) := by decide +kernel
theorem dX6_known_40 : decode cX6_known 40 = .ok (.laload, 1) := by decide +kernel
theorem dX6_known_41 : decode cX6_known 41 = .ok (.lcmp, 1) := by decide +kernel
theorem dX6_known_42 : decode cX6_known 42 = .ok (.ifCond .ne 20, 3) := by decide +kernel
theorem dX6_known_45 : decode cX6_known 45 = .ok (.aload_n 0, 1) := by decide +kernel
theorem dX6_known_46 : decode cX6_known 46 = .ok (.getfield 43, 3) := by decide +kernel
theorem dX6_known_49 : decode cX6_known 49 = .ok (.iload_n 3, 1) := by decide +kernel
theorem dX6_known_50 : decode cX6_known 50 = .ok (.iaload, 1) := by decide +kernel
theorem dX6_known_51 : decode cX6_known 51 = .ok (.iload_n 1, 1) := by decide +kernel
theorem dX6_known_52 : decode cX6_known 52 = .ok (.if_icmp .ne 10, 3) := by decide +kernel
theorem dX6_known_55 : decode cX6_known 55 = .ok (.aload_n 0, 1) := by decide +kernel
theorem dX6_known_56 : decode cX6_known 56 = .ok (.getfield 46, 3) := by decide +kernel
theorem dX6_known_59 : decode cX6_known 59 = .ok (.iload_n 3, 1) := by decide +kernel
theorem dX6_known_60 : decode cX6_known 60 = .ok (.iaload, 1) := by decide +kernel
theorem dX6_known_61 : decode cX6_known 61 = .ok (.ireturn, 1) := by decide +kernel
theorem dX6_known_62 : decode cX6_known 62 = .ok (.iinc 3 1, 3) := by decide +kernel
theorem dX6_known_65 : decode cX6_known 65 = .ok (.goto (-44), 3) := by decide +kernel
theorem dX6_known_68 : decode cX6_known 68 = .ok (.aload_n 0, 1) := by decide +kernel
theorem dX6_known_69 : decode cX6_known 69 = .ok (.iconst 4, 1) := by decide +kernel
theorem dX6_known_70 : decode cX6_known 70 = .ok (.iload_n 2, 1) := by decide +kernel
theorem dX6_known_71 : decode cX6_known 71 = .ok (.invokevirtual 315, 3) := by decide +kernel
theorem dX6_known_74 : decode cX6_known 74 = .ok (.iconst (-1), 1) := by decide +kernel
theorem dX6_known_75 : decode cX6_known 75 = .ok (.ireturn, 1) := by decide +kernel
abbrev rm_X6_known : Room := { frames := 3, cells := 0, slots := 0, locals := 62 }
def f_X6_known_L21 (S : St) (x1 : Int32) (x2 : Int32) (z21 : Int32) : Option ((Int32) ⊕ ((Unit) ⊕ (Int32 × St))) :=
  if (st_I S (ky 0 20)) ≤ z21 then (some (.inr (.inl ()))) else (chk (ib z21 22) (chk (ib x2 403) (if (lg_cmp (st_L S (ky 0 21) z21.toNatClampNeg) (st_L S (ky 0 8) x2.toNatClampNeg)) = 0 then (chk (ib z21 22) (if (st_A S (ky 0 22) z21.toNatClampNeg) = x1 then (chk (ib z21 22) (some (.inr (.inr ((st_A S (ky 0 23) z21.toNatClampNeg), S))))) else (some (.inl (z21 + 1))))) else (some (.inl (z21 + 1))))))
def f_X6_known (S : St) (x1 : Int32) : Option (Int32 × St) :=
  (f_X6_must  S (1 : Int32)).bind (fun (q1 : St) => if (st_I q1 (ky 0 13)) ≤ 0 then ((iter (f_X6_known_L21  q1 x1 (st_I S (ky 0 11))) FU (0 : Int32)).bind fun z => match z with | .inl z => (fun _ => (f_X6_wrong  q1 (4 : Int32) (st_I S (ky 0 11))).bind (fun (q6 : St) => some ((-1 : Int32), q6))) z | .inr v8 => some v8) else (some ((-1 : Int32), q1)))
set_option maxRecDepth 100000 in
set_option maxHeartbeats 4000000 in
theorem k_X6_known (l : Launch) (g : GG) (hg : gd wd_M g)  (hM : hs wd_M g 0 6) (S : St) (x1 : Int32) (q : Int32 × St) (hf : f_X6_known  S x1 = some q) : Met l yX6_known (Cond.code yX6_known cX6_known 4 (some .int) :: gw_tbl) rm_X6_known (va_Pc [.ref (gg_o g 0), .int x1] (wI wd_M g S)) (qc_w wd_M g q) 0 0 (aw g) := by
  refine mt_start (own := RX6) hg (by decide) rfl (Nat.le_of_ble_eq_true rfl) (fun p e s m args below meth c ls H locs cx hw hr hlk hl => ?_)
  have hx := cx.1
  have hb := cx.2.1
  have hown := cx.2.2.2.1
  have hts := cx.2.2.2.2.1
  have hl : lv_has ls 4 [(0, .ref (gg_o g 0)), (1, .int x1)] := hl
  replace hf := h_top hf
  unfold f_X6_known at hf
  refine lv_aload_n hx hb dX6_known_0 rfl (lv_at hl 0 rfl) ?_
  refine gf_X6_230 cx hw hM dX6_known_1 ?_
  refine lv_istore_n hx hb dX6_known_4 rfl hl (by decide) (lv' := [(2, .int (st_I S (ky 0 11))), (0, .ref (gg_o g 0)), (1, .int x1)]) rfl (fun ls hl => ?_)
  refine lv_aload_n hx hb dX6_known_5 rfl (lv_at hl 1 rfl) ?_
  refine lv_iconst (v := 1) hx hb dX6_known_6 (by decide) ?_
  refine r_V_v (As := [.int (1 : Int32)]) (rest := []) cx hw hf hM.2.1 (by rw [hM.1]; rfl) lk_X6_289 (fun q1 hq => k_X6_must l g hg  hM S (1 : Int32) q1 hq) ⟨⟨rfl, rfl⟩, Nat.le_of_ble_eq_true rfl, Nat.le_of_ble_eq_true rfl⟩ rfl hl.1 rfl (Nat.le_of_ble_eq_true rfl) dX6_known_7 ⟨Nat.zero_le _, Nat.zero_le _⟩ (fun q1 H locs hw hf => ?_)
  refine lv_aload_n hx hb dX6_known_10 rfl (lv_at hl 1 rfl) ?_
  refine gf_X6_227 cx hw hM dX6_known_11 ?_
  refine lv_if_le hx hb dX6_known_14 (tgt := 19) rfl (fun hc2 => ?_) (fun hc2 => ?_)
  · replace hf := h_pos hc2 hf
    refine lv_iconst (v := 0) hx hb dX6_known_19 (by decide) ?_
    refine lv_istore_n hx hb dX6_known_20 rfl hl (by decide) (lv' := [(3, .int (0 : Int32)), (2, .int (st_I S (ky 0 11))), (0, .ref (gg_o g 0)), (1, .int x1)]) rfl (fun ls hl => ?_)
    have L21 : ∀ (S : St) (x1 : Int32) (x2 : Int32) (aft21 : ((Unit) ⊕ (Int32 × St)) → Option (Int32 × St)), (∀ (ls : Array Slot) (H : Heap) (locs : List Loc) , lv_has ls 4 [(0, .ref (gg_o g 0)), (2, .int x2)] → HH wd_M g s S H locs → aft21 (.inl ()) = some q → W p l e rm_X6_known s m args below meth c H locs 0 0 (MQ below (qc_w wd_M g q) args s 0 0 (aw g)) (F0 m 68 ls [])) → (∀ v : Int32 × St, aft21 (.inr v) = some q → (some v : Option (Int32 × St)).bind some = some q) → ∀ (n21 : Nat) (ls : Array Slot) (H : Heap) (locs : List Loc) (z21 : Int32), lv_has ls 4 [(0, .ref (gg_o g 0)), (1, .int x1), (2, .int x2), (3, .int z21)] → HH wd_M g s S H locs → (iter (f_X6_known_L21  S x1 x2) n21 z21).bind aft21 = some q → W p l e rm_X6_known s m args below meth c H locs 0 0 (MQ below (qc_w wd_M g q) args s 0 0 (aw g)) (F0 m 21 ls []) := by
      intro S x1 x2 aft21 hX21 hR21 n21
      induction n21 with
      | zero => intro ls H locs z21 hl hw hf; exact h_iter0 hf
      | succ n21 ih21 =>
        intro ls H locs z21 hl hw hf
        replace hf := h_iter hf
        unfold f_X6_known_L21 at hf
        refine lv_iload_n hx hb dX6_known_21 rfl (lv_at hl 3 rfl) ?_
        refine lv_aload_n hx hb dX6_known_22 rfl (lv_at hl 0 rfl) ?_
        refine gf_X6_263 cx hw hM dX6_known_23 ?_
        refine lv_icmp_ge hx hb dX6_known_26 (tgt := 68) rfl (fun hc3 => ?_) (fun hc3 => ?_)
        · replace hf := h_pos hc3 hf
          exact hX21 _ _ _ (lv_sub hl [0, 2] rfl) hw hf
        replace hf := h_neg hc3 hf
        refine lv_aload_n hx hb dX6_known_29 rfl (lv_at hl 0 rfl) ?_
        refine gf_X6_40 cx hw hM dX6_known_30 ?_
        refine lv_iload_n hx hb dX6_known_33 rfl (lv_at hl 3 rfl) ?_
        refine r_lald cx hw (hM.2.2.2.1 21 rfl) rfl hf dX6_known_34 (fun hf => ?_)
        refine lv_aload_n hx hb dX6_known_35 rfl (lv_at hl 0 rfl) ?_
        refine gf_X6_30 cx hw hM dX6_known_36 ?_
        refine lv_iload_n hx hb dX6_known_39 rfl (lv_at hl 2 rfl) ?_
        refine r_lald cx hw (hM.2.2.2.1 8 rfl) rfl hf dX6_known_40 (fun hf => ?_)
        refine W.lcmp hx hb dX6_known_41 ?_
        refine lv_if_ne hx hb dX6_known_42 (tgt := 62) rfl (fun hc4 => ?_) (fun hc4 => ?_)
        · replace hf := h_neg hc4 hf
          refine lv_iinc hx hb dX6_known_62 hl (k := 3) rfl (congrArg (HAdd.hAdd _) (show Int32.ofInt (1) = 1 by decide)) (by decide) (lv' := [(3, .int (z21 + 1)), (0, .ref (gg_o g 0)), (1, .int x1), (2, .int x2)]) rfl (fun ls hl => ?_)
          refine lv_goto hx hb dX6_known_65 (tgt := 21) rfl ?_
          exact ih21 _ _ _ (z21 + 1) (lv_sub hl [1, 2, 3, 0] rfl) hw hf
        replace hf := h_pos hc4 hf
        refine lv_aload_n hx hb dX6_known_45 rfl (lv_at hl 0 rfl) ?_
        refine gf_X6_43 cx hw hM dX6_known_46 ?_
        refine lv_iload_n hx hb dX6_known_49 rfl (lv_at hl 3 rfl) ?_
        refine r_iald cx hw (hM.2.2.1 22 rfl) rfl rfl hf dX6_known_50 (fun hf => ?_)
        refine lv_iload_n hx hb dX6_known_51 rfl (lv_at hl 1 rfl) ?_
        refine lv_icmp_ne hx hb dX6_known_52 (tgt := 62) rfl (fun hc5 => ?_) (fun hc5 => ?_)
        · replace hf := h_neg hc5 hf
          refine lv_iinc hx hb dX6_known_62 hl (k := 3) rfl (congrArg (HAdd.hAdd _) (show Int32.ofInt (1) = 1 by decide)) (by decide) (lv' := [(3, .int (z21 + 1)), (0, .ref (gg_o g 0)), (1, .int x1), (2, .int x2)]) rfl (fun ls hl => ?_)
          refine lv_goto hx hb dX6_known_65 (tgt := 21) rfl ?_
          exact ih21 _ _ _ (z21 + 1) (lv_sub hl [1, 2, 3, 0] rfl) hw hf
        replace hf := h_pos hc5 hf
        refine lv_aload_n hx hb dX6_known_55 rfl (lv_at hl 0 rfl) ?_
        refine gf_X6_46 cx hw hM dX6_known_56 ?_
        refine lv_iload_n hx hb dX6_known_59 rfl (lv_at hl 3 rfl) ?_
        refine r_iald cx hw (hM.2.2.1 23 rfl) rfl rfl hf dX6_known_60 (fun hf => ?_)
        replace hf := hR21 ((st_A S (ky 0 23) z21.toNatClampNeg), S) hf
        exact r_iretw cx hw hr hlk hf dX6_known_61
    refine L21 q1 x1 (st_I S (ky 0 11)) _ (fun ls H locs  hl hw hf => ?_) (fun v h => h) FU _ _ _ (0 : Int32) (lv_sub hl [2, 3, 1, 0] rfl) hw (h_assoc hf)
    try dsimp only at hf
    refine lv_aload_n hx hb dX6_known_68 rfl (lv_at hl 0 rfl) ?_
    refine lv_iconst (v := 4) hx hb dX6_known_69 (by decide) ?_
    refine lv_iload_n hx hb dX6_known_70 rfl (lv_at hl 1 rfl) ?_
    refine r_V_v (As := [.int (4 : Int32), .int (st_I S (ky 0 11))]) (rest := []) cx hw hf hM.2.1 (by rw [hM.1]; rfl) lk_X6_315 (fun q6 hq => k_X6_wrong l g hg  hM q1 (4 : Int32) (st_I S (ky 0 11)) q6 hq) ⟨⟨rfl, rfl⟩, Nat.le_of_ble_eq_true rfl, Nat.le_of_ble_eq_true rfl⟩ rfl hl.1 rfl (Nat.le_of_ble_eq_true rfl) dX6_known_71 ⟨Nat.zero_le _, Nat.zero_le _⟩ (fun q6 H locs hw hf => ?_)
    refine lv_iconst (v := -1) hx hb dX6_known_74 (by decide) ?_
    exact r_iretw cx hw hr hlk hf dX6_known_75
  replace hf := h_neg hc2 hf
  refine lv_iconst (v := -1) hx hb dX6_known_17 (by decide) ?_
  exact r_iretw cx hw hr hlk hf dX6_known_18
theorem dX6_tellDoor_0 : decode cX6_tellDoor 0 = .ok (.bipush 12, 2) := by decide +kernel
theorem dX6_tellDoor_2 : decode cX6_tellDoor 2 = .ok (.aload_n 0, 1) := by decide +kernel
theorem dX6_tellDoor_3 : decode cX6_tellDoor 3 = .ok (.getfield 260, 3) := by decide +kernel
theorem dX6_tellDoor_6 : decode cX6_tellDoor 6 = .ok (.imul, 1) := by decide +kernel
theorem dX6_tellDoor_7 : decode cX6_tellDoor 7 = .ok (.aload_n 0, 1) := by decide +kernel
theorem dX6_tellDoor_8 : decode cX6_tellDoor 8 = .ok (.getfield 52, 3) := by decide +kernel
theorem dX6_tellDoor_11 : decode cX6_tellDoor 11 = .ok (.aload_n 0, 1) := by decide +kernel
theorem dX6_tellDoor_12 : decode cX6_tellDoor 12 = .ok (.getfield 260, 3) := by decide +kernel
theorem dX6_tellDoor_15 : decode cX6_tellDoor 15 = .ok (.iaload, 1) := by decide +kernel
theorem dX6_tellDoor_16 : decode cX6_tellDoor 16 = .ok (.iadd, 1) := by decide +kernel
theorem dX6_tellDoor_17 : decode cX6_tellDoor 17 = .ok (.istore_n 1, 1) := by decide +kernel
theorem dX6_tellDoor_18 : decode cX6_tellDoor 18 = .ok (.aload_n 0, 1) := by decide +kernel
theorem dX6_tellDoor_19 : decode cX6_tellDoor 19 = .ok (.getfield 55, 3) := by decide +kernel
theorem dX6_tellDoor_22 : decode cX6_tellDoor 22 = .ok (.iload_n 1, 1) := by decide +kernel
theorem dX6_tellDoor_23 : decode cX6_tellDoor 23 = .ok (.aload_n 0, 1) := by decide +kernel
theorem dX6_tellDoor_24 : decode cX6_tellDoor 24 = .ok (.iconst 0, 1) := by decide +kernel
theorem dX6_tellDoor_25 : decode cX6_tellDoor 25 = .ok (.invokevirtual 302, 3) := by decide +kernel
theorem dX6_tellDoor_28 : decode cX6_tellDoor 28 = .ok (.iastore, 1) := by decide +kernel
theorem dX6_tellDoor_29 : decode cX6_tellDoor 29 = .ok (.aload_n 0, 1) := by decide +kernel
theorem dX6_tellDoor_30 : decode cX6_tellDoor 30 = .ok (.getfield 230, 3) := by decide +kernel
theorem dX6_tellDoor_33 : decode cX6_tellDoor 33 = .ok (.istore_n 2, 1) := by decide +kernel
theorem dX6_tellDoor_34 : decode cX6_tellDoor 34 = .ok (.aload_n 0, 1) := by decide +kernel
theorem dX6_tellDoor_35 : decode cX6_tellDoor 35 = .ok (.getfield 58, 3) := by decide +kernel
theorem dX6_tellDoor_38 : decode cX6_tellDoor 38 = .ok (.iload_n 1, 1) := by decide +kernel
theorem dX6_tellDoor_39 : decode cX6_tellDoor 39 = .ok (.aload_n 0, 1) := by decide +kernel
theorem dX6_tellDoor_40 : decode cX6_tellDoor 40 = .ok (.iconst 0, 1) := by decide +kernel
theorem dX6_tellDoor_41 : decode cX6_tellDoor 41 = .ok (.invokevirtual 302, 3) := by decide +kernel
theorem dX6_tellDoor_44 : decode cX6_tellDoor 44 = .ok (.iastore, 1) := by decide +kernel
theorem dX6_tellDoor_45 : decode cX6_tellDoor 45 = .ok (.aload_n 0, 1) := by decide +kernel
theorem dX6_tellDoor_46 : decode cX6_tellDoor 46 = .ok (.getfield 227, 3) := by decide +kernel
theorem dX6_tellDoor_49 : decode cX6_tellDoor 49 = .ok (.ifCond .ne 33, 3) := by decide +kernel
theorem dX6_tellDoor_52 : decode cX6_tellDoor 52 = .ok (.aload_n 0, 1) := by decide +kernel
theorem dX6_tellDoor_53 : decode cX6_tellDoor 53 = .ok (.getfield 58, 3) := by decide +kernel
theorem dX6_tellDoor_56 : decode cX6_tellDoor 56 = .ok (.iload_n 1, 1) := by decide +kernel
theorem dX6_tellDoor_57 : decode cX6_tellDoor 57 = .ok (.iaload, 1) := by decide +kernel
theorem dX6_tellDoor_58 : decode cX6_tellDoor 58 = .ok (.ifCond .lt 24, 3) := by decide +kernel
theorem dX6_tellDoor_61 : decode cX6_tellDoor 61 = .ok (.aload_n 0, 1) := by decide +kernel
theorem dX6_tellDoor_62 : decode cX6_tellDoor 62 = .ok (.getfield 58, 3) := by decide +kernel
theorem dX6_tellDoor_65 : decode cX6_tellDoor 65 = .ok (.iload_n 1, 1) := by decide +kernel
theorem dX6_tellDoor_66 : decode cX6_tellDoor 66 = .ok (.iaload, 1) := by decide +kernel
theorem dX6_tellDoor_67 : decode cX6_tellDoor 67 = .ok (.aload_n 0, 1) := by decide +kernel
theorem dX6_tellDoor_68 : decode cX6_tellDoor 68 = .ok (.getfield 55, 3) := by decide +kernel
theorem dX6_tellDoor_71 : decode cX6_tellDoor 71 = .ok (.iload_n 1, 1) := by decide +kernel
theorem dX6_tellDoor_72 : decode cX6_tellDoor 72 = .ok (.iaload, 1) := by decide +kernel
theorem dX6_tellDoor_73 : decode cX6_tellDoor 73 = .ok (.if_icmp .ne 9, 3) := by decide +kernel
theorem dX6_tellDoor_76 : decode cX6_tellDoor 76 = .ok (.aload_n 0, 1) := by decide +kernel
theorem dX6_tellDoor_77 : decode cX6_tellDoor 77 = .ok (.iconst 3, 1) := by decide +kernel
theorem dX6_tellDoor_78 : decode cX6_tellDoor 78 = .ok (.iload_n 2, 1) := by decide +kernel
theorem dX6_tellDoor_79 : decode cX6_tellDoor 79 = .ok (.invokevirtual 315, 3) := by decide +kernel
theorem dX6_tellDoor_82 : decode cX6_tellDoor 82 = .ok (.aload_n 0, 1) := by decide +kernel
theorem dX6_tellDoor_83 : decode cX6_tellDoor 83 = .ok (.iconst 4, 1) := by decide +kernel
theorem dX6_tellDoor_84 : decode cX6_tellDoor 84 = .ok (.invokevirtual 289, 3) := by decide +kernel
theorem dX6_tellDoor_87 : decode cX6_tellDoor 87 = .ok (.aload_n 0, 1) := by decide +kernel
theorem dX6_tellDoor_88 : decode cX6_tellDoor 88 = .ok (.getfield 227, 3) := by decide +kernel
theorem dX6_tellDoor_91 : decode cX6_tellDoor 91 = .ok (.ifCond .ne 16, 3) := by decide +kernel
theorem dX6_tellDoor_94 : decode cX6_tellDoor 94 = .ok (.aload_n 0, 1) := by decide +kernel
theorem dX6_tellDoor_95 : decode cX6_tellDoor 95 = .ok (.getfield 52, 3) := by decide +kernel
theorem dX6_tellDoor_98 : decode cX6_tellDoor 98 = .ok (.aload_n 0, 1) := by decide +kernel
theorem dX6_tellDoor_99 : decode cX6_tellDoor 99 = .ok (.getfield 260, 3) := by decide +kernel
theorem dX6_tellDoor_102 : decode cX6_tellDoor 102 = .ok (.dup2, 1) := by decide +kernel
theorem dX6_tellDoor_103 : decode cX6_tellDoor 103 = .ok (.iaload, 1) := by decide +kernel
theorem dX6_tellDoor_104 : decode cX6_tellDoor 104 = .ok (.iconst 1, 1) := by decide +kernel
theorem dX6_tellDoor_105 : decode cX6_tellDoor 105 = .ok (.iadd, 1) := by decide +kernel
theorem dX6_tellDoor_106 : decode cX6_tellDoor 106 = .ok (.iastore, 1) := by decide +kernel
theorem dX6_tellDoor_107 : decode cX6_tellDoor 107 = .ok (.return_, 1) := by decide +kernel
abbrev rm_X6_tellDoor : Room := { frames := 4, cells := 0, slots := 0, locals := 85 }
def f_X6_tellDoor_J82 (S : St)  : Option (St) :=
  (f_X6_must  S (4 : Int32)).bind (fun (q7 : St) => if (st_I q7 (ky 0 13)) = 0 then (chk (ib (st_I q7 (ky 0 19)) 2) (chk (ib (st_I q7 (ky 0 19)) 2) (lt_v (up_A q7 (ky 0 25) (upd (st_A q7 (ky 0 25)) (st_I q7 (ky 0 19)).toNatClampNeg ((st_A q7 (ky 0 25) (st_I q7 (ky 0 19)).toNatClampNeg) + (1 : Int32)))) (fun (S9 : St) => some S9)))) else (some q7))
def f_X6_tellDoor (S : St)  : Option (St) :=
  chk (ib (st_I S (ky 0 19)) 2) (lt_v (((12 : Int32) * (st_I S (ky 0 19))) + (st_A S (ky 0 25) (st_I S (ky 0 19)).toNatClampNeg)) (fun (u1 : Int32) => (f_X6_known  S (0 : Int32)).bind (fun (q2 : Int32 × St) => chk (ib u1 24) (lt_v (up_A q2.2 (ky 0 26) (upd (st_A q2.2 (ky 0 26)) u1.toNatClampNeg q2.1)) (fun (S3 : St) => (f_X6_known  S3 (0 : Int32)).bind (fun (q4 : Int32 × St) => chk (ib u1 24) (lt_v (up_A q4.2 (ky 0 27) (upd (st_A q4.2 (ky 0 27)) u1.toNatClampNeg q4.1)) (fun (S5 : St) => if (st_I S5 (ky 0 13)) = 0 then (chk (ib u1 24) (if (st_A S5 (ky 0 27) u1.toNatClampNeg) < 0 then (f_X6_tellDoor_J82  S5 ) else (chk (ib u1 24) (chk (ib u1 24) (if (st_A S5 (ky 0 27) u1.toNatClampNeg) = (st_A S5 (ky 0 26) u1.toNatClampNeg) then ((f_X6_wrong  S5 (3 : Int32) (st_I S3 (ky 0 11))).bind (fun (q12 : St) => f_X6_tellDoor_J82  q12 )) else (f_X6_tellDoor_J82  S5 )))))) else (f_X6_tellDoor_J82  S5 )))))))))
set_option maxRecDepth 100000 in
set_option maxHeartbeats 4000000 in
theorem k_X6_tellDoor (l : Launch) (g : GG) (hg : gd wd_M g)  (hM : hs wd_M g 0 6) (S : St)  (q : St) (hf : f_X6_tellDoor  S  = some q) : Met l yX6_tellDoor (Cond.code yX6_tellDoor cX6_tellDoor 3 none :: gw_tbl) rm_X6_tellDoor (va_Pc [.ref (gg_o g 0)] (wI wd_M g S)) (qc_v wd_M g q) 0 0 (aw g) := by
  refine mt_start (own := RX6) hg (by decide) rfl (Nat.le_of_ble_eq_true rfl) (fun p e s m args below meth c ls H locs cx hw hr hlk hl => ?_)
  have hx := cx.1
  have hb := cx.2.1
  have hown := cx.2.2.2.1
  have hts := cx.2.2.2.2.1
  have hl : lv_has ls 3 [(0, .ref (gg_o g 0))] := hl
  replace hf := h_top hf
  unfold f_X6_tellDoor at hf
  have J82 : ∀ (ls : Array Slot) (H : Heap) (locs : List Loc) (S : St) , lv_has ls 3 [(0, .ref (gg_o g 0))] → HH wd_M g s S H locs → (f_X6_tellDoor_J82  S ).bind some = some q → W p l e rm_X6_tellDoor s m args below meth c H locs 0 0 (MQ below (qc_v wd_M g q) args s 0 0 (aw g)) (F0 m 82 ls []) := by
    intro ls H locs S  hl hw hf
    unfold f_X6_tellDoor_J82 at hf
    refine lv_aload_n hx hb dX6_tellDoor_82 rfl (lv_at hl 0 rfl) ?_
    refine lv_iconst (v := 4) hx hb dX6_tellDoor_83 (by decide) ?_
    refine r_V_v (As := [.int (4 : Int32)]) (rest := []) cx hw hf hM.2.1 (by rw [hM.1]; rfl) lk_X6_289 (fun q7 hq => k_X6_must l g hg  hM S (4 : Int32) q7 hq) ⟨⟨rfl, rfl⟩, Nat.le_of_ble_eq_true rfl, Nat.le_of_ble_eq_true rfl⟩ rfl hl.1 rfl (Nat.le_of_ble_eq_true rfl) dX6_tellDoor_84 ⟨Nat.zero_le _, Nat.zero_le _⟩ (fun q7 H locs hw hf => ?_)
    refine lv_aload_n hx hb dX6_tellDoor_87 rfl (lv_at hl 0 rfl) ?_
    refine gf_X6_227 cx hw hM dX6_tellDoor_88 ?_
    refine lv_if_ne hx hb dX6_tellDoor_91 (tgt := 107) rfl (fun hc8 => ?_) (fun hc8 => ?_)
    · replace hf := h_neg hc8 hf
      exact r_vret cx hw hr hlk hf dX6_tellDoor_107
    replace hf := h_pos hc8 hf
    refine lv_aload_n hx hb dX6_tellDoor_94 rfl (lv_at hl 0 rfl) ?_
    refine gf_X6_52 cx hw hM dX6_tellDoor_95 ?_
    refine lv_aload_n hx hb dX6_tellDoor_98 rfl (lv_at hl 0 rfl) ?_
    refine gf_X6_260 cx hw hM dX6_tellDoor_99 ?_
    refine lv_dup2_11 hx hb dX6_tellDoor_102 rfl rfl ?_
    refine r_iald cx hw (hM.2.2.1 25 rfl) rfl rfl hf dX6_tellDoor_103 (fun hf => ?_)
    refine lv_iconst (v := 1) hx hb dX6_tellDoor_104 (by decide) ?_
    refine lv_iadd hx hb dX6_tellDoor_105 ?_
    refine r_iast cx hw (hM.2.2.1 25 rfl) rfl rfl hf dX6_tellDoor_106 (fun S9 H locs hw hf => ?_)
    exact r_vret cx hw hr hlk hf dX6_tellDoor_107
  refine lv_bipush (v := 12) hx hb dX6_tellDoor_0 (by decide) ?_
  refine lv_aload_n hx hb dX6_tellDoor_2 rfl (lv_at hl 0 rfl) ?_
  refine gf_X6_260 cx hw hM dX6_tellDoor_3 ?_
  refine lv_imul hx hb dX6_tellDoor_6 ?_
  refine lv_aload_n hx hb dX6_tellDoor_7 rfl (lv_at hl 0 rfl) ?_
  refine gf_X6_52 cx hw hM dX6_tellDoor_8 ?_
  refine lv_aload_n hx hb dX6_tellDoor_11 rfl (lv_at hl 0 rfl) ?_
  refine gf_X6_260 cx hw hM dX6_tellDoor_12 ?_
  refine r_iald cx hw (hM.2.2.1 25 rfl) rfl rfl hf dX6_tellDoor_15 (fun hf => ?_)
  refine lv_iadd hx hb dX6_tellDoor_16 ?_
  refine r_leti hf (fun u1 hf => ?_)
  refine lv_istore_n hx hb dX6_tellDoor_17 rfl hl (by decide) (lv' := [(1, .int u1), (0, .ref (gg_o g 0))]) rfl (fun ls hl => ?_)
  refine lv_aload_n hx hb dX6_tellDoor_18 rfl (lv_at hl 1 rfl) ?_
  refine gf_X6_55 cx hw hM dX6_tellDoor_19 ?_
  refine lv_iload_n hx hb dX6_tellDoor_22 rfl (lv_at hl 0 rfl) ?_
  refine lv_aload_n hx hb dX6_tellDoor_23 rfl (lv_at hl 1 rfl) ?_
  refine lv_iconst (v := 0) hx hb dX6_tellDoor_24 (by decide) ?_
  refine r_V_w (As := [.int (0 : Int32)]) (rest := [.int u1, .ref (gg_a g (ky 0 26))]) cx hw hf hM.2.1 (by rw [hM.1]; rfl) lk_X6_302 (fun q2 hq => k_X6_known l g hg  hM S (0 : Int32) q2 hq) ⟨⟨rfl, rfl⟩, Nat.le_of_ble_eq_true rfl, Nat.le_of_ble_eq_true rfl⟩ rfl hl.1 rfl (Nat.le_of_ble_eq_true rfl) dX6_tellDoor_25 ⟨Nat.zero_le _, Nat.zero_le _⟩ (fun q2 H locs hw hf => ?_)
  refine r_iast cx hw (hM.2.2.1 26 rfl) rfl rfl hf dX6_tellDoor_28 (fun S3 H locs hw hf => ?_)
  refine lv_aload_n hx hb dX6_tellDoor_29 rfl (lv_at hl 1 rfl) ?_
  refine gf_X6_230 cx hw hM dX6_tellDoor_30 ?_
  refine lv_istore_n hx hb dX6_tellDoor_33 rfl hl (by decide) (lv' := [(2, .int (st_I S3 (ky 0 11))), (1, .int u1), (0, .ref (gg_o g 0))]) rfl (fun ls hl => ?_)
  refine lv_aload_n hx hb dX6_tellDoor_34 rfl (lv_at hl 2 rfl) ?_
  refine gf_X6_58 cx hw hM dX6_tellDoor_35 ?_
  refine lv_iload_n hx hb dX6_tellDoor_38 rfl (lv_at hl 1 rfl) ?_
  refine lv_aload_n hx hb dX6_tellDoor_39 rfl (lv_at hl 2 rfl) ?_
  refine lv_iconst (v := 0) hx hb dX6_tellDoor_40 (by decide) ?_
  refine r_V_w (As := [.int (0 : Int32)]) (rest := [.int u1, .ref (gg_a g (ky 0 27))]) cx hw hf hM.2.1 (by rw [hM.1]; rfl) lk_X6_302 (fun q4 hq => k_X6_known l g hg  hM S3 (0 : Int32) q4 hq) ⟨⟨rfl, rfl⟩, Nat.le_of_ble_eq_true rfl, Nat.le_of_ble_eq_true rfl⟩ rfl hl.1 rfl (Nat.le_of_ble_eq_true rfl) dX6_tellDoor_41 ⟨Nat.zero_le _, Nat.zero_le _⟩ (fun q4 H locs hw hf => ?_)
  refine r_iast cx hw (hM.2.2.1 27 rfl) rfl rfl hf dX6_tellDoor_44 (fun S5 H locs hw hf => ?_)
  refine lv_aload_n hx hb dX6_tellDoor_45 rfl (lv_at hl 2 rfl) ?_
  refine gf_X6_227 cx hw hM dX6_tellDoor_46 ?_
  refine lv_if_ne hx hb dX6_tellDoor_49 (tgt := 82) rfl (fun hc6 => ?_) (fun hc6 => ?_)
  · replace hf := h_neg hc6 hf
    exact J82 _ _ _ S5 (lv_sub hl [2] rfl) hw hf
  replace hf := h_pos hc6 hf
  refine lv_aload_n hx hb dX6_tellDoor_52 rfl (lv_at hl 2 rfl) ?_
  refine gf_X6_58 cx hw hM dX6_tellDoor_53 ?_
  refine lv_iload_n hx hb dX6_tellDoor_56 rfl (lv_at hl 1 rfl) ?_
  refine r_iald cx hw (hM.2.2.1 27 rfl) rfl rfl hf dX6_tellDoor_57 (fun hf => ?_)
  refine lv_if_lt hx hb dX6_tellDoor_58 (tgt := 82) rfl (fun hc10 => ?_) (fun hc10 => ?_)
  · replace hf := h_pos hc10 hf
    exact J82 _ _ _ S5 (lv_sub hl [2] rfl) hw hf
  replace hf := h_neg hc10 hf
  refine lv_aload_n hx hb dX6_tellDoor_61 rfl (lv_at hl 2 rfl) ?_
  refine gf_X6_58 cx hw hM dX6_tellDoor_62 ?_
  refine lv_iload_n hx hb dX6_tellDoor_65 rfl (lv_at hl 1 rfl) ?_
  refine r_iald cx hw (hM.2.2.1 27 rfl) rfl rfl hf dX6_tellDoor_66 (fun hf => ?_)
  refine lv_aload_n hx hb dX6_tellDoor_67 rfl (lv_at hl 2 rfl) ?_
  refine gf_X6_55 cx hw hM dX6_tellDoor_68 ?_
  refine lv_iload_n hx hb dX6_tellDoor_71 rfl (lv_at hl 1 rfl) ?_
  refine r_iald cx hw (hM.2.2.1 26 rfl) rfl rfl hf dX6_tellDoor_72 (fun hf => ?_)
  refine lv_icmp_ne hx hb dX6_tellDoor_73 (tgt := 82) rfl (fun hc11 => ?_) (fun hc11 => ?_)
  · replace hf := h_neg hc11 hf
    exact J82 _ _ _ S5 (lv_sub hl [2] rfl) hw hf
  replace hf := h_pos hc11 hf
  refine lv_aload_n hx hb dX6_tellDoor_76 rfl (lv_at hl 2 rfl) ?_
  refine lv_iconst (v := 3) hx hb dX6_tellDoor_77 (by decide) ?_
  refine lv_iload_n hx hb dX6_tellDoor_78 rfl (lv_at hl 0 rfl) ?_
  refine r_V_v (As := [.int (3 : Int32), .int (st_I S3 (ky 0 11))]) (rest := []) cx hw hf hM.2.1 (by rw [hM.1]; rfl) lk_X6_315 (fun q12 hq => k_X6_wrong l g hg  hM S5 (3 : Int32) (st_I S3 (ky 0 11)) q12 hq) ⟨⟨rfl, rfl⟩, Nat.le_of_ble_eq_true rfl, Nat.le_of_ble_eq_true rfl⟩ rfl hl.1 rfl (Nat.le_of_ble_eq_true rfl) dX6_tellDoor_79 ⟨Nat.zero_le _, Nat.zero_le _⟩ (fun q12 H locs hw hf => ?_)
  exact J82 _ _ _ q12 (lv_sub hl [2] rfl) hw hf
theorem dX6_bounded_0 : decode cX6_bounded 0 = .ok (.aload_n 0, 1) := by decide +kernel
theorem dX6_bounded_1 : decode cX6_bounded 1 = .ok (.getfield 227, 3) := by decide +kernel
theorem dX6_bounded_4 : decode cX6_bounded 4 = .ok (.ifCond .gt 11, 3) := by decide +kernel
theorem dX6_bounded_7 : decode cX6_bounded 7 = .ok (.aload_n 0, 1) := by decide +kernel
theorem dX6_bounded_8 : decode cX6_bounded 8 = .ok (.iconst 2, 1) := by decide +kernel
theorem dX6_bounded_9 : decode cX6_bounded 9 = .ok (.invokevirtual 245, 3) := by decide +kernel
theorem dX6_bounded_12 : decode cX6_bounded 12 = .ok (.ifCond .ne 10, 3) := by decide +kernel
theorem dX6_bounded_15 : decode cX6_bounded 15 = .ok (.aload_n 0, 1) := by decide +kernel
theorem dX6_bounded_16 : decode cX6_bounded 16 = .ok (.iconst 1, 1) := by decide +kernel
theorem dX6_bounded_17 : decode cX6_bounded 17 = .ok (.invokevirtual 242, 3) := by decide +kernel
theorem dX6_bounded_20 : decode cX6_bounded 20 = .ok (.iload_n 1, 1) := by decide +kernel
theorem dX6_bounded_21 : decode cX6_bounded 21 = .ok (.ireturn, 1) := by decide +kernel
theorem dX6_bounded_22 : decode cX6_bounded 22 = .ok (.aload_n 0, 1) := by decide +kernel
theorem dX6_bounded_23 : decode cX6_bounded 23 = .ok (.getfield 27, 3) := by decide +kernel
theorem dX6_bounded_26 : decode cX6_bounded 26 = .ok (.aload_n 0, 1) := by decide +kernel
theorem dX6_bounded_27 : decode cX6_bounded 27 = .ok (.getfield 230, 3) := by decide +kernel
theorem dX6_bounded_30 : decode cX6_bounded 30 = .ok (.iaload, 1) := by decide +kernel
theorem dX6_bounded_31 : decode cX6_bounded 31 = .ok (.istore_n 3, 1) := by decide +kernel
theorem dX6_bounded_32 : decode cX6_bounded 32 = .ok (.iload_n 3, 1) := by decide +kernel
theorem dX6_bounded_33 : decode cX6_bounded 33 = .ok (.iload_n 1, 1) := by decide +kernel
theorem dX6_bounded_34 : decode cX6_bounded 34 = .ok (.if_icmp .lt 8, 3) := by decide +kernel
theorem dX6_bounded_37 : decode cX6_bounded 37 = .ok (.iload_n 3, 1) := by decide +kernel
theorem dX6_bounded_38 : decode cX6_bounded 38 = .ok (.iload_n 2, 1) := by decide +kernel
theorem dX6_bounded_39 : decode cX6_bounded 39 = .ok (.if_icmp .le 12, 3) := by decide +kernel
theorem dX6_bounded_42 : decode cX6_bounded 42 = .ok (.aload_n 0, 1) := by decide +kernel
theorem dX6_bounded_43 : decode cX6_bounded 43 = .ok (.iconst 5, 1) := by decide +kernel
theorem dX6_bounded_44 : decode cX6_bounded 44 = .ok (.aload_n 0, 1) := by decide +kernel
theorem dX6_bounded_45 : decode cX6_bounded 45 = .ok (.getfield 230, 3) := by decide +kernel
theorem dX6_bounded_48 : decode cX6_bounded 48 = .ok (.invokevirtual 315, 3) := by decide +kernel
theorem dX6_bounded_51 : decode cX6_bounded 51 = .ok (.aload_n 0, 1) := by decide +kernel
theorem dX6_bounded_52 : decode cX6_bounded 52 = .ok (.invokevirtual 248, 3) := by decide +kernel
theorem dX6_bounded_55 : decode cX6_bounded 55 = .ok (.iload_n 3, 1) := by decide +kernel
theorem dX6_bounded_56 : decode cX6_bounded 56 = .ok (.ireturn, 1) := by decide +kernel
abbrev rm_X6_bounded : Room := { frames := 2, cells := 0, slots := 0, locals := 41 }
def f_X6_bounded_J15 (S : St) (x1 : Int32) : Option (Int32 × St) :=
  (f_X6_fail  S (1 : Int32)).bind (fun (q2 : St) => some (x1, q2))
def f_X6_bounded_J51 (S : St) (x3 : Int32) : Option (Int32 × St) :=
  (f_X6_goesOn  S ).bind (fun (q8 : St) => some (x3, q8))
def f_X6_bounded_J42 (S : St) (x3 : Int32) : Option (Int32 × St) :=
  (f_X6_wrong  S (5 : Int32) (st_I S (ky 0 11))).bind (fun (q7 : St) => f_X6_bounded_J51  q7 x3)
def f_X6_bounded (S : St) (x1 : Int32) (x2 : Int32) : Option (Int32 × St) :=
  if 0 < (st_I S (ky 0 13)) then (f_X6_bounded_J15  S x1) else ((f_X6_is  S (2 : Int32)).bind (fun (q3 : Int32) => if q3 = 0 then (f_X6_bounded_J15  S x1) else (chk (ib (st_I S (ky 0 11)) 403) (lt_v (st_A S (ky 0 7) (st_I S (ky 0 11)).toNatClampNeg) (fun (u5 : Int32) => if u5 < x1 then (f_X6_bounded_J42  S u5) else (if u5 ≤ x2 then (f_X6_bounded_J51  S u5) else (f_X6_bounded_J42  S u5)))))))
set_option maxRecDepth 100000 in
set_option maxHeartbeats 4000000 in
theorem k_X6_bounded (l : Launch) (g : GG) (hg : gd wd_M g)  (hM : hs wd_M g 0 6) (S : St) (x1 : Int32) (x2 : Int32) (q : Int32 × St) (hf : f_X6_bounded  S x1 x2 = some q) : Met l yX6_bounded (Cond.code yX6_bounded cX6_bounded 4 (some .int) :: gw_tbl) rm_X6_bounded (va_Pc [.ref (gg_o g 0), .int x1, .int x2] (wI wd_M g S)) (qc_w wd_M g q) 0 0 (aw g) := by
  refine mt_start (own := RX6) hg (by decide) rfl (Nat.le_of_ble_eq_true rfl) (fun p e s m args below meth c ls H locs cx hw hr hlk hl => ?_)
  have hx := cx.1
  have hb := cx.2.1
  have hown := cx.2.2.2.1
  have hts := cx.2.2.2.2.1
  have hl : lv_has ls 4 [(0, .ref (gg_o g 0)), (1, .int x1), (2, .int x2)] := hl
  replace hf := h_top hf
  unfold f_X6_bounded at hf
  have J15 : ∀ (ls : Array Slot) (H : Heap) (locs : List Loc) (S : St) (x1 : Int32), lv_has ls 4 [(0, .ref (gg_o g 0)), (1, .int x1)] → HH wd_M g s S H locs → (f_X6_bounded_J15  S x1).bind some = some q → W p l e rm_X6_bounded s m args below meth c H locs 0 0 (MQ below (qc_w wd_M g q) args s 0 0 (aw g)) (F0 m 15 ls []) := by
    intro ls H locs S x1 hl hw hf
    unfold f_X6_bounded_J15 at hf
    refine lv_aload_n hx hb dX6_bounded_15 rfl (lv_at hl 0 rfl) ?_
    refine lv_iconst (v := 1) hx hb dX6_bounded_16 (by decide) ?_
    refine r_V_v (As := [.int (1 : Int32)]) (rest := []) cx hw hf hM.2.1 (by rw [hM.1]; rfl) lk_X6_242 (fun q2 hq => k_X6_fail l g hg  hM S (1 : Int32) q2 hq) ⟨⟨rfl, rfl⟩, Nat.le_of_ble_eq_true rfl, Nat.le_of_ble_eq_true rfl⟩ rfl hl.1 rfl (Nat.le_of_ble_eq_true rfl) dX6_bounded_17 ⟨Nat.zero_le _, Nat.zero_le _⟩ (fun q2 H locs hw hf => ?_)
    refine lv_iload_n hx hb dX6_bounded_20 rfl (lv_at hl 1 rfl) ?_
    exact r_iretw cx hw hr hlk hf dX6_bounded_21
  have J51 : ∀ (ls : Array Slot) (H : Heap) (locs : List Loc) (S : St) (x3 : Int32), lv_has ls 4 [(0, .ref (gg_o g 0)), (3, .int x3)] → HH wd_M g s S H locs → (f_X6_bounded_J51  S x3).bind some = some q → W p l e rm_X6_bounded s m args below meth c H locs 0 0 (MQ below (qc_w wd_M g q) args s 0 0 (aw g)) (F0 m 51 ls []) := by
    intro ls H locs S x3 hl hw hf
    unfold f_X6_bounded_J51 at hf
    refine lv_aload_n hx hb dX6_bounded_51 rfl (lv_at hl 0 rfl) ?_
    refine r_V_v (As := []) (rest := []) cx hw hf hM.2.1 (by rw [hM.1]; rfl) lk_X6_248 (fun q8 hq => k_X6_goesOn l g hg  hM S  q8 hq) ⟨⟨rfl, rfl⟩, Nat.le_of_ble_eq_true rfl, Nat.le_of_ble_eq_true rfl⟩ rfl hl.1 rfl (Nat.le_of_ble_eq_true rfl) dX6_bounded_52 ⟨Nat.zero_le _, Nat.zero_le _⟩ (fun q8 H locs hw hf => ?_)
    refine lv_iload_n hx hb dX6_bounded_55 rfl (lv_at hl 1 rfl) ?_
    exact r_iretw cx hw hr hlk hf dX6_bounded_56
  have J42 : ∀ (ls : Array Slot) (H : Heap) (locs : List Loc) (S : St) (x3 : Int32), lv_has ls 4 [(0, .ref (gg_o g 0)), (3, .int x3)] → HH wd_M g s S H locs → (f_X6_bounded_J42  S x3).bind some = some q → W p l e rm_X6_bounded s m args below meth c H locs 0 0 (MQ below (qc_w wd_M g q) args s 0 0 (aw g)) (F0 m 42 ls []) := by
    intro ls H locs S x3 hl hw hf
    unfold f_X6_bounded_J42 at hf
    refine lv_aload_n hx hb dX6_bounded_42 rfl (lv_at hl 0 rfl) ?_
    refine lv_iconst (v := 5) hx hb dX6_bounded_43 (by decide) ?_
    refine lv_aload_n hx hb dX6_bounded_44 rfl (lv_at hl 0 rfl) ?_
    refine gf_X6_230 cx hw hM dX6_bounded_45 ?_
    refine r_V_v (As := [.int (5 : Int32), .int (st_I S (ky 0 11))]) (rest := []) cx hw hf hM.2.1 (by rw [hM.1]; rfl) lk_X6_315 (fun q7 hq => k_X6_wrong l g hg  hM S (5 : Int32) (st_I S (ky 0 11)) q7 hq) ⟨⟨rfl, rfl⟩, Nat.le_of_ble_eq_true rfl, Nat.le_of_ble_eq_true rfl⟩ rfl hl.1 rfl (Nat.le_of_ble_eq_true rfl) dX6_bounded_48 ⟨Nat.zero_le _, Nat.zero_le _⟩ (fun q7 H locs hw hf => ?_)
    exact J51 _ _ _ q7 x3 (lv_sub hl [0, 1] rfl) hw hf
  refine lv_aload_n hx hb dX6_bounded_0 rfl (lv_at hl 0 rfl) ?_
  refine gf_X6_227 cx hw hM dX6_bounded_1 ?_
  refine lv_if_gt hx hb dX6_bounded_4 (tgt := 15) rfl (fun hc1 => ?_) (fun hc1 => ?_)
  · replace hf := h_pos hc1 hf
    exact J15 _ _ _ S x1 (lv_sub hl [0, 1] rfl) hw hf
  replace hf := h_neg hc1 hf
  refine lv_aload_n hx hb dX6_bounded_7 rfl (lv_at hl 0 rfl) ?_
  refine lv_iconst (v := 2) hx hb dX6_bounded_8 (by decide) ?_
  refine r_V_i (As := [.int (2 : Int32)]) (rest := []) cx hw hf hM.2.1 (by rw [hM.1]; rfl) lk_X6_245 (fun q3 hq => k_X6_is l g hg  hM S (2 : Int32) q3 hq) ⟨⟨rfl, rfl⟩, Nat.le_of_ble_eq_true rfl, Nat.le_of_ble_eq_true rfl⟩ rfl hl.1 rfl (Nat.le_of_ble_eq_true rfl) dX6_bounded_9 ⟨Nat.zero_le _, Nat.zero_le _⟩ (fun q3 H locs hw hf => ?_)
  refine lv_if_ne hx hb dX6_bounded_12 (tgt := 22) rfl (fun hc4 => ?_) (fun hc4 => ?_)
  · replace hf := h_neg hc4 hf
    refine lv_aload_n hx hb dX6_bounded_22 rfl (lv_at hl 0 rfl) ?_
    refine gf_X6_27 cx hw hM dX6_bounded_23 ?_
    refine lv_aload_n hx hb dX6_bounded_26 rfl (lv_at hl 0 rfl) ?_
    refine gf_X6_230 cx hw hM dX6_bounded_27 ?_
    refine r_iald cx hw (hM.2.2.1 7 rfl) rfl rfl hf dX6_bounded_30 (fun hf => ?_)
    refine r_leti hf (fun u5 hf => ?_)
    refine lv_istore_n hx hb dX6_bounded_31 rfl hl (by decide) (lv' := [(3, .int u5), (0, .ref (gg_o g 0)), (1, .int x1), (2, .int x2)]) rfl (fun ls hl => ?_)
    refine lv_iload_n hx hb dX6_bounded_32 rfl (lv_at hl 0 rfl) ?_
    refine lv_iload_n hx hb dX6_bounded_33 rfl (lv_at hl 2 rfl) ?_
    refine lv_icmp_lt hx hb dX6_bounded_34 (tgt := 42) rfl (fun hc6 => ?_) (fun hc6 => ?_)
    · replace hf := h_pos hc6 hf
      exact J42 _ _ _ S u5 (lv_sub hl [1, 0] rfl) hw hf
    replace hf := h_neg hc6 hf
    refine lv_iload_n hx hb dX6_bounded_37 rfl (lv_at hl 0 rfl) ?_
    refine lv_iload_n hx hb dX6_bounded_38 rfl (lv_at hl 3 rfl) ?_
    refine lv_icmp_le hx hb dX6_bounded_39 (tgt := 51) rfl (fun hc9 => ?_) (fun hc9 => ?_)
    · replace hf := h_pos hc9 hf
      exact J51 _ _ _ S u5 (lv_sub hl [1, 0] rfl) hw hf
    replace hf := h_neg hc9 hf
    exact J42 _ _ _ S u5 (lv_sub hl [1, 0] rfl) hw hf
  replace hf := h_pos hc4 hf
  exact J15 _ _ _ S x1 (lv_sub hl [0, 1] rfl) hw hf
theorem dX6_tellMan_0 : decode cX6_tellMan 0 = .ok (.bipush 6, 2) := by decide +kernel
theorem dX6_tellMan_2 : decode cX6_tellMan 2 = .ok (.aload_n 0, 1) := by decide +kernel
theorem dX6_tellMan_3 : decode cX6_tellMan 3 = .ok (.getfield 260, 3) := by decide +kernel
theorem dX6_tellMan_6 : decode cX6_tellMan 6 = .ok (.imul, 1) := by decide +kernel
theorem dX6_tellMan_7 : decode cX6_tellMan 7 = .ok (.aload_n 0, 1) := by decide +kernel
theorem dX6_tellMan_8 : decode cX6_tellMan 8 = .ok (.getfield 61, 3) := by decide +kernel
theorem dX6_tellMan_11 : decode cX6_tellMan 11 = .ok (.aload_n 0, 1) := by decide +kernel
theorem dX6_tellMan_12 : decode cX6_tellMan 12 = .ok (.getfield 260, 3) := by decide +kernel
theorem dX6_tellMan_15 : decode cX6_tellMan 15 = .ok (.iaload, 1) := by decide +kernel
theorem dX6_tellMan_16 : decode cX6_tellMan 16 = .ok (.iadd, 1) := by decide +kernel
theorem dX6_tellMan_17 : decode cX6_tellMan 17 = .ok (.istore_n 1, 1) := by decide +kernel
theorem dX6_tellMan_18 : decode cX6_tellMan 18 = .ok (.aload_n 0, 1) := by decide +kernel
theorem dX6_tellMan_19 : decode cX6_tellMan 19 = .ok (.invokevirtual 285, 3) := by decide +kernel
theorem dX6_tellMan_22 : decode cX6_tellMan 22 = .ok (.istore_n 2, 1) := by decide +kernel
theorem dX6_tellMan_23 : decode cX6_tellMan 23 = .ok (.aload_n 0, 1) := by decide +kernel
theorem dX6_tellMan_24 : decode cX6_tellMan 24 = .ok (.getfield 64, 3) := by decide +kernel
theorem dX6_tellMan_27 : decode cX6_tellMan 27 = .ok (.iload_n 1, 1) := by decide +kernel
theorem dX6_tellMan_28 : decode cX6_tellMan 28 = .ok (.aload_n 0, 1) := by decide +kernel
theorem dX6_tellMan_29 : decode cX6_tellMan 29 = .ok (.iconst 0, 1) := by decide +kernel
theorem dX6_tellMan_30 : decode cX6_tellMan 30 = .ok (.bipush 20, 2) := by decide +kernel
theorem dX6_tellMan_32 : decode cX6_tellMan 32 = .ok (.invokevirtual 311, 3) := by decide +kernel
theorem dX6_tellMan_35 : decode cX6_tellMan 35 = .ok (.iastore, 1) := by decide +kernel
theorem dX6_tellMan_36 : decode cX6_tellMan 36 = .ok (.aload_n 0, 1) := by decide +kernel
theorem dX6_tellMan_37 : decode cX6_tellMan 37 = .ok (.getfield 67, 3) := by decide +kernel
theorem dX6_tellMan_40 : decode cX6_tellMan 40 = .ok (.iload_n 1, 1) := by decide +kernel
theorem dX6_tellMan_41 : decode cX6_tellMan 41 = .ok (.aload_n 0, 1) := by decide +kernel
theorem dX6_tellMan_42 : decode cX6_tellMan 42 = .ok (.iconst 0, 1) := by decide +kernel
theorem dX6_tellMan_43 : decode cX6_tellMan 43 = .ok (.invokevirtual 302, 3) := by decide +kernel
theorem dX6_tellMan_46 : decode cX6_tellMan 46 = .ok (.iastore, 1) := by decide +kernel
theorem dX6_tellMan_47 : decode cX6_tellMan 47 = .ok (.aload_n 0, 1) := by decide +kernel
theorem dX6_tellMan_48 : decode cX6_tellMan 48 = .ok (.iconst 4, 1) := by decide +kernel
theorem dX6_tellMan_49 : decode cX6_tellMan 49 = .ok (.invokevirtual 289, 3) := by decide +kernel
theorem dX6_tellMan_52 : decode cX6_tellMan 52 = .ok (.aload_n 0, 1) := by decide +kernel
theorem dX6_tellMan_53 : decode cX6_tellMan 53 = .ok (.getfield 227, 3) := by decide +kernel
theorem dX6_tellMan_56 : decode cX6_tellMan 56 = .ok (.ifCond .le 4, 3) := by decide +kernel
theorem dX6_tellMan_59 : decode cX6_tellMan 59 = .ok (.return_, 1) := by decide +kernel
theorem dX6_tellMan_60 : decode cX6_tellMan 60 = .ok (.aload_n 0, 1) := by decide +kernel
theorem dX6_tellMan_61 : decode cX6_tellMan 61 = .ok (.iload_n 2, 1) := by decide +kernel
theorem dX6_tellMan_62 : decode cX6_tellMan 62 = .ok (.iconst 1, 1) := by decide +kernel
theorem dX6_tellMan_63 : decode cX6_tellMan 63 = .ok (.aload_n 0, 1) := by decide +kernel
theorem dX6_tellMan_64 : decode cX6_tellMan 64 = .ok (.getfield 61, 3) := by decide +kernel
theorem dX6_tellMan_67 : decode cX6_tellMan 67 = .ok (.aload_n 0, 1) := by decide +kernel
theorem dX6_tellMan_68 : decode cX6_tellMan 68 = .ok (.getfield 260, 3) := by decide +kernel
theorem dX6_tellMan_71 : decode cX6_tellMan 71 = .ok (.iaload, 1) := by decide +kernel
theorem dX6_tellMan_72 : decode cX6_tellMan 72 = .ok (.invokevirtual 292, 3) := by decide +kernel
theorem dX6_tellMan_75 : decode cX6_tellMan 75 = .ok (.aload_n 0, 1) := by decide +kernel
theorem dX6_tellMan_76 : decode cX6_tellMan 76 = .ok (.getfield 61, 3) := by decide +kernel
theorem dX6_tellMan_79 : decode cX6_tellMan 79 = .ok (.aload_n 0, 1) := by decide +kernel
theorem dX6_tellMan_80 : decode cX6_tellMan 80 = .ok (.getfield 260, 3) := by decide +kernel
theorem dX6_tellMan_83 : decode cX6_tellMan 83 = .ok (.dup2, 1) := by decide +kernel
theorem dX6_tellMan_84 : decode cX6_tellMan 84 = .ok (.iaload, 1) := by decide +kernel
theorem dX6_tellMan_85 : decode cX6_tellMan 85 = .ok (.iconst 1, 1) := by decide +kernel
theorem dX6_tellMan_86 : decode cX6_tellMan 86 = .ok (.iadd, 1) := by decide +kernel
theorem dX6_tellMan_87 : decode cX6_tellMan 87 = .ok (.iastore, 1) := by decide +kernel
theorem dX6_tellMan_88 : decode cX6_tellMan 88 = .ok (.return_, 1) := by decide +kernel
abbrev rm_X6_tellMan : Room := { frames := 4, cells := 0, slots := 0, locals := 85 }
def f_X6_tellMan (S : St)  : Option (St) :=
  chk (ib (st_I S (ky 0 19)) 2) (lt_v (((6 : Int32) * (st_I S (ky 0 19))) + (st_A S (ky 0 28) (st_I S (ky 0 19)).toNatClampNeg)) (fun (u1 : Int32) => (f_X6_named  S ).bind (fun (q2 : Int32 × St) => (f_X6_bounded  q2.2 (0 : Int32) (20 : Int32)).bind (fun (q3 : Int32 × St) => chk (ib u1 12) (lt_v (up_A q3.2 (ky 0 29) (upd (st_A q3.2 (ky 0 29)) u1.toNatClampNeg q3.1)) (fun (S4 : St) => (f_X6_known  S4 (0 : Int32)).bind (fun (q5 : Int32 × St) => chk (ib u1 12) (lt_v (up_A q5.2 (ky 0 30) (upd (st_A q5.2 (ky 0 30)) u1.toNatClampNeg q5.1)) (fun (S6 : St) => (f_X6_must  S6 (4 : Int32)).bind (fun (q7 : St) => if (st_I q7 (ky 0 13)) ≤ 0 then (chk (ib (st_I q7 (ky 0 19)) 2) ((f_X6_notes  q7 q2.1 (1 : Int32) (st_A q7 (ky 0 28) (st_I q7 (ky 0 19)).toNatClampNeg)).bind (fun (q9 : St) => chk (ib (st_I q9 (ky 0 19)) 2) (chk (ib (st_I q9 (ky 0 19)) 2) (lt_v (up_A q9 (ky 0 28) (upd (st_A q9 (ky 0 28)) (st_I q9 (ky 0 19)).toNatClampNeg ((st_A q9 (ky 0 28) (st_I q9 (ky 0 19)).toNatClampNeg) + (1 : Int32)))) (fun (S10 : St) => some S10)))))) else (some q7)))))))))))
set_option maxRecDepth 100000 in
set_option maxHeartbeats 4000000 in
theorem k_X6_tellMan (l : Launch) (g : GG) (hg : gd wd_M g)  (hM : hs wd_M g 0 6) (S : St)  (q : St) (hf : f_X6_tellMan  S  = some q) : Met l yX6_tellMan (Cond.code yX6_tellMan cX6_tellMan 3 none :: gw_tbl) rm_X6_tellMan (va_Pc [.ref (gg_o g 0)] (wI wd_M g S)) (qc_v wd_M g q) 0 0 (aw g) := by
  refine mt_start (own := RX6) hg (by decide) rfl (Nat.le_of_ble_eq_true rfl) (fun p e s m args below meth c ls H locs cx hw hr hlk hl => ?_)
  have hx := cx.1
  have hb := cx.2.1
  have hown := cx.2.2.2.1
  have hts := cx.2.2.2.2.1
  have hl : lv_has ls 3 [(0, .ref (gg_o g 0))] := hl
  replace hf := h_top hf
  unfold f_X6_tellMan at hf
  refine lv_bipush (v := 6) hx hb dX6_tellMan_0 (by decide) ?_
  refine lv_aload_n hx hb dX6_tellMan_2 rfl (lv_at hl 0 rfl) ?_
  refine gf_X6_260 cx hw hM dX6_tellMan_3 ?_
  refine lv_imul hx hb dX6_tellMan_6 ?_
  refine lv_aload_n hx hb dX6_tellMan_7 rfl (lv_at hl 0 rfl) ?_
  refine gf_X6_61 cx hw hM dX6_tellMan_8 ?_
  refine lv_aload_n hx hb dX6_tellMan_11 rfl (lv_at hl 0 rfl) ?_
  refine gf_X6_260 cx hw hM dX6_tellMan_12 ?_
  refine r_iald cx hw (hM.2.2.1 28 rfl) rfl rfl hf dX6_tellMan_15 (fun hf => ?_)
  refine lv_iadd hx hb dX6_tellMan_16 ?_
  refine r_leti hf (fun u1 hf => ?_)
  refine lv_istore_n hx hb dX6_tellMan_17 rfl hl (by decide) (lv' := [(1, .int u1), (0, .ref (gg_o g 0))]) rfl (fun ls hl => ?_)
  refine lv_aload_n hx hb dX6_tellMan_18 rfl (lv_at hl 1 rfl) ?_
  refine r_V_w (As := []) (rest := []) cx hw hf hM.2.1 (by rw [hM.1]; rfl) lk_X6_285 (fun q2 hq => k_X6_named l g hg  hM S  q2 hq) ⟨⟨rfl, rfl⟩, Nat.le_of_ble_eq_true rfl, Nat.le_of_ble_eq_true rfl⟩ rfl hl.1 rfl (Nat.le_of_ble_eq_true rfl) dX6_tellMan_19 ⟨Nat.zero_le _, Nat.zero_le _⟩ (fun q2 H locs hw hf => ?_)
  refine lv_istore_n hx hb dX6_tellMan_22 rfl hl (by decide) (lv' := [(2, .int q2.1), (1, .int u1), (0, .ref (gg_o g 0))]) rfl (fun ls hl => ?_)
  refine lv_aload_n hx hb dX6_tellMan_23 rfl (lv_at hl 2 rfl) ?_
  refine gf_X6_64 cx hw hM dX6_tellMan_24 ?_
  refine lv_iload_n hx hb dX6_tellMan_27 rfl (lv_at hl 1 rfl) ?_
  refine lv_aload_n hx hb dX6_tellMan_28 rfl (lv_at hl 2 rfl) ?_
  refine lv_iconst (v := 0) hx hb dX6_tellMan_29 (by decide) ?_
  refine lv_bipush (v := 20) hx hb dX6_tellMan_30 (by decide) ?_
  refine r_V_w (As := [.int (0 : Int32), .int (20 : Int32)]) (rest := [.int u1, .ref (gg_a g (ky 0 29))]) cx hw hf hM.2.1 (by rw [hM.1]; rfl) lk_X6_311 (fun q3 hq => k_X6_bounded l g hg  hM q2.2 (0 : Int32) (20 : Int32) q3 hq) ⟨⟨rfl, rfl⟩, Nat.le_of_ble_eq_true rfl, Nat.le_of_ble_eq_true rfl⟩ rfl hl.1 rfl (Nat.le_of_ble_eq_true rfl) dX6_tellMan_32 ⟨Nat.zero_le _, Nat.zero_le _⟩ (fun q3 H locs hw hf => ?_)
  refine r_iast cx hw (hM.2.2.1 29 rfl) rfl rfl hf dX6_tellMan_35 (fun S4 H locs hw hf => ?_)
  refine lv_aload_n hx hb dX6_tellMan_36 rfl (lv_at hl 2 rfl) ?_
  refine gf_X6_67 cx hw hM dX6_tellMan_37 ?_
  refine lv_iload_n hx hb dX6_tellMan_40 rfl (lv_at hl 1 rfl) ?_
  refine lv_aload_n hx hb dX6_tellMan_41 rfl (lv_at hl 2 rfl) ?_
  refine lv_iconst (v := 0) hx hb dX6_tellMan_42 (by decide) ?_
  refine r_V_w (As := [.int (0 : Int32)]) (rest := [.int u1, .ref (gg_a g (ky 0 30))]) cx hw hf hM.2.1 (by rw [hM.1]; rfl) lk_X6_302 (fun q5 hq => k_X6_known l g hg  hM S4 (0 : Int32) q5 hq) ⟨⟨rfl, rfl⟩, Nat.le_of_ble_eq_true rfl, Nat.le_of_ble_eq_true rfl⟩ rfl hl.1 rfl (Nat.le_of_ble_eq_true rfl) dX6_tellMan_43 ⟨Nat.zero_le _, Nat.zero_le _⟩ (fun q5 H locs hw hf => ?_)
  refine r_iast cx hw (hM.2.2.1 30 rfl) rfl rfl hf dX6_tellMan_46 (fun S6 H locs hw hf => ?_)
  refine lv_aload_n hx hb dX6_tellMan_47 rfl (lv_at hl 2 rfl) ?_
  refine lv_iconst (v := 4) hx hb dX6_tellMan_48 (by decide) ?_
  refine r_V_v (As := [.int (4 : Int32)]) (rest := []) cx hw hf hM.2.1 (by rw [hM.1]; rfl) lk_X6_289 (fun q7 hq => k_X6_must l g hg  hM S6 (4 : Int32) q7 hq) ⟨⟨rfl, rfl⟩, Nat.le_of_ble_eq_true rfl, Nat.le_of_ble_eq_true rfl⟩ rfl hl.1 rfl (Nat.le_of_ble_eq_true rfl) dX6_tellMan_49 ⟨Nat.zero_le _, Nat.zero_le _⟩ (fun q7 H locs hw hf => ?_)
  refine lv_aload_n hx hb dX6_tellMan_52 rfl (lv_at hl 2 rfl) ?_
  refine gf_X6_227 cx hw hM dX6_tellMan_53 ?_
  refine lv_if_le hx hb dX6_tellMan_56 (tgt := 60) rfl (fun hc8 => ?_) (fun hc8 => ?_)
  · replace hf := h_pos hc8 hf
    refine lv_aload_n hx hb dX6_tellMan_60 rfl (lv_at hl 2 rfl) ?_
    refine lv_iload_n hx hb dX6_tellMan_61 rfl (lv_at hl 0 rfl) ?_
    refine lv_iconst (v := 1) hx hb dX6_tellMan_62 (by decide) ?_
    refine lv_aload_n hx hb dX6_tellMan_63 rfl (lv_at hl 2 rfl) ?_
    refine gf_X6_61 cx hw hM dX6_tellMan_64 ?_
    refine lv_aload_n hx hb dX6_tellMan_67 rfl (lv_at hl 2 rfl) ?_
    refine gf_X6_260 cx hw hM dX6_tellMan_68 ?_
    refine r_iald cx hw (hM.2.2.1 28 rfl) rfl rfl hf dX6_tellMan_71 (fun hf => ?_)
    refine r_V_v (As := [.int q2.1, .int (1 : Int32), .int (st_A q7 (ky 0 28) (st_I q7 (ky 0 19)).toNatClampNeg)]) (rest := []) cx hw hf hM.2.1 (by rw [hM.1]; rfl) lk_X6_292 (fun q9 hq => k_X6_notes l g hg  hM q7 q2.1 (1 : Int32) (st_A q7 (ky 0 28) (st_I q7 (ky 0 19)).toNatClampNeg) q9 hq) ⟨⟨rfl, rfl⟩, Nat.le_of_ble_eq_true rfl, Nat.le_of_ble_eq_true rfl⟩ rfl hl.1 rfl (Nat.le_of_ble_eq_true rfl) dX6_tellMan_72 ⟨Nat.zero_le _, Nat.zero_le _⟩ (fun q9 H locs hw hf => ?_)
    refine lv_aload_n hx hb dX6_tellMan_75 rfl (lv_at hl 2 rfl) ?_
    refine gf_X6_61 cx hw hM dX6_tellMan_76 ?_
    refine lv_aload_n hx hb dX6_tellMan_79 rfl (lv_at hl 2 rfl) ?_
    refine gf_X6_260 cx hw hM dX6_tellMan_80 ?_
    refine lv_dup2_11 hx hb dX6_tellMan_83 rfl rfl ?_
    refine r_iald cx hw (hM.2.2.1 28 rfl) rfl rfl hf dX6_tellMan_84 (fun hf => ?_)
    refine lv_iconst (v := 1) hx hb dX6_tellMan_85 (by decide) ?_
    refine lv_iadd hx hb dX6_tellMan_86 ?_
    refine r_iast cx hw (hM.2.2.1 28 rfl) rfl rfl hf dX6_tellMan_87 (fun S10 H locs hw hf => ?_)
    exact r_vret cx hw hr hlk hf dX6_tellMan_88
  replace hf := h_neg hc8 hf
  exact r_vret cx hw hr hlk hf dX6_tellMan_59
theorem dX6_emit_0 : decode cX6_emit 0 = .ok (.aload_n 0, 1) := by decide +kernel
theorem dX6_emit_1 : decode cX6_emit 1 = .ok (.getfield 107, 3) := by decide +kernel
theorem dX6_emit_4 : decode cX6_emit 4 = .ok (.aload_n 0, 1) := by decide +kernel
theorem dX6_emit_5 : decode cX6_emit 5 = .ok (.getfield 269, 3) := by decide +kernel
theorem dX6_emit_8 : decode cX6_emit 8 = .ok (.iload_n 1, 1) := by decide +kernel
theorem dX6_emit_9 : decode cX6_emit 9 = .ok (.iastore, 1) := by decide +kernel
theorem dX6_emit_10 : decode cX6_emit 10 = .ok (.aload_n 0, 1) := by decide +kernel
theorem dX6_emit_11 : decode cX6_emit 11 = .ok (.getfield 110, 3) := by decide +kernel
theorem dX6_emit_14 : decode cX6_emit 14 = .ok (.aload_n 0, 1) := by decide +kernel
theorem dX6_emit_15 : decode cX6_emit 15 = .ok (.getfield 269, 3) := by decide +kernel
theorem dX6_emit_18 : decode cX6_emit 18 = .ok (.iload_n 2, 1) := by decide +kernel
theorem dX6_emit_19 : decode cX6_emit 19 = .ok (.iastore, 1) := by decide +kernel
theorem dX6_emit_20 : decode cX6_emit 20 = .ok (.aload_n 0, 1) := by decide +kernel
theorem dX6_emit_21 : decode cX6_emit 21 = .ok (.dup, 1) := by decide +kernel
theorem dX6_emit_22 : decode cX6_emit 22 = .ok (.getfield 269, 3) := by decide +kernel
theorem dX6_emit_25 : decode cX6_emit 25 = .ok (.iconst 1, 1) := by decide +kernel
theorem dX6_emit_26 : decode cX6_emit 26 = .ok (.iadd, 1) := by decide +kernel
theorem dX6_emit_27 : decode cX6_emit 27 = .ok (.putfield 269, 3) := by decide +kernel
theorem dX6_emit_30 : decode cX6_emit 30 = .ok (.return_, 1) := by decide +kernel
abbrev rm_X6_emit : Room := { frames := 0, cells := 0, slots := 0, locals := 0 }
def f_X6_emit (S : St) (x1 : Int32) (x2 : Int32) : Option (St) :=
  chk (ib (st_I S (ky 0 44)) 840) (lt_v (up_A S (ky 0 45) (upd (st_A S (ky 0 45)) (st_I S (ky 0 44)).toNatClampNeg x1)) (fun (S1 : St) => chk (ib (st_I S1 (ky 0 44)) 840) (lt_v (up_A S1 (ky 0 46) (upd (st_A S1 (ky 0 46)) (st_I S1 (ky 0 44)).toNatClampNeg x2)) (fun (S2 : St) => lt_v (up_I S2 (ky 0 44) ((st_I S2 (ky 0 44)) + (1 : Int32))) (fun (S3 : St) => some S3)))))
set_option maxRecDepth 100000 in
set_option maxHeartbeats 4000000 in
theorem k_X6_emit (l : Launch) (g : GG) (hg : gd wd_M g)  (hM : hs wd_M g 0 6) (S : St) (x1 : Int32) (x2 : Int32) (q : St) (hf : f_X6_emit  S x1 x2 = some q) : Met l yX6_emit (Cond.code yX6_emit cX6_emit 3 none :: gw_tbl) rm_X6_emit (va_Pc [.ref (gg_o g 0), .int x1, .int x2] (wI wd_M g S)) (qc_v wd_M g q) 0 0 (aw g) := by
  refine mt_start (own := RX6) hg (by decide) rfl (Nat.le_of_ble_eq_true rfl) (fun p e s m args below meth c ls H locs cx hw hr hlk hl => ?_)
  have hx := cx.1
  have hb := cx.2.1
  have hown := cx.2.2.2.1
  have hts := cx.2.2.2.2.1
  have hl : lv_has ls 3 [(0, .ref (gg_o g 0)), (1, .int x1), (2, .int x2)] := hl
  replace hf := h_top hf
  unfold f_X6_emit at hf
  refine lv_aload_n hx hb dX6_emit_0 rfl (lv_at hl 0 rfl) ?_
  refine gf_X6_107 cx hw hM dX6_emit_1 ?_
  refine lv_aload_n hx hb dX6_emit_4 rfl (lv_at hl 0 rfl) ?_
  refine gf_X6_269 cx hw hM dX6_emit_5 ?_
  refine lv_iload_n hx hb dX6_emit_8 rfl (lv_at hl 1 rfl) ?_
  refine r_iast cx hw (hM.2.2.1 45 rfl) rfl rfl hf dX6_emit_9 (fun S1 H locs hw hf => ?_)
  refine lv_aload_n hx hb dX6_emit_10 rfl (lv_at hl 0 rfl) ?_
  refine gf_X6_110 cx hw hM dX6_emit_11 ?_
  refine lv_aload_n hx hb dX6_emit_14 rfl (lv_at hl 0 rfl) ?_
  refine gf_X6_269 cx hw hM dX6_emit_15 ?_
  refine lv_iload_n hx hb dX6_emit_18 rfl (lv_at hl 2 rfl) ?_
  refine r_iast cx hw (hM.2.2.1 46 rfl) rfl rfl hf dX6_emit_19 (fun S2 H locs hw hf => ?_)
  refine lv_aload_n hx hb dX6_emit_20 rfl (lv_at hl 0 rfl) ?_
  refine lv_dup hx hb dX6_emit_21 rfl ?_
  refine gf_X6_269 cx hw hM dX6_emit_22 ?_
  refine lv_iconst (v := 1) hx hb dX6_emit_25 (by decide) ?_
  refine lv_iadd hx hb dX6_emit_26 ?_
  refine pf_X6_269 cx hw hM hf dX6_emit_27 (fun S3 H locs hw hf => ?_)
  exact r_vret cx hw hr hlk hf dX6_emit_30
theorem dX6_unit_0 : decode cX6_unit 0 = .ok (.aload_n 0, 1) := by decide +kernel
theorem dX6_unit_1 : decode cX6_unit 1 = .ok (.iconst 2, 1) := by decide +kernel
theorem dX6_unit_2 : decode cX6_unit 2 = .ok (.invokevirtual 245, 3) := by decide +kernel
theorem dX6_unit_5 : decode cX6_unit 5 = .ok (.ifCond .eq 24, 3) := by decide +kernel
theorem dX6_unit_8 : decode cX6_unit 8 = .ok (.aload_n 0, 1) := by decide +kernel
theorem dX6_unit_9 : decode cX6_unit 9 = .ok (.iconst 0, 1) := by decide +kernel
theorem dX6_unit_10 : decode cX6_unit 10 = .ok (.aload_n 0, 1) := by decide +kernel
theorem dX6_unit_11 : decode cX6_unit 11 = .ok (.getfield 27, 3) := by decide +kernel
theorem dX6_unit_14 : decode cX6_unit 14 = .ok (.aload_n 0, 1) := by decide +kernel
theorem dX6_unit_15 : decode cX6_unit 15 = .ok (.getfield 230, 3) := by decide +kernel
theorem dX6_unit_18 : decode cX6_unit 18 = .ok (.iaload, 1) := by decide +kernel
theorem dX6_unit_19 : decode cX6_unit 19 = .ok (.invokevirtual 327, 3) := by decide +kernel
theorem dX6_unit_22 : decode cX6_unit 22 = .ok (.aload_n 0, 1) := by decide +kernel
theorem dX6_unit_23 : decode cX6_unit 23 = .ok (.invokevirtual 248, 3) := by decide +kernel
theorem dX6_unit_26 : decode cX6_unit 26 = .ok (.goto 67, 3) := by decide +kernel
theorem dX6_unit_29 : decode cX6_unit 29 = .ok (.aload_n 0, 1) := by decide +kernel
theorem dX6_unit_30 : decode cX6_unit 30 = .ok (.getfield 227, 3) := by decide +kernel
theorem dX6_unit_33 : decode cX6_unit 33 = .ok (.ifCond .ne 55, 3) := by decide +kernel
theorem dX6_unit_36 : decode cX6_unit 36 = .ok (.aload_n 0, 1) := by decide +kernel
theorem dX6_unit_37 : decode cX6_unit 37 = .ok (.getfield 20, 3) := by decide +kernel
theorem dX6_unit_40 : decode cX6_unit 40 = .ok (.aload_n 0, 1) := by decide +kernel
theorem dX6_unit_41 : decode cX6_unit 41 = .ok (.getfield 230, 3) := by decide +kernel
theorem dX6_unit_44 : decode cX6_unit 44 = .ok (.iaload, 1) := by decide +kernel
theorem dX6_unit_45 : decode cX6_unit 45 = .ok (.bipush 31, 2) := by decide +kernel
theorem dX6_unit_47 : decode cX6_unit 47 = .ok (.if_icmp .lt 41, 3) := by decide +kernel
theorem dX6_unit_50 : decode cX6_unit 50 = .ok (.aload_n 0, 1) := by decide +kernel
theorem dX6_unit_51 : decode cX6_unit 51 = .ok (.getfield 20, 3) := by decide +kernel
theorem dX6_unit_54 : decode cX6_unit 54 = .ok (.aload_n 0, 1) := by decide +kernel
theorem dX6_unit_55 : decode cX6_unit 55 = .ok (.getfield 230, 3) := by decide +kernel
theorem dX6_unit_58 : decode cX6_unit 58 = .ok (.iaload, 1) := by decide +kernel
theorem dX6_unit_59 : decode cX6_unit 59 = .ok (.bipush 36, 2) := by decide +kernel
theorem dX6_unit_61 : decode cX6_unit 61 = .ok (.if_icmp .gt 27, 3) := by decide +kernel
theorem dX6_unit_64 : decode cX6_unit 64 = .ok (.aload_n 0, 1) := by decide +kernel
theorem dX6_unit_65 : decode cX6_unit 65 = .ok (.iconst 1, 1) := by decide +kernel
theorem dX6_unit_66 : decode cX6_unit 66 = .ok (.aload_n 0, 1) := by decide +kernel
theorem dX6_unit_67 : decode cX6_unit 67 = .ok (.getfield 20, 3) := by decide +kernel
theorem dX6_unit_70 : decode cX6_unit 70 = .ok (.aload_n 0, 1) := by decide +kernel
theorem dX6_unit_71 : decode cX6_unit 71 = .ok (.getfield 230, 3) := by decide +kernel
theorem dX6_unit_74 : decode cX6_unit 74 = .ok (.iaload, 1) := by decide +kernel
theorem dX6_unit_75 : decode cX6_unit 75 = .ok (.bipush 31, 2) := by decide +kernel
theorem dX6_unit_77 : decode cX6_unit 77 = .ok (.isub, 1) := by decide +kernel
theorem dX6_unit_78 : decode cX6_unit 78 = .ok (.invokevirtual 327, 3) := by decide +kernel
theorem dX6_unit_81 : decode cX6_unit 81 = .ok (.aload_n 0, 1) := by decide +kernel
theorem dX6_unit_82 : decode cX6_unit 82 = .ok (.invokevirtual 248, 3) := by decide +kernel
theorem dX6_unit_85 : decode cX6_unit 85 = .ok (.goto 8, 3) := by decide +kernel
theorem dX6_unit_88 : decode cX6_unit 88 = .ok (.aload_n 0, 1) := by decide +kernel
theorem dX6_unit_89 : decode cX6_unit 89 = .ok (.iconst 1, 1) := by decide +kernel
theorem dX6_unit_90 : decode cX6_unit 90 = .ok (.invokevirtual 242, 3) := by decide +kernel
theorem dX6_unit_93 : decode cX6_unit 93 = .ok (.return_, 1) := by decide +kernel
abbrev rm_X6_unit : Room := { frames := 2, cells := 0, slots := 0, locals := 41 }
def f_X6_unit_J88 (S : St)  : Option (St) :=
  (f_X6_fail  S (1 : Int32)).bind (fun (q4 : St) => some q4)
def f_X6_unit (S : St)  : Option (St) :=
  (f_X6_is  S (2 : Int32)).bind (fun (q1 : Int32) => if q1 = 0 then (if (st_I S (ky 0 13)) = 0 then (chk (ib (st_I S (ky 0 11)) 403) (if (st_A S (ky 0 5) (st_I S (ky 0 11)).toNatClampNeg) < (31 : Int32) then (f_X6_unit_J88  S ) else (chk (ib (st_I S (ky 0 11)) 403) (if (36 : Int32) < (st_A S (ky 0 5) (st_I S (ky 0 11)).toNatClampNeg) then (f_X6_unit_J88  S ) else (chk (ib (st_I S (ky 0 11)) 403) ((f_X6_emit  S (1 : Int32) ((st_A S (ky 0 5) (st_I S (ky 0 11)).toNatClampNeg) - (31 : Int32))).bind (fun (q7 : St) => (f_X6_goesOn  q7 ).bind (fun (q8 : St) => some q8)))))))) else (f_X6_unit_J88  S )) else (chk (ib (st_I S (ky 0 11)) 403) ((f_X6_emit  S (0 : Int32) (st_A S (ky 0 7) (st_I S (ky 0 11)).toNatClampNeg)).bind (fun (q9 : St) => (f_X6_goesOn  q9 ).bind (fun (q10 : St) => some q10)))))
set_option maxRecDepth 100000 in
set_option maxHeartbeats 4000000 in
theorem k_X6_unit (l : Launch) (g : GG) (hg : gd wd_M g)  (hM : hs wd_M g 0 6) (S : St)  (q : St) (hf : f_X6_unit  S  = some q) : Met l yX6_unit (Cond.code yX6_unit cX6_unit 1 none :: gw_tbl) rm_X6_unit (va_Pc [.ref (gg_o g 0)] (wI wd_M g S)) (qc_v wd_M g q) 0 0 (aw g) := by
  refine mt_start (own := RX6) hg (by decide) rfl (Nat.le_of_ble_eq_true rfl) (fun p e s m args below meth c ls H locs cx hw hr hlk hl => ?_)
  have hx := cx.1
  have hb := cx.2.1
  have hown := cx.2.2.2.1
  have hts := cx.2.2.2.2.1
  have hl : lv_has ls 1 [(0, .ref (gg_o g 0))] := hl
  replace hf := h_top hf
  unfold f_X6_unit at hf
  have J88 : ∀ (ls : Array Slot) (H : Heap) (locs : List Loc) (S : St) , lv_has ls 1 [(0, .ref (gg_o g 0))] → HH wd_M g s S H locs → (f_X6_unit_J88  S ).bind some = some q → W p l e rm_X6_unit s m args below meth c H locs 0 0 (MQ below (qc_v wd_M g q) args s 0 0 (aw g)) (F0 m 88 ls []) := by
    intro ls H locs S  hl hw hf
    unfold f_X6_unit_J88 at hf
    refine lv_aload_n hx hb dX6_unit_88 rfl (lv_at hl 0 rfl) ?_
    refine lv_iconst (v := 1) hx hb dX6_unit_89 (by decide) ?_
    refine r_V_v (As := [.int (1 : Int32)]) (rest := []) cx hw hf hM.2.1 (by rw [hM.1]; rfl) lk_X6_242 (fun q4 hq => k_X6_fail l g hg  hM S (1 : Int32) q4 hq) ⟨⟨rfl, rfl⟩, Nat.le_of_ble_eq_true rfl, Nat.le_of_ble_eq_true rfl⟩ rfl hl.1 rfl (Nat.le_of_ble_eq_true rfl) dX6_unit_90 ⟨Nat.zero_le _, Nat.zero_le _⟩ (fun q4 H locs hw hf => ?_)
    exact r_vret cx hw hr hlk hf dX6_unit_93
  refine lv_aload_n hx hb dX6_unit_0 rfl (lv_at hl 0 rfl) ?_
  refine lv_iconst (v := 2) hx hb dX6_unit_1 (by decide) ?_
  refine r_V_i (As := [.int (2 : Int32)]) (rest := []) cx hw hf hM.2.1 (by rw [hM.1]; rfl) lk_X6_245 (fun q1 hq => k_X6_is l g hg  hM S (2 : Int32) q1 hq) ⟨⟨rfl, rfl⟩, Nat.le_of_ble_eq_true rfl, Nat.le_of_ble_eq_true rfl⟩ rfl hl.1 rfl (Nat.le_of_ble_eq_true rfl) dX6_unit_2 ⟨Nat.zero_le _, Nat.zero_le _⟩ (fun q1 H locs hw hf => ?_)
  refine lv_if_eq hx hb dX6_unit_5 (tgt := 29) rfl (fun hc2 => ?_) (fun hc2 => ?_)
  · replace hf := h_pos hc2 hf
    refine lv_aload_n hx hb dX6_unit_29 rfl (lv_at hl 0 rfl) ?_
    refine gf_X6_227 cx hw hM dX6_unit_30 ?_
    refine lv_if_ne hx hb dX6_unit_33 (tgt := 88) rfl (fun hc3 => ?_) (fun hc3 => ?_)
    · replace hf := h_neg hc3 hf
      exact J88 _ _ _ S (lv_sub hl [0] rfl) hw hf
    replace hf := h_pos hc3 hf
    refine lv_aload_n hx hb dX6_unit_36 rfl (lv_at hl 0 rfl) ?_
    refine gf_X6_20 cx hw hM dX6_unit_37 ?_
    refine lv_aload_n hx hb dX6_unit_40 rfl (lv_at hl 0 rfl) ?_
    refine gf_X6_230 cx hw hM dX6_unit_41 ?_
    refine r_iald cx hw (hM.2.2.1 5 rfl) rfl rfl hf dX6_unit_44 (fun hf => ?_)
    refine lv_bipush (v := 31) hx hb dX6_unit_45 (by decide) ?_
    refine lv_icmp_lt hx hb dX6_unit_47 (tgt := 88) rfl (fun hc5 => ?_) (fun hc5 => ?_)
    · replace hf := h_pos hc5 hf
      exact J88 _ _ _ S (lv_sub hl [0] rfl) hw hf
    replace hf := h_neg hc5 hf
    refine lv_aload_n hx hb dX6_unit_50 rfl (lv_at hl 0 rfl) ?_
    refine gf_X6_20 cx hw hM dX6_unit_51 ?_
    refine lv_aload_n hx hb dX6_unit_54 rfl (lv_at hl 0 rfl) ?_
    refine gf_X6_230 cx hw hM dX6_unit_55 ?_
    refine r_iald cx hw (hM.2.2.1 5 rfl) rfl rfl hf dX6_unit_58 (fun hf => ?_)
    refine lv_bipush (v := 36) hx hb dX6_unit_59 (by decide) ?_
    refine lv_icmp_gt hx hb dX6_unit_61 (tgt := 88) rfl (fun hc6 => ?_) (fun hc6 => ?_)
    · replace hf := h_pos hc6 hf
      exact J88 _ _ _ S (lv_sub hl [0] rfl) hw hf
    replace hf := h_neg hc6 hf
    refine lv_aload_n hx hb dX6_unit_64 rfl (lv_at hl 0 rfl) ?_
    refine lv_iconst (v := 1) hx hb dX6_unit_65 (by decide) ?_
    refine lv_aload_n hx hb dX6_unit_66 rfl (lv_at hl 0 rfl) ?_
    refine gf_X6_20 cx hw hM dX6_unit_67 ?_
    refine lv_aload_n hx hb dX6_unit_70 rfl (lv_at hl 0 rfl) ?_
    refine gf_X6_230 cx hw hM dX6_unit_71 ?_
    refine r_iald cx hw (hM.2.2.1 5 rfl) rfl rfl hf dX6_unit_74 (fun hf => ?_)
    refine lv_bipush (v := 31) hx hb dX6_unit_75 (by decide) ?_
    refine lv_isub hx hb dX6_unit_77 ?_
    refine r_V_v (As := [.int (1 : Int32), .int ((st_A S (ky 0 5) (st_I S (ky 0 11)).toNatClampNeg) - (31 : Int32))]) (rest := []) cx hw hf hM.2.1 (by rw [hM.1]; rfl) lk_X6_327 (fun q7 hq => k_X6_emit l g hg  hM S (1 : Int32) ((st_A S (ky 0 5) (st_I S (ky 0 11)).toNatClampNeg) - (31 : Int32)) q7 hq) ⟨⟨rfl, rfl⟩, Nat.le_of_ble_eq_true rfl, Nat.le_of_ble_eq_true rfl⟩ rfl hl.1 rfl (Nat.le_of_ble_eq_true rfl) dX6_unit_78 ⟨Nat.zero_le _, Nat.zero_le _⟩ (fun q7 H locs hw hf => ?_)
    refine lv_aload_n hx hb dX6_unit_81 rfl (lv_at hl 0 rfl) ?_
    refine r_V_v (As := []) (rest := []) cx hw hf hM.2.1 (by rw [hM.1]; rfl) lk_X6_248 (fun q8 hq => k_X6_goesOn l g hg  hM q7  q8 hq) ⟨⟨rfl, rfl⟩, Nat.le_of_ble_eq_true rfl, Nat.le_of_ble_eq_true rfl⟩ rfl hl.1 rfl (Nat.le_of_ble_eq_true rfl) dX6_unit_82 ⟨Nat.zero_le _, Nat.zero_le _⟩ (fun q8 H locs hw hf => ?_)
    refine lv_goto hx hb dX6_unit_85 (tgt := 93) rfl ?_
    exact r_vret cx hw hr hlk hf dX6_unit_93
  replace hf := h_neg hc2 hf
  refine lv_aload_n hx hb dX6_unit_8 rfl (lv_at hl 0 rfl) ?_
  refine lv_iconst (v := 0) hx hb dX6_unit_9 (by decide) ?_
  refine lv_aload_n hx hb dX6_unit_10 rfl (lv_at hl 0 rfl) ?_
  refine gf_X6_27 cx hw hM dX6_unit_11 ?_
  refine lv_aload_n hx hb dX6_unit_14 rfl (lv_at hl 0 rfl) ?_
  refine gf_X6_230 cx hw hM dX6_unit_15 ?_
  refine r_iald cx hw (hM.2.2.1 7 rfl) rfl rfl hf dX6_unit_18 (fun hf => ?_)
  refine r_V_v (As := [.int (0 : Int32), .int (st_A S (ky 0 7) (st_I S (ky 0 11)).toNatClampNeg)]) (rest := []) cx hw hf hM.2.1 (by rw [hM.1]; rfl) lk_X6_327 (fun q9 hq => k_X6_emit l g hg  hM S (0 : Int32) (st_A S (ky 0 7) (st_I S (ky 0 11)).toNatClampNeg) q9 hq) ⟨⟨rfl, rfl⟩, Nat.le_of_ble_eq_true rfl, Nat.le_of_ble_eq_true rfl⟩ rfl hl.1 rfl (Nat.le_of_ble_eq_true rfl) dX6_unit_19 ⟨Nat.zero_le _, Nat.zero_le _⟩ (fun q9 H locs hw hf => ?_)
  refine lv_aload_n hx hb dX6_unit_22 rfl (lv_at hl 0 rfl) ?_
  refine r_V_v (As := []) (rest := []) cx hw hf hM.2.1 (by rw [hM.1]; rfl) lk_X6_248 (fun q10 hq => k_X6_goesOn l g hg  hM q9  q10 hq) ⟨⟨rfl, rfl⟩, Nat.le_of_ble_eq_true rfl, Nat.le_of_ble_eq_true rfl⟩ rfl hl.1 rfl (Nat.le_of_ble_eq_true rfl) dX6_unit_23 ⟨Nat.zero_le _, Nat.zero_le _⟩ (fun q10 H locs hw hf => ?_)
  refine lv_goto hx hb dX6_unit_26 (tgt := 93) rfl ?_
  exact r_vret cx hw hr hlk hf dX6_unit_93
theorem dX6_comesOut_0 : decode cX6_comesOut 0 = .ok (.aload_n 0, 1) := by decide +kernel
theorem dX6_comesOut_1 : decode cX6_comesOut 1 = .ok (.getfield 324, 3) := by decide +kernel
theorem dX6_comesOut_4 : decode cX6_comesOut 4 = .ok (.ifCond .le 87, 3) := by decide +kernel
theorem dX6_comesOut_7 : decode cX6_comesOut 7 = .ok (.aload_n 0, 1) := by decide +kernel
theorem dX6_comesOut_8 : decode cX6_comesOut 8 = .ok (.getfield 113, 3) := by decide +kernel
theorem dX6_comesOut_11 : decode cX6_comesOut 11 = .ok (.aload_n 0, 1) := by decide +kernel
theorem dX6_comesOut_12 : decode cX6_comesOut 12 = .ok (.getfield 324, 3) := by decide +kernel
theorem dX6_comesOut_15 : decode cX6_comesOut 15 = .ok (.iconst 1, 1) := by decide +kernel
theorem dX6_comesOut_16 : decode cX6_comesOut 16 = .ok (.isub, 1) := by decide +kernel
theorem dX6_comesOut_17 : decode cX6_comesOut 17 = .ok (.iaload, 1) := by decide +kernel
theorem dX6_comesOut_18 : decode cX6_comesOut 18 = .ok (.istore_n 2, 1) := by decide +kernel
theorem dX6_comesOut_19 : decode cX6_comesOut 19 = .ok (.iload_n 2, 1) := by decide +kernel
theorem dX6_comesOut_20 : decode cX6_comesOut 20 = .ok (.bipush 6, 2) := by decide +kernel
theorem dX6_comesOut_22 : decode cX6_comesOut 22 = .ok (.if_icmp .eq 19, 3) := by decide +kernel
theorem dX6_comesOut_25 : decode cX6_comesOut 25 = .ok (.iload_n 1, 1) := by decide +kernel
theorem dX6_comesOut_26 : decode cX6_comesOut 26 = .ok (.ifCond .eq 16, 3) := by decide +kernel
theorem dX6_comesOut_29 : decode cX6_comesOut 29 = .ok (.iload_n 2, 1) := by decide +kernel
theorem dX6_comesOut_30 : decode cX6_comesOut 30 = .ok (.bipush 8, 2) := by decide +kernel
theorem dX6_comesOut_32 : decode cX6_comesOut 32 = .ok (.if_icmp .eq 9, 3) := by decide +kernel
theorem dX6_comesOut_35 : decode cX6_comesOut 35 = .ok (.iload_n 2, 1) := by decide +kernel
theorem dX6_comesOut_36 : decode cX6_comesOut 36 = .ok (.bipush 9, 2) := by decide +kernel
theorem dX6_comesOut_38 : decode cX6_comesOut 38 = .ok (.if_icmp .ne 4, 3) := by decide +kernel
theorem dX6_comesOut_41 : decode cX6_comesOut 41 = .ok (.return_, 1) := by decide +kernel
theorem dX6_comesOut_42 : decode cX6_comesOut 42 = .ok (.aload_n 0, 1) := by decide +kernel
theorem dX6_comesOut_43 : decode cX6_comesOut 43 = .ok (.dup, 1) := by decide +kernel
theorem dX6_comesOut_44 : decode cX6_comesOut 44 = .ok (.getfield 324, 3) := by decide +kernel
theorem dX6_comesOut_47 : decode cX6_comesOut 47 = .ok (.iconst 1, 1) := by decide +kernel
theorem dX6_comesOut_48 : decode cX6_comesOut 48 = .ok (.isub, 1) := by decide +kernel
theorem dX6_comesOut_49 : decode cX6_comesOut 49 = .ok (.putfield 324, 3) := by decide +kernel
theorem dX6_comesOut_52 : decode cX6_comesOut 52 = .ok (.aload_n 0, 1) := by decide +kernel
theorem dX6_comesOut_53 : decode cX6_comesOut 53 = .ok (.iload_n 2, 1) := by decide +kernel
theorem dX6_comesOut_54 : decode cX6_comesOut 54 = .ok (.bipush 8, 2) := by decide +kernel
theorem dX6_comesOut_56 : decode cX6_comesOut 56 = .ok (.if_icmp .ne 7, 3) := by decide +kernel
theorem dX6_comesOut_59 : decode cX6_comesOut 59 = .ok (.iconst 2, 1) := by decide +kernel
theorem dX6_comesOut_60 : decode cX6_comesOut 60 = .ok (.goto 24, 3) := by decide +kernel
theorem dX6_comesOut_63 : decode cX6_comesOut 63 = .ok (.iload_n 2, 1) := by decide +kernel
theorem dX6_comesOut_64 : decode cX6_comesOut 64 = .ok (.bipush 9, 2) := by decide +kernel
theorem dX6_comesOut_66 : decode cX6_comesOut 66 = .ok (.if_icmp .ne 7, 3) := by decide +kernel
theorem dX6_comesOut_69 : decode cX6_comesOut 69 = .ok (.iconst 3, 1) := by decide +kernel
theorem dX6_comesOut_70 : decode cX6_comesOut 70 = .ok (.goto 14, 3) := by decide +kernel
theorem dX6_comesOut_73 : decode cX6_comesOut 73 = .ok (.iload_n 2, 1) := by decide +kernel
theorem dX6_comesOut_74 : decode cX6_comesOut 74 = .ok (.bipush 10, 2) := by decide +kernel
theorem dX6_comesOut_76 : decode cX6_comesOut 76 = .ok (.if_icmp .ne 7, 3) := by decide +kernel
theorem dX6_comesOut_79 : decode cX6_comesOut 79 = .ok (.iconst 4, 1) := by decide +kernel
theorem dX6_comesOut_80 : decode cX6_comesOut 80 = .ok (.goto 4, 3) := by decide +kernel
theorem dX6_comesOut_83 : decode cX6_comesOut 83 = .ok (.iconst 5, 1) := by decide +kernel
theorem dX6_comesOut_84 : decode cX6_comesOut 84 = .ok (.iconst 0, 1) := by decide +kernel
theorem dX6_comesOut_85 : decode cX6_comesOut 85 = .ok (.invokevirtual 327, 3) := by decide +kernel
theorem dX6_comesOut_88 : decode cX6_comesOut 88 = .ok (.goto (-88), 3) := by decide +kernel
theorem dX6_comesOut_91 : decode cX6_comesOut 91 = .ok (.return_, 1) := by decide +kernel
abbrev rm_X6_comesOut : Room := { frames := 1, cells := 0, slots := 0, locals := 22 }
def f_X6_comesOut_J84 (S : St) (x1 : Int32) (y0 : Int32) : Option ((St) ⊕ (St)) :=
  (f_X6_emit  S y0 (0 : Int32)).bind (fun (q9 : St) => some (.inl q9))
def f_X6_comesOut_J42 (S : St) (x1 : Int32) (x2 : Int32) : Option ((St) ⊕ (St)) :=
  lt_v (up_I S (ky 0 48) ((st_I S (ky 0 48)) - (1 : Int32))) (fun (S5 : St) => if x2 = (8 : Int32) then (f_X6_comesOut_J84  S5 x1 (2 : Int32)) else (if x2 = (9 : Int32) then (f_X6_comesOut_J84  S5 x1 (3 : Int32)) else (if x2 = (10 : Int32) then (f_X6_comesOut_J84  S5 x1 (4 : Int32)) else (f_X6_comesOut_J84  S5 x1 (5 : Int32)))))
def f_X6_comesOut_L0 (x1 : Int32) (z0 : St) : Option ((St) ⊕ (St)) :=
  if (st_I z0 (ky 0 48)) ≤ 0 then (some (.inr z0)) else (chk (ib ((st_I z0 (ky 0 48)) - (1 : Int32)) 64) (lt_v (st_A z0 (ky 0 47) ((st_I z0 (ky 0 48)) - (1 : Int32)).toNatClampNeg) (fun (u2 : Int32) => if u2 = (6 : Int32) then (some (.inr z0)) else (if x1 = 0 then (f_X6_comesOut_J42  z0 x1 u2) else (if u2 = (8 : Int32) then (some (.inr z0)) else (if u2 = (9 : Int32) then (some (.inr z0)) else (f_X6_comesOut_J42  z0 x1 u2)))))))
def f_X6_comesOut (S : St) (x1 : Int32) : Option (St) :=
  iter (f_X6_comesOut_L0   x1) FU S
set_option maxRecDepth 100000 in
set_option maxHeartbeats 4000000 in
theorem k_X6_comesOut (l : Launch) (g : GG) (hg : gd wd_M g)  (hM : hs wd_M g 0 6) (S : St) (x1 : Int32) (q : St) (hf : f_X6_comesOut  S x1 = some q) : Met l yX6_comesOut (Cond.code yX6_comesOut cX6_comesOut 3 none :: gw_tbl) rm_X6_comesOut (va_Pc [.ref (gg_o g 0), .int x1] (wI wd_M g S)) (qc_v wd_M g q) 0 0 (aw g) := by
  refine mt_start (own := RX6) hg (by decide) rfl (Nat.le_of_ble_eq_true rfl) (fun p e s m args below meth c ls H locs cx hw hr hlk hl => ?_)
  have hx := cx.1
  have hb := cx.2.1
  have hown := cx.2.2.2.1
  have hts := cx.2.2.2.2.1
  have hl : lv_has ls 3 [(0, .ref (gg_o g 0)), (1, .int x1)] := hl
  replace hf := h_top hf
  unfold f_X6_comesOut at hf
  have L0 : ∀ (x1 : Int32) (aft0 : St → Option (St)), (∀ v : St, aft0 v = some q → (some v : Option (St)).bind some = some q) → ∀ (n0 : Nat) (ls : Array Slot) (H : Heap) (locs : List Loc) (z0 : St), lv_has ls 3 [(0, .ref (gg_o g 0)), (1, .int x1)] → HH wd_M g s z0 H locs → (iter (f_X6_comesOut_L0   x1) n0 z0).bind aft0 = some q → W p l e rm_X6_comesOut s m args below meth c H locs 0 0 (MQ below (qc_v wd_M g q) args s 0 0 (aw g)) (F0 m 0 ls []) := by
    intro x1 aft0 hR0 n0
    induction n0 with
    | zero => intro ls H locs z0 hl hw hf; exact h_iter0 hf
    | succ n0 ih0 =>
      intro ls H locs z0 hl hw hf
      replace hf := h_iter hf
      unfold f_X6_comesOut_L0 at hf
      have J84 : ∀ (ls : Array Slot) (H : Heap) (locs : List Loc) (S : St) (y0 : Int32), lv_has ls 3 [(0, .ref (gg_o g 0)), (1, .int x1)] → HH wd_M g s S H locs → (f_X6_comesOut_J84  S x1 y0).bind (it_K (f_X6_comesOut_L0   x1) n0 aft0) = some q → W p l e rm_X6_comesOut s m args below meth c H locs 0 0 (MQ below (qc_v wd_M g q) args s 0 0 (aw g)) (F0 m 84 ls [.int y0, .ref (gg_o g 0)]) := by
        intro ls H locs S y0 hl hw hf
        unfold f_X6_comesOut_J84 at hf
        refine lv_iconst (v := 0) hx hb dX6_comesOut_84 (by decide) ?_
        refine r_V_v (As := [.int y0, .int (0 : Int32)]) (rest := []) cx hw hf hM.2.1 (by rw [hM.1]; rfl) lk_X6_327 (fun q9 hq => k_X6_emit l g hg  hM S y0 (0 : Int32) q9 hq) ⟨⟨rfl, rfl⟩, Nat.le_of_ble_eq_true rfl, Nat.le_of_ble_eq_true rfl⟩ rfl hl.1 rfl (Nat.le_of_ble_eq_true rfl) dX6_comesOut_85 ⟨Nat.zero_le _, Nat.zero_le _⟩ (fun q9 H locs hw hf => ?_)
        refine lv_goto hx hb dX6_comesOut_88 (tgt := 0) rfl ?_
        exact ih0 _ _ _ q9 (lv_sub hl [0, 1] rfl) hw hf
      have J42 : ∀ (ls : Array Slot) (H : Heap) (locs : List Loc) (S : St) (x2 : Int32), lv_has ls 3 [(0, .ref (gg_o g 0)), (1, .int x1), (2, .int x2)] → HH wd_M g s S H locs → (f_X6_comesOut_J42  S x1 x2).bind (it_K (f_X6_comesOut_L0   x1) n0 aft0) = some q → W p l e rm_X6_comesOut s m args below meth c H locs 0 0 (MQ below (qc_v wd_M g q) args s 0 0 (aw g)) (F0 m 42 ls []) := by
        intro ls H locs S x2 hl hw hf
        unfold f_X6_comesOut_J42 at hf
        refine lv_aload_n hx hb dX6_comesOut_42 rfl (lv_at hl 0 rfl) ?_
        refine lv_dup hx hb dX6_comesOut_43 rfl ?_
        refine gf_X6_324 cx hw hM dX6_comesOut_44 ?_
        refine lv_iconst (v := 1) hx hb dX6_comesOut_47 (by decide) ?_
        refine lv_isub hx hb dX6_comesOut_48 ?_
        refine pf_X6_324 cx hw hM hf dX6_comesOut_49 (fun S5 H locs hw hf => ?_)
        refine lv_aload_n hx hb dX6_comesOut_52 rfl (lv_at hl 0 rfl) ?_
        refine lv_iload_n hx hb dX6_comesOut_53 rfl (lv_at hl 2 rfl) ?_
        refine lv_bipush (v := 8) hx hb dX6_comesOut_54 (by decide) ?_
        refine lv_icmp_ne hx hb dX6_comesOut_56 (tgt := 63) rfl (fun hc6 => ?_) (fun hc6 => ?_)
        · replace hf := h_neg hc6 hf
          refine lv_iload_n hx hb dX6_comesOut_63 rfl (lv_at hl 2 rfl) ?_
          refine lv_bipush (v := 9) hx hb dX6_comesOut_64 (by decide) ?_
          refine lv_icmp_ne hx hb dX6_comesOut_66 (tgt := 73) rfl (fun hc7 => ?_) (fun hc7 => ?_)
          · replace hf := h_neg hc7 hf
            refine lv_iload_n hx hb dX6_comesOut_73 rfl (lv_at hl 2 rfl) ?_
            refine lv_bipush (v := 10) hx hb dX6_comesOut_74 (by decide) ?_
            refine lv_icmp_ne hx hb dX6_comesOut_76 (tgt := 83) rfl (fun hc8 => ?_) (fun hc8 => ?_)
            · replace hf := h_neg hc8 hf
              refine lv_iconst (v := 5) hx hb dX6_comesOut_83 (by decide) ?_
              exact J84 _ _ _ S5 (5 : Int32) (lv_sub hl [0, 1] rfl) hw hf
            replace hf := h_pos hc8 hf
            refine lv_iconst (v := 4) hx hb dX6_comesOut_79 (by decide) ?_
            refine lv_goto hx hb dX6_comesOut_80 (tgt := 84) rfl ?_
            exact J84 _ _ _ S5 (4 : Int32) (lv_sub hl [0, 1] rfl) hw hf
          replace hf := h_pos hc7 hf
          refine lv_iconst (v := 3) hx hb dX6_comesOut_69 (by decide) ?_
          refine lv_goto hx hb dX6_comesOut_70 (tgt := 84) rfl ?_
          exact J84 _ _ _ S5 (3 : Int32) (lv_sub hl [0, 1] rfl) hw hf
        replace hf := h_pos hc6 hf
        refine lv_iconst (v := 2) hx hb dX6_comesOut_59 (by decide) ?_
        refine lv_goto hx hb dX6_comesOut_60 (tgt := 84) rfl ?_
        exact J84 _ _ _ S5 (2 : Int32) (lv_sub hl [0, 1] rfl) hw hf
      refine lv_aload_n hx hb dX6_comesOut_0 rfl (lv_at hl 0 rfl) ?_
      refine gf_X6_324 cx hw hM dX6_comesOut_1 ?_
      refine lv_if_le hx hb dX6_comesOut_4 (tgt := 91) rfl (fun hc1 => ?_) (fun hc1 => ?_)
      · replace hf := h_pos hc1 hf
        replace hf := hR0 z0 hf
        exact r_vret cx hw hr hlk hf dX6_comesOut_91
      replace hf := h_neg hc1 hf
      refine lv_aload_n hx hb dX6_comesOut_7 rfl (lv_at hl 0 rfl) ?_
      refine gf_X6_113 cx hw hM dX6_comesOut_8 ?_
      refine lv_aload_n hx hb dX6_comesOut_11 rfl (lv_at hl 0 rfl) ?_
      refine gf_X6_324 cx hw hM dX6_comesOut_12 ?_
      refine lv_iconst (v := 1) hx hb dX6_comesOut_15 (by decide) ?_
      refine lv_isub hx hb dX6_comesOut_16 ?_
      refine r_iald cx hw (hM.2.2.1 47 rfl) rfl rfl hf dX6_comesOut_17 (fun hf => ?_)
      refine r_leti hf (fun u2 hf => ?_)
      refine lv_istore_n hx hb dX6_comesOut_18 rfl hl (by decide) (lv' := [(2, .int u2), (0, .ref (gg_o g 0)), (1, .int x1)]) rfl (fun ls hl => ?_)
      refine lv_iload_n hx hb dX6_comesOut_19 rfl (lv_at hl 0 rfl) ?_
      refine lv_bipush (v := 6) hx hb dX6_comesOut_20 (by decide) ?_
      refine lv_icmp_eq hx hb dX6_comesOut_22 (tgt := 41) rfl (fun hc3 => ?_) (fun hc3 => ?_)
      · replace hf := h_pos hc3 hf
        replace hf := hR0 z0 hf
        exact r_vret cx hw hr hlk hf dX6_comesOut_41
      replace hf := h_neg hc3 hf
      refine lv_iload_n hx hb dX6_comesOut_25 rfl (lv_at hl 2 rfl) ?_
      refine lv_if_eq hx hb dX6_comesOut_26 (tgt := 42) rfl (fun hc4 => ?_) (fun hc4 => ?_)
      · replace hf := h_pos hc4 hf
        exact J42 _ _ _ z0 u2 (lv_sub hl [1, 2, 0] rfl) hw hf
      replace hf := h_neg hc4 hf
      refine lv_iload_n hx hb dX6_comesOut_29 rfl (lv_at hl 0 rfl) ?_
      refine lv_bipush (v := 8) hx hb dX6_comesOut_30 (by decide) ?_
      refine lv_icmp_eq hx hb dX6_comesOut_32 (tgt := 41) rfl (fun hc10 => ?_) (fun hc10 => ?_)
      · replace hf := h_pos hc10 hf
        replace hf := hR0 z0 hf
        exact r_vret cx hw hr hlk hf dX6_comesOut_41
      replace hf := h_neg hc10 hf
      refine lv_iload_n hx hb dX6_comesOut_35 rfl (lv_at hl 0 rfl) ?_
      refine lv_bipush (v := 9) hx hb dX6_comesOut_36 (by decide) ?_
      refine lv_icmp_ne hx hb dX6_comesOut_38 (tgt := 42) rfl (fun hc11 => ?_) (fun hc11 => ?_)
      · replace hf := h_neg hc11 hf
        exact J42 _ _ _ z0 u2 (lv_sub hl [1, 2, 0] rfl) hw hf
      replace hf := h_pos hc11 hf
      replace hf := hR0 z0 hf
      exact r_vret cx hw hr hlk hf dX6_comesOut_41
  exact L0 x1 some (fun v h => h) FU _ _ _ S (lv_sub hl [0, 1] rfl) hw hf
theorem dX6_expression_0 : decode cX6_expression 0 = .ok (.aload_n 0, 1) := by decide +kernel
theorem dX6_expression_1 : decode cX6_expression 1 = .ok (.iconst 0, 1) := by decide +kernel
theorem dX6_expression_2 : decode cX6_expression 2 = .ok (.putfield 324, 3) := by decide +kernel
theorem dX6_expression_5 : decode cX6_expression 5 = .ok (.aload_n 0, 1) := by decide +kernel
theorem dX6_expression_6 : decode cX6_expression 6 = .ok (.getfield 254, 3) := by decide +kernel
theorem dX6_expression_9 : decode cX6_expression 9 = .ok (.istore_n 1, 1) := by decide +kernel
theorem dX6_expression_10 : decode cX6_expression 10 = .ok (.iconst 1, 1) := by decide +kernel
theorem dX6_expression_11 : decode cX6_expression 11 = .ok (.istore_n 2, 1) := by decide +kernel
theorem dX6_expression_12 : decode cX6_expression 12 = .ok (.iload_n 2, 1) := by decide +kernel
theorem dX6_expression_13 : decode cX6_expression 13 = .ok (.ifCond .eq 259, 3) := by decide +kernel
theorem dX6_expression_16 : decode cX6_expression 16 = .ok (.aload_n 0, 1) := by decide +kernel
theorem dX6_expression_17 : decode cX6_expression 17 = .ok (.getfield 227, 3) := by decide +kernel
theorem dX6_expression_20 : decode cX6_expression 20 = .ok (.ifCond .ne 252, 3) := by decide +kernel
theorem dX6_expression_23 : decode cX6_expression 23 = .ok (.aload_n 0, 1) := by decide +kernel
theorem dX6_expression_24 : decode cX6_expression 24 = .ok (.bipush 6, 2) := by decide +kernel
theorem dX6_expression_26 : decode cX6_expression 26 = .ok (.invokevirtual 245, 3) := by decide +kernel
theorem dX6_expression_29 : decode cX6_expression 29 = .ok (.ifCond .eq 55, 3) := by decide +kernel
theorem dX6_expression_32 : decode cX6_expression 32 = .ok (.aload_n 0, 1) := by decide +kernel
theorem dX6_expression_33 : decode cX6_expression 33 = .ok (.getfield 254, 3) := by decide +kernel
theorem dX6_expression_36 : decode cX6_expression 36 = .ok (.bipush 6, 2) := by decide +kernel
theorem dX6_expression_38 : decode cX6_expression 38 = .ok (.if_icmp .ne 8, 3) := by decide +kernel
theorem dX6_expression_41 : decode cX6_expression 41 = .ok (.aload_n 0, 1) := by decide +kernel
theorem dX6_expression_42 : decode cX6_expression 42 = .ok (.iconst 2, 1) := by decide +kernel
theorem dX6_expression_43 : decode cX6_expression 43 = .ok (.invokevirtual 242, 3) := by decide +kernel
theorem dX6_expression_46 : decode cX6_expression 46 = .ok (.aload_n 0, 1) := by decide +kernel
theorem dX6_expression_47 : decode cX6_expression 47 = .ok (.dup, 1) := by decide +kernel
theorem dX6_expression_48 : decode cX6_expression 48 = .ok (.getfield 254, 3) := by decide +kernel
theorem dX6_expression_51 : decode cX6_expression 51 = .ok (.iconst 1, 1) := by decide +kernel
theorem dX6_expression_52 : decode cX6_expression 52 = .ok (.iadd, 1) := by decide +kernel
theorem dX6_expression_53 : decode cX6_expression 53 = .ok (.putfield 254, 3) := by decide +kernel
theorem dX6_expression_56 : decode cX6_expression 56 = .ok (.aload_n 0, 1) := by decide +kernel
theorem dX6_expression_57 : decode cX6_expression 57 = .ok (.invokevirtual 248, 3) := by decide +kernel
theorem dX6_expression_60 : decode cX6_expression 60 = .ok (.aload_n 0, 1) := by decide +kernel
theorem dX6_expression_61 : decode cX6_expression 61 = .ok (.getfield 113, 3) := by decide +kernel
theorem dX6_expression_64 : decode cX6_expression 64 = .ok (.aload_n 0, 1) := by decide +kernel
theorem dX6_expression_65 : decode cX6_expression 65 = .ok (.getfield 324, 3) := by decide +kernel
theorem dX6_expression_68 : decode cX6_expression 68 = .ok (.bipush 6, 2) := by decide +kernel
theorem dX6_expression_70 : decode cX6_expression 70 = .ok (.iastore, 1) := by decide +kernel
theorem dX6_expression_71 : decode cX6_expression 71 = .ok (.aload_n 0, 1) := by decide +kernel
theorem dX6_expression_72 : decode cX6_expression 72 = .ok (.dup, 1) := by decide +kernel
theorem dX6_expression_73 : decode cX6_expression 73 = .ok (.getfield 324, 3) := by decide +kernel
theorem dX6_expression_76 : decode cX6_expression 76 = .ok (.iconst 1, 1) := by decide +kernel
theorem dX6_expression_77 : decode cX6_expression 77 = .ok (.iadd, 1) := by decide +kernel
theorem dX6_expression_78 : decode cX6_expression 78 = .ok (.putfield 324, 3) := by decide +kernel
theorem dX6_expression_81 : decode cX6_expression 81 = .ok (.goto (-58), 3) := by decide +kernel
theorem dX6_expression_84 : decode cX6_expression 84 = .ok (.aload_n 0, 1) := by decide +kernel
theorem dX6_expression_85 : decode cX6_expression 85 = .ok (.invokevirtual 330, 3) := by decide +kernel
theorem dX6_expression_88 : decode cX6_expression 88 = .ok (.aload_n 0, 1) := by decide +kernel
theorem dX6_expression_89 : decode cX6_expression 89 = .ok (.getfield 227, 3) := by decide +kernel
theorem dX6_expression_92 : decode cX6_expression 92 = .ok (.ifCond .le 4, 3) := by decide +kernel
theorem dX6_expression_95 : decode cX6_expression 95 = .ok (.return_, 1) := by decide +kernel
theorem dX6_expression_96 : decode cX6_expression 96 = .ok (.aload_n 0, 1) := by decide +kernel
theorem dX6_expression_97 : decode cX6_expression 97 = .ok (.bipush 7, 2) := by decide +kernel
theorem dX6_expression_99 : decode cX6_expression 99 = .ok (.invokevirtual 245, 3) := by decide +kernel
theorem dX6_expression_102 : decode cX6_expression 102 = .ok (.ifCond .eq 43, 3) := by decide +kernel
theorem dX6_expression_105 : decode cX6_expression 105 = .ok (.aload_n 0, 1) := by decide +kernel
theorem dX6_expression_106 : decode cX6_expression 106 = .ok (.getfield 254, 3) := by decide +kernel
theorem dX6_expression_109 : decode cX6_expression 109 = .ok (.iload_n 1, 1) := by decide +kernel
theorem dX6_expression_110 : decode cX6_expression 110 = .ok (.if_icmp .le 35, 3) := by decide +kernel
theorem dX6_expression_113 : decode cX6_expression 113 = .ok (.aload_n 0, 1) := by decide +kernel
theorem dX6_expression_114 : decode cX6_expression 114 = .ok (.iconst 0, 1) := by decide +kernel
theorem dX6_expression_115 : decode cX6_expression 115 = .ok (.invokevirtual 333, 3) := by decide +kernel
theorem dX6_expression_118 : decode cX6_expression 118 = .ok (.aload_n 0, 1) := by decide +kernel
theorem dX6_expression_119 : decode cX6_expression 119 = .ok (.dup, 1) := by decide +kernel
theorem dX6_expression_120 : decode cX6_expression 120 = .ok (.getfield 324, 3) := by decide +kernel
theorem dX6_expression_123 : decode cX6_expression 123 = .ok (.iconst 1, 1) := by decide +kernel
theorem dX6_expression_124 : decode cX6_expression 124 = .ok (.isub, 1) := by decide +kernel
theorem dX6_expression_125 : decode cX6_expression 125 = .ok (.putfield 324, 3) := by decide +kernel
theorem dX6_expression_128 : decode cX6_expression 128 = .ok (.aload_n 0, 1) := by decide +kernel
theorem dX6_expression_129 : decode cX6_expression 129 = .ok (.dup, 1) := by decide +kernel
theorem dX6_expression_130 : decode cX6_expression 130 = .ok (.getfield 254, 3) := by decide +kernel
theorem dX6_expression_133 : decode cX6_expression 133 = .ok (.iconst 1, 1) := by decide +kernel
theorem dX6_expression_134 : decode cX6_expression 134 = .ok (.isub, 1) := by decide +kernel
theorem dX6_expression_135 : decode cX6_expression 135 = .ok (.putfield 254, 3) := by decide +kernel
theorem dX6_expression_138 : decode cX6_expression 138 = .ok (.aload_n 0, 1) := by decide +kernel
theorem dX6_expression_139 : decode cX6_expression 139 = .ok (.invokevirtual 248, 3) := by decide +kernel
theorem dX6_expression_142 : decode cX6_expression 142 = .ok (.goto (-46), 3) := by decide +kernel
theorem dX6_expression_145 : decode cX6_expression 145 = .ok (.aload_n 0, 1) := by decide +kernel
theorem dX6_expression_146 : decode cX6_expression 146 = .ok (.bipush 8, 2) := by decide +kernel
theorem dX6_expression_148 : decode cX6_expression 148 = .ok (.invokevirtual 245, 3) := by decide +kernel
theorem dX6_expression_151 : decode cX6_expression 151 = .ok (.ifCond .ne 30, 3) := by decide +kernel
theorem dX6_expression_154 : decode cX6_expression 154 = .ok (.aload_n 0, 1) := by decide +kernel
theorem dX6_expression_155 : decode cX6_expression 155 = .ok (.bipush 9, 2) := by decide +kernel
theorem dX6_expression_157 : decode cX6_expression 157 = .ok (.invokevirtual 245, 3) := by decide +kernel
theorem dX6_expression_160 : decode cX6_expression 160 = .ok (.ifCond .ne 21, 3) := by decide +kernel
theorem dX6_expression_163 : decode cX6_expression 163 = .ok (.aload_n 0, 1) := by decide +kernel
theorem dX6_expression_164 : decode cX6_expression 164 = .ok (.bipush 10, 2) := by decide +kernel
theorem dX6_expression_166 : decode cX6_expression 166 = .ok (.invokevirtual 245, 3) := by decide +kernel
theorem dX6_expression_169 : decode cX6_expression 169 = .ok (.ifCond .ne 12, 3) := by decide +kernel
theorem dX6_expression_172 : decode cX6_expression 172 = .ok (.aload_n 0, 1) := by decide +kernel
theorem dX6_expression_173 : decode cX6_expression 173 = .ok (.bipush 15, 2) := by decide +kernel
theorem dX6_expression_175 : decode cX6_expression 175 = .ok (.invokevirtual 245, 3) := by decide +kernel
theorem dX6_expression_178 : decode cX6_expression 178 = .ok (.ifCond .eq 7, 3) := by decide +kernel
theorem dX6_expression_181 : decode cX6_expression 181 = .ok (.iconst 1, 1) := by decide +kernel
theorem dX6_expression_182 : decode cX6_expression 182 = .ok (.goto 4, 3) := by decide +kernel
theorem dX6_expression_185 : decode cX6_expression 185 = .ok (.iconst 0, 1) := by decide +kernel
theorem dX6_expression_186 : decode cX6_expression 186 = .ok (.istore_n 2, 1) := by decide +kernel
theorem dX6_expression_187 : decode cX6_expression 187 = .ok (.iload_n 2, 1) := by decide +kernel
theorem dX6_expression_188 : decode cX6_expression 188 = .ok (.ifCond .ne 22, 3) := by decide +kernel
theorem dX6_expression_191 : decode cX6_expression 191 = .ok (.aload_n 0, 1) := by decide +kernel
theorem dX6_expression_192 : decode cX6_expression 192 = .ok (.getfield 254, 3) := by decide +kernel
theorem dX6_expression_195 : decode cX6_expression 195 = .ok (.iload_n 1, 1) := by decide +kernel
theorem dX6_expression_196 : decode cX6_expression 196 = .ok (.if_icmp .le 8, 3) := by decide +kernel
theorem dX6_expression_199 : decode cX6_expression 199 = .ok (.aload_n 0, 1) := by decide +kernel
theorem dX6_expression_200 : decode cX6_expression 200 = .ok (.iconst 1, 1) := by decide +kernel
theorem dX6_expression_201 : decode cX6_expression 201 = .ok (.invokevirtual 242, 3) := by decide +kernel
theorem dX6_expression_204 : decode cX6_expression 204 = .ok (.aload_n 0, 1) := by decide +kernel
theorem dX6_expression_205 : decode cX6_expression 205 = .ok (.iconst 0, 1) := by decide +kernel
theorem dX6_expression_206 : decode cX6_expression 206 = .ok (.invokevirtual 333, 3) := by decide +kernel
theorem dX6_expression_209 : decode cX6_expression 209 = .ok (.return_, 1) := by decide +kernel
theorem dX6_expression_210 : decode cX6_expression 210 = .ok (.aload_n 0, 1) := by decide +kernel
theorem dX6_expression_211 : decode cX6_expression 211 = .ok (.aload_n 0, 1) := by decide +kernel
theorem dX6_expression_212 : decode cX6_expression 212 = .ok (.bipush 10, 2) := by decide +kernel
theorem dX6_expression_214 : decode cX6_expression 214 = .ok (.invokevirtual 245, 3) := by decide +kernel
theorem dX6_expression_217 : decode cX6_expression 217 = .ok (.ifCond .ne 12, 3) := by decide +kernel
theorem dX6_expression_220 : decode cX6_expression 220 = .ok (.aload_n 0, 1) := by decide +kernel
theorem dX6_expression_221 : decode cX6_expression 221 = .ok (.bipush 15, 2) := by decide +kernel
theorem dX6_expression_223 : decode cX6_expression 223 = .ok (.invokevirtual 245, 3) := by decide +kernel
theorem dX6_expression_226 : decode cX6_expression 226 = .ok (.ifCond .eq 7, 3) := by decide +kernel
theorem dX6_expression_229 : decode cX6_expression 229 = .ok (.iconst 1, 1) := by decide +kernel
theorem dX6_expression_230 : decode cX6_expression 230 = .ok (.goto 4, 3) := by decide +kernel
theorem dX6_expression_233 : decode cX6_expression 233 = .ok (.iconst 0, 1) := by decide +kernel
theorem dX6_expression_234 : decode cX6_expression 234 = .ok (.invokevirtual 333, 3) := by decide +kernel
theorem dX6_expression_237 : decode cX6_expression 237 = .ok (.aload_n 0, 1) := by decide +kernel
theorem dX6_expression_238 : decode cX6_expression 238 = .ok (.getfield 113, 3) := by decide +kernel
theorem dX6_expression_241 : decode cX6_expression 241 = .ok (.aload_n 0, 1) := by decide +kernel
theorem dX6_expression_242 : decode cX6_expression 242 = .ok (.getfield 324, 3) := by decide +kernel
theorem dX6_expression_245 : decode cX6_expression 245 = .ok (.aload_n 0, 1) := by decide +kernel
theorem dX6_expression_246 : decode cX6_expression 246 = .ok (.getfield 20, 3) := by decide +kernel
theorem dX6_expression_249 : decode cX6_expression 249 = .ok (.aload_n 0, 1) := by decide +kernel
theorem dX6_expression_250 : decode cX6_expression 250 = .ok (.getfield 230, 3) := by decide +kernel
theorem dX6_expression_253 : decode cX6_expression 253 = .ok (.iaload, 1) := by decide +kernel
theorem dX6_expression_254 : decode cX6_expression 254 = .ok (.iastore, 1) := by decide +kernel
theorem dX6_expression_255 : decode cX6_expression 255 = .ok (.aload_n 0, 1) := by decide +kernel
theorem dX6_expression_256 : decode cX6_expression 256 = .ok (.dup, 1) := by decide +kernel
theorem dX6_expression_257 : decode cX6_expression 257 = .ok (.getfield 324, 3) := by decide +kernel
theorem dX6_expression_260 : decode cX6_expression 260 = .ok (.iconst 1, 1) := by decide +kernel
theorem dX6_expression_261 : decode cX6_expression 261 = .ok (.iadd, 1) := by decide +kernel
theorem dX6_expression_262 : decode cX6_expression 262 = .ok (.putfield 324, 3) := by decide +kernel
theorem dX6_expression_265 : decode cX6_expression 265 = .ok (.aload_n 0, 1) := by decide +kernel
theorem dX6_expression_266 : decode cX6_expression 266 = .ok (.invokevirtual 248, 3) := by decide +kernel
theorem dX6_expression_269 : decode cX6_expression 269 = .ok (.goto (-257), 3) := by decide +kernel
theorem dX6_expression_272 : decode cX6_expression 272 = .ok (.return_, 1) := by decide +kernel
abbrev rm_X6_expression : Room := { frames := 3, cells := 0, slots := 0, locals := 61 }
def f_X6_expression_J46 (S : St) (x1 : Int32) : Option ((St) ⊕ (St)) :=
  lt_v (up_I S (ky 0 12) ((st_I S (ky 0 12)) + (1 : Int32))) (fun (S7 : St) => (f_X6_goesOn  S7 ).bind (fun (q8 : St) => chk (ib (st_I q8 (ky 0 48)) 64) (lt_v (up_A q8 (ky 0 47) (upd (st_A q8 (ky 0 47)) (st_I q8 (ky 0 48)).toNatClampNeg (6 : Int32))) (fun (S9 : St) => lt_v (up_I S9 (ky 0 48) ((st_I S9 (ky 0 48)) + (1 : Int32))) (fun (S10 : St) => some (.inl S10))))))
def f_X6_expression_L23 (x1 : Int32) (z23 : St) : Option ((St) ⊕ (St)) :=
  (f_X6_is  z23 (6 : Int32)).bind (fun (q4 : Int32) => if q4 = 0 then (some (.inr z23)) else (if (st_I z23 (ky 0 12)) = (6 : Int32) then ((f_X6_fail  z23 (2 : Int32)).bind (fun (q11 : St) => f_X6_expression_J46  q11 x1)) else (f_X6_expression_J46  z23 x1)))
def f_X6_expression_L96 (x1 : Int32) (z96 : St) : Option ((St) ⊕ (St)) :=
  (f_X6_is  z96 (7 : Int32)).bind (fun (q15 : Int32) => if q15 = 0 then (some (.inr z96)) else (if (st_I z96 (ky 0 12)) ≤ x1 then (some (.inr z96)) else ((f_X6_comesOut  z96 (0 : Int32)).bind (fun (q18 : St) => lt_v (up_I q18 (ky 0 48) ((st_I q18 (ky 0 48)) - (1 : Int32))) (fun (S19 : St) => lt_v (up_I S19 (ky 0 12) ((st_I S19 (ky 0 12)) - (1 : Int32))) (fun (S20 : St) => (f_X6_goesOn  S20 ).bind (fun (q21 : St) => some (.inl q21))))))))
def f_X6_expression_J234 (S : St) (x1 : Int32) (x2 : Int32) (y0 : Int32) : Option ((Int32 × St) ⊕ ((St) ⊕ (St))) :=
  (f_X6_comesOut  S y0).bind (fun (q28 : St) => chk (ib (st_I q28 (ky 0 11)) 403) (chk (ib (st_I q28 (ky 0 48)) 64) (lt_v (up_A q28 (ky 0 47) (upd (st_A q28 (ky 0 47)) (st_I q28 (ky 0 48)).toNatClampNeg (st_A q28 (ky 0 5) (st_I q28 (ky 0 11)).toNatClampNeg))) (fun (S29 : St) => lt_v (up_I S29 (ky 0 48) ((st_I S29 (ky 0 48)) + (1 : Int32))) (fun (S30 : St) => (f_X6_goesOn  S30 ).bind (fun (q31 : St) => some (.inl (x2, q31))))))))
def f_X6_expression_J229 (S : St) (x1 : Int32) (x2 : Int32) : Option ((Int32 × St) ⊕ ((St) ⊕ (St))) :=
  f_X6_expression_J234  S x1 x2 (1 : Int32)
def f_X6_expression_J186 (S : St) (x1 : Int32) (y0 : Int32) : Option ((Int32 × St) ⊕ ((St) ⊕ (St))) :=
  if y0 = 0 then (some (.inr (.inl S))) else ((f_X6_is  S (10 : Int32)).bind (fun (q26 : Int32) => if q26 = 0 then ((f_X6_is  S (15 : Int32)).bind (fun (q32 : Int32) => if q32 = 0 then (f_X6_expression_J234  S x1 y0 (0 : Int32)) else (f_X6_expression_J229  S x1 y0))) else (f_X6_expression_J229  S x1 y0)))
def f_X6_expression_J181 (S : St) (x1 : Int32) : Option ((Int32 × St) ⊕ ((St) ⊕ (St))) :=
  f_X6_expression_J186  S x1 (1 : Int32)
def f_X6_expression_J145 (S : St) (x1 : Int32) : Option ((Int32 × St) ⊕ ((St) ⊕ (St))) :=
  (f_X6_is  S (8 : Int32)).bind (fun (q23 : Int32) => if q23 = 0 then ((f_X6_is  S (9 : Int32)).bind (fun (q34 : Int32) => if q34 = 0 then ((f_X6_is  S (10 : Int32)).bind (fun (q36 : Int32) => if q36 = 0 then ((f_X6_is  S (15 : Int32)).bind (fun (q38 : Int32) => if q38 = 0 then (f_X6_expression_J186  S x1 (0 : Int32)) else (f_X6_expression_J181  S x1))) else (f_X6_expression_J181  S x1))) else (f_X6_expression_J181  S x1))) else (f_X6_expression_J181  S x1))
def f_X6_expression_L12 (x1 : Int32) (z12 : Int32 × St) : Option ((Int32 × St) ⊕ ((St) ⊕ (St))) :=
  if z12.1 = 0 then (some (.inr (.inr z12.2))) else (if (st_I z12.2 (ky 0 13)) = 0 then ((iter (f_X6_expression_L23   x1) FU z12.2).bind (fun (S12 : St) => (f_X6_unit  S12 ).bind (fun (q13 : St) => if (st_I q13 (ky 0 13)) ≤ 0 then ((iter (f_X6_expression_L96   x1) FU q13).bind (fun (S22 : St) => f_X6_expression_J145  S22 x1)) else (some (.inr (.inr q13)))))) else (some (.inr (.inr z12.2))))
def f_X6_expression_J204 (S : St)  : Option (St) :=
  (f_X6_comesOut  S (0 : Int32)).bind (fun (q44 : St) => some q44)
def f_X6_expression (S : St)  : Option (St) :=
  lt_v (up_I S (ky 0 48) (0 : Int32)) (fun (S1 : St) => (iter (f_X6_expression_L12   (st_I S1 (ky 0 12))) FU ((1 : Int32), S1)).bind fun z => match z with | .inl z => (fun (S42 : St) => if (st_I S42 (ky 0 12)) ≤ (st_I S1 (ky 0 12)) then (f_X6_expression_J204  S42 ) else ((f_X6_fail  S42 (1 : Int32)).bind (fun (q45 : St) => f_X6_expression_J204  q45 ))) z | .inr v47 => some v47)
set_option maxRecDepth 100000 in
set_option maxHeartbeats 4000000 in
theorem k_X6_expression (l : Launch) (g : GG) (hg : gd wd_M g)  (hM : hs wd_M g 0 6) (S : St)  (q : St) (hf : f_X6_expression  S  = some q) : Met l yX6_expression (Cond.code yX6_expression cX6_expression 3 none :: gw_tbl) rm_X6_expression (va_Pc [.ref (gg_o g 0)] (wI wd_M g S)) (qc_v wd_M g q) 0 0 (aw g) := by
  refine mt_start (own := RX6) hg (by decide) rfl (Nat.le_of_ble_eq_true rfl) (fun p e s m args below meth c ls H locs cx hw hr hlk hl => ?_)
  have hx := cx.1
  have hb := cx.2.1
  have hown := cx.2.2.2.1
  have hts := cx.2.2.2.2.1
  have hl : lv_has ls 3 [(0, .ref (gg_o g 0))] := hl
  replace hf := h_top hf
  unfold f_X6_expression at hf
  have J204 : ∀ (ls : Array Slot) (H : Heap) (locs : List Loc) (S : St) , lv_has ls 3 [(0, .ref (gg_o g 0))] → HH wd_M g s S H locs → (f_X6_expression_J204  S ).bind some = some q → W p l e rm_X6_expression s m args below meth c H locs 0 0 (MQ below (qc_v wd_M g q) args s 0 0 (aw g)) (F0 m 204 ls []) := by
    intro ls H locs S  hl hw hf
    unfold f_X6_expression_J204 at hf
    refine lv_aload_n hx hb dX6_expression_204 rfl (lv_at hl 0 rfl) ?_
    refine lv_iconst (v := 0) hx hb dX6_expression_205 (by decide) ?_
    refine r_V_v (As := [.int (0 : Int32)]) (rest := []) cx hw hf hM.2.1 (by rw [hM.1]; rfl) lk_X6_333 (fun q44 hq => k_X6_comesOut l g hg  hM S (0 : Int32) q44 hq) ⟨⟨rfl, rfl⟩, Nat.le_of_ble_eq_true rfl, Nat.le_of_ble_eq_true rfl⟩ rfl hl.1 rfl (Nat.le_of_ble_eq_true rfl) dX6_expression_206 ⟨Nat.zero_le _, Nat.zero_le _⟩ (fun q44 H locs hw hf => ?_)
    exact r_vret cx hw hr hlk hf dX6_expression_209
  refine lv_aload_n hx hb dX6_expression_0 rfl (lv_at hl 0 rfl) ?_
  refine lv_iconst (v := 0) hx hb dX6_expression_1 (by decide) ?_
  refine pf_X6_324 cx hw hM hf dX6_expression_2 (fun S1 H locs hw hf => ?_)
  refine lv_aload_n hx hb dX6_expression_5 rfl (lv_at hl 0 rfl) ?_
  refine gf_X6_254 cx hw hM dX6_expression_6 ?_
  refine lv_istore_n hx hb dX6_expression_9 rfl hl (by decide) (lv' := [(1, .int (st_I S1 (ky 0 12))), (0, .ref (gg_o g 0))]) rfl (fun ls hl => ?_)
  refine lv_iconst (v := 1) hx hb dX6_expression_10 (by decide) ?_
  refine lv_istore_n hx hb dX6_expression_11 rfl hl (by decide) (lv' := [(2, .int (1 : Int32)), (1, .int (st_I S1 (ky 0 12))), (0, .ref (gg_o g 0))]) rfl (fun ls hl => ?_)
  have L12 : ∀ (x1 : Int32) (aft12 : ((St) ⊕ (St)) → Option (St)), (∀ (ls : Array Slot) (H : Heap) (locs : List Loc) (S1 : St), lv_has ls 3 [(0, .ref (gg_o g 0)), (1, .int x1)] → HH wd_M g s S1 H locs → aft12 (.inl S1) = some q → W p l e rm_X6_expression s m args below meth c H locs 0 0 (MQ below (qc_v wd_M g q) args s 0 0 (aw g)) (F0 m 191 ls [])) → (∀ v : St, aft12 (.inr v) = some q → (some v : Option (St)).bind some = some q) → ∀ (n12 : Nat) (ls : Array Slot) (H : Heap) (locs : List Loc) (z12 : Int32 × St), lv_has ls 3 [(0, .ref (gg_o g 0)), (1, .int x1), (2, .int z12.1)] → HH wd_M g s z12.2 H locs → (iter (f_X6_expression_L12   x1) n12 z12).bind aft12 = some q → W p l e rm_X6_expression s m args below meth c H locs 0 0 (MQ below (qc_v wd_M g q) args s 0 0 (aw g)) (F0 m 12 ls []) := by
    intro x1 aft12 hX12 hR12 n12
    induction n12 with
    | zero => intro ls H locs z12 hl hw hf; exact h_iter0 hf
    | succ n12 ih12 =>
      intro ls H locs z12 hl hw hf
      replace hf := h_iter hf
      unfold f_X6_expression_L12 at hf
      have J234 : ∀ (ls : Array Slot) (H : Heap) (locs : List Loc) (S : St) (x2 : Int32) (y0 : Int32), lv_has ls 3 [(0, .ref (gg_o g 0)), (1, .int x1), (2, .int x2)] → HH wd_M g s S H locs → (f_X6_expression_J234  S x1 x2 y0).bind (it_K (f_X6_expression_L12   x1) n12 aft12) = some q → W p l e rm_X6_expression s m args below meth c H locs 0 0 (MQ below (qc_v wd_M g q) args s 0 0 (aw g)) (F0 m 234 ls [.int y0, .ref (gg_o g 0)]) := by
        intro ls H locs S x2 y0 hl hw hf
        unfold f_X6_expression_J234 at hf
        refine r_V_v (As := [.int y0]) (rest := []) cx hw hf hM.2.1 (by rw [hM.1]; rfl) lk_X6_333 (fun q28 hq => k_X6_comesOut l g hg  hM S y0 q28 hq) ⟨⟨rfl, rfl⟩, Nat.le_of_ble_eq_true rfl, Nat.le_of_ble_eq_true rfl⟩ rfl hl.1 rfl (Nat.le_of_ble_eq_true rfl) dX6_expression_234 ⟨Nat.zero_le _, Nat.zero_le _⟩ (fun q28 H locs hw hf => ?_)
        refine lv_aload_n hx hb dX6_expression_237 rfl (lv_at hl 0 rfl) ?_
        refine gf_X6_113 cx hw hM dX6_expression_238 ?_
        refine lv_aload_n hx hb dX6_expression_241 rfl (lv_at hl 0 rfl) ?_
        refine gf_X6_324 cx hw hM dX6_expression_242 ?_
        refine lv_aload_n hx hb dX6_expression_245 rfl (lv_at hl 0 rfl) ?_
        refine gf_X6_20 cx hw hM dX6_expression_246 ?_
        refine lv_aload_n hx hb dX6_expression_249 rfl (lv_at hl 0 rfl) ?_
        refine gf_X6_230 cx hw hM dX6_expression_250 ?_
        refine r_iald cx hw (hM.2.2.1 5 rfl) rfl rfl hf dX6_expression_253 (fun hf => ?_)
        refine r_iast cx hw (hM.2.2.1 47 rfl) rfl rfl hf dX6_expression_254 (fun S29 H locs hw hf => ?_)
        refine lv_aload_n hx hb dX6_expression_255 rfl (lv_at hl 0 rfl) ?_
        refine lv_dup hx hb dX6_expression_256 rfl ?_
        refine gf_X6_324 cx hw hM dX6_expression_257 ?_
        refine lv_iconst (v := 1) hx hb dX6_expression_260 (by decide) ?_
        refine lv_iadd hx hb dX6_expression_261 ?_
        refine pf_X6_324 cx hw hM hf dX6_expression_262 (fun S30 H locs hw hf => ?_)
        refine lv_aload_n hx hb dX6_expression_265 rfl (lv_at hl 0 rfl) ?_
        refine r_V_v (As := []) (rest := []) cx hw hf hM.2.1 (by rw [hM.1]; rfl) lk_X6_248 (fun q31 hq => k_X6_goesOn l g hg  hM S30  q31 hq) ⟨⟨rfl, rfl⟩, Nat.le_of_ble_eq_true rfl, Nat.le_of_ble_eq_true rfl⟩ rfl hl.1 rfl (Nat.le_of_ble_eq_true rfl) dX6_expression_266 ⟨Nat.zero_le _, Nat.zero_le _⟩ (fun q31 H locs hw hf => ?_)
        refine lv_goto hx hb dX6_expression_269 (tgt := 12) rfl ?_
        exact ih12 _ _ _ (x2, q31) (lv_sub hl [0, 1, 2] rfl) hw hf
      have J229 : ∀ (ls : Array Slot) (H : Heap) (locs : List Loc) (S : St) (x2 : Int32), lv_has ls 3 [(0, .ref (gg_o g 0)), (1, .int x1), (2, .int x2)] → HH wd_M g s S H locs → (f_X6_expression_J229  S x1 x2).bind (it_K (f_X6_expression_L12   x1) n12 aft12) = some q → W p l e rm_X6_expression s m args below meth c H locs 0 0 (MQ below (qc_v wd_M g q) args s 0 0 (aw g)) (F0 m 229 ls [.ref (gg_o g 0)]) := by
        intro ls H locs S x2 hl hw hf
        unfold f_X6_expression_J229 at hf
        refine lv_iconst (v := 1) hx hb dX6_expression_229 (by decide) ?_
        refine lv_goto hx hb dX6_expression_230 (tgt := 234) rfl ?_
        exact J234 _ _ _ S x2 (1 : Int32) (lv_sub hl [0, 1, 2] rfl) hw hf
      have J186 : ∀ (ls : Array Slot) (H : Heap) (locs : List Loc) (S : St) (y0 : Int32), lv_has ls 3 [(0, .ref (gg_o g 0)), (1, .int x1)] → HH wd_M g s S H locs → (f_X6_expression_J186  S x1 y0).bind (it_K (f_X6_expression_L12   x1) n12 aft12) = some q → W p l e rm_X6_expression s m args below meth c H locs 0 0 (MQ below (qc_v wd_M g q) args s 0 0 (aw g)) (F0 m 186 ls [.int y0]) := by
        intro ls H locs S y0 hl hw hf
        unfold f_X6_expression_J186 at hf
        refine lv_istore_n hx hb dX6_expression_186 rfl hl (by decide) (lv' := [(2, .int y0), (0, .ref (gg_o g 0)), (1, .int x1)]) rfl (fun ls hl => ?_)
        refine lv_iload_n hx hb dX6_expression_187 rfl (lv_at hl 0 rfl) ?_
        refine lv_if_ne hx hb dX6_expression_188 (tgt := 210) rfl (fun hc25 => ?_) (fun hc25 => ?_)
        · replace hf := h_neg hc25 hf
          refine lv_aload_n hx hb dX6_expression_210 rfl (lv_at hl 1 rfl) ?_
          refine lv_aload_n hx hb dX6_expression_211 rfl (lv_at hl 1 rfl) ?_
          refine lv_bipush (v := 10) hx hb dX6_expression_212 (by decide) ?_
          refine r_V_i (As := [.int (10 : Int32)]) (rest := [.ref (gg_o g 0)]) cx hw hf hM.2.1 (by rw [hM.1]; rfl) lk_X6_245 (fun q26 hq => k_X6_is l g hg  hM S (10 : Int32) q26 hq) ⟨⟨rfl, rfl⟩, Nat.le_of_ble_eq_true rfl, Nat.le_of_ble_eq_true rfl⟩ rfl hl.1 rfl (Nat.le_of_ble_eq_true rfl) dX6_expression_214 ⟨Nat.zero_le _, Nat.zero_le _⟩ (fun q26 H locs hw hf => ?_)
          refine lv_if_ne hx hb dX6_expression_217 (tgt := 229) rfl (fun hc27 => ?_) (fun hc27 => ?_)
          · replace hf := h_neg hc27 hf
            exact J229 _ _ _ S y0 (lv_sub hl [1, 2, 0] rfl) hw hf
          replace hf := h_pos hc27 hf
          refine lv_aload_n hx hb dX6_expression_220 rfl (lv_at hl 1 rfl) ?_
          refine lv_bipush (v := 15) hx hb dX6_expression_221 (by decide) ?_
          refine r_V_i (As := [.int (15 : Int32)]) (rest := [.ref (gg_o g 0)]) cx hw hf hM.2.1 (by rw [hM.1]; rfl) lk_X6_245 (fun q32 hq => k_X6_is l g hg  hM S (15 : Int32) q32 hq) ⟨⟨rfl, rfl⟩, Nat.le_of_ble_eq_true rfl, Nat.le_of_ble_eq_true rfl⟩ rfl hl.1 rfl (Nat.le_of_ble_eq_true rfl) dX6_expression_223 ⟨Nat.zero_le _, Nat.zero_le _⟩ (fun q32 H locs hw hf => ?_)
          refine lv_if_eq hx hb dX6_expression_226 (tgt := 233) rfl (fun hc33 => ?_) (fun hc33 => ?_)
          · replace hf := h_pos hc33 hf
            refine lv_iconst (v := 0) hx hb dX6_expression_233 (by decide) ?_
            exact J234 _ _ _ S y0 (0 : Int32) (lv_sub hl [1, 2, 0] rfl) hw hf
          replace hf := h_neg hc33 hf
          exact J229 _ _ _ S y0 (lv_sub hl [1, 2, 0] rfl) hw hf
        replace hf := h_pos hc25 hf
        exact hX12 _ _ _ S (lv_sub hl [1, 2] rfl) hw hf
      have J181 : ∀ (ls : Array Slot) (H : Heap) (locs : List Loc) (S : St) , lv_has ls 3 [(0, .ref (gg_o g 0)), (1, .int x1)] → HH wd_M g s S H locs → (f_X6_expression_J181  S x1).bind (it_K (f_X6_expression_L12   x1) n12 aft12) = some q → W p l e rm_X6_expression s m args below meth c H locs 0 0 (MQ below (qc_v wd_M g q) args s 0 0 (aw g)) (F0 m 181 ls []) := by
        intro ls H locs S  hl hw hf
        unfold f_X6_expression_J181 at hf
        refine lv_iconst (v := 1) hx hb dX6_expression_181 (by decide) ?_
        refine lv_goto hx hb dX6_expression_182 (tgt := 186) rfl ?_
        exact J186 _ _ _ S (1 : Int32) (lv_sub hl [0, 1] rfl) hw hf
      have J145 : ∀ (ls : Array Slot) (H : Heap) (locs : List Loc) (S : St) , lv_has ls 3 [(0, .ref (gg_o g 0)), (1, .int x1)] → HH wd_M g s S H locs → (f_X6_expression_J145  S x1).bind (it_K (f_X6_expression_L12   x1) n12 aft12) = some q → W p l e rm_X6_expression s m args below meth c H locs 0 0 (MQ below (qc_v wd_M g q) args s 0 0 (aw g)) (F0 m 145 ls []) := by
        intro ls H locs S  hl hw hf
        unfold f_X6_expression_J145 at hf
        refine lv_aload_n hx hb dX6_expression_145 rfl (lv_at hl 0 rfl) ?_
        refine lv_bipush (v := 8) hx hb dX6_expression_146 (by decide) ?_
        refine r_V_i (As := [.int (8 : Int32)]) (rest := []) cx hw hf hM.2.1 (by rw [hM.1]; rfl) lk_X6_245 (fun q23 hq => k_X6_is l g hg  hM S (8 : Int32) q23 hq) ⟨⟨rfl, rfl⟩, Nat.le_of_ble_eq_true rfl, Nat.le_of_ble_eq_true rfl⟩ rfl hl.1 rfl (Nat.le_of_ble_eq_true rfl) dX6_expression_148 ⟨Nat.zero_le _, Nat.zero_le _⟩ (fun q23 H locs hw hf => ?_)
        refine lv_if_ne hx hb dX6_expression_151 (tgt := 181) rfl (fun hc24 => ?_) (fun hc24 => ?_)
        · replace hf := h_neg hc24 hf
          exact J181 _ _ _ S (lv_sub hl [0, 1] rfl) hw hf
        replace hf := h_pos hc24 hf
        refine lv_aload_n hx hb dX6_expression_154 rfl (lv_at hl 0 rfl) ?_
        refine lv_bipush (v := 9) hx hb dX6_expression_155 (by decide) ?_
        refine r_V_i (As := [.int (9 : Int32)]) (rest := []) cx hw hf hM.2.1 (by rw [hM.1]; rfl) lk_X6_245 (fun q34 hq => k_X6_is l g hg  hM S (9 : Int32) q34 hq) ⟨⟨rfl, rfl⟩, Nat.le_of_ble_eq_true rfl, Nat.le_of_ble_eq_true rfl⟩ rfl hl.1 rfl (Nat.le_of_ble_eq_true rfl) dX6_expression_157 ⟨Nat.zero_le _, Nat.zero_le _⟩ (fun q34 H locs hw hf => ?_)
        refine lv_if_ne hx hb dX6_expression_160 (tgt := 181) rfl (fun hc35 => ?_) (fun hc35 => ?_)
        · replace hf := h_neg hc35 hf
          exact J181 _ _ _ S (lv_sub hl [0, 1] rfl) hw hf
        replace hf := h_pos hc35 hf
        refine lv_aload_n hx hb dX6_expression_163 rfl (lv_at hl 0 rfl) ?_
        refine lv_bipush (v := 10) hx hb dX6_expression_164 (by decide) ?_
        refine r_V_i (As := [.int (10 : Int32)]) (rest := []) cx hw hf hM.2.1 (by rw [hM.1]; rfl) lk_X6_245 (fun q36 hq => k_X6_is l g hg  hM S (10 : Int32) q36 hq) ⟨⟨rfl, rfl⟩, Nat.le_of_ble_eq_true rfl, Nat.le_of_ble_eq_true rfl⟩ rfl hl.1 rfl (Nat.le_of_ble_eq_true rfl) dX6_expression_166 ⟨Nat.zero_le _, Nat.zero_le _⟩ (fun q36 H locs hw hf => ?_)
        refine lv_if_ne hx hb dX6_expression_169 (tgt := 181) rfl (fun hc37 => ?_) (fun hc37 => ?_)
        · replace hf := h_neg hc37 hf
          exact J181 _ _ _ S (lv_sub hl [0, 1] rfl) hw hf
        replace hf := h_pos hc37 hf
        refine lv_aload_n hx hb dX6_expression_172 rfl (lv_at hl 0 rfl) ?_
        refine lv_bipush (v := 15) hx hb dX6_expression_173 (by decide) ?_
        refine r_V_i (As := [.int (15 : Int32)]) (rest := []) cx hw hf hM.2.1 (by rw [hM.1]; rfl) lk_X6_245 (fun q38 hq => k_X6_is l g hg  hM S (15 : Int32) q38 hq) ⟨⟨rfl, rfl⟩, Nat.le_of_ble_eq_true rfl, Nat.le_of_ble_eq_true rfl⟩ rfl hl.1 rfl (Nat.le_of_ble_eq_true rfl) dX6_expression_175 ⟨Nat.zero_le _, Nat.zero_le _⟩ (fun q38 H locs hw hf => ?_)
        refine lv_if_eq hx hb dX6_expression_178 (tgt := 185) rfl (fun hc39 => ?_) (fun hc39 => ?_)
        · replace hf := h_pos hc39 hf
          refine lv_iconst (v := 0) hx hb dX6_expression_185 (by decide) ?_
          exact J186 _ _ _ S (0 : Int32) (lv_sub hl [0, 1] rfl) hw hf
        replace hf := h_neg hc39 hf
        exact J181 _ _ _ S (lv_sub hl [0, 1] rfl) hw hf
      refine lv_iload_n hx hb dX6_expression_12 rfl (lv_at hl 2 rfl) ?_
      refine lv_if_eq hx hb dX6_expression_13 (tgt := 272) rfl (fun hc2 => ?_) (fun hc2 => ?_)
      · replace hf := h_pos hc2 hf
        replace hf := hR12 z12.2 hf
        exact r_vret cx hw hr hlk hf dX6_expression_272
      replace hf := h_neg hc2 hf
      refine lv_aload_n hx hb dX6_expression_16 rfl (lv_at hl 0 rfl) ?_
      refine gf_X6_227 cx hw hM dX6_expression_17 ?_
      refine lv_if_ne hx hb dX6_expression_20 (tgt := 272) rfl (fun hc3 => ?_) (fun hc3 => ?_)
      · replace hf := h_neg hc3 hf
        replace hf := hR12 z12.2 hf
        exact r_vret cx hw hr hlk hf dX6_expression_272
      replace hf := h_pos hc3 hf
      have L23 : ∀ (x1 : Int32) (aft23 : St → Option (St)), (∀ (ls : Array Slot) (H : Heap) (locs : List Loc) (S1 : St), lv_has ls 3 [(0, .ref (gg_o g 0)), (1, .int x1)] → HH wd_M g s S1 H locs → aft23 S1 = some q → W p l e rm_X6_expression s m args below meth c H locs 0 0 (MQ below (qc_v wd_M g q) args s 0 0 (aw g)) (F0 m 84 ls [])) → ∀ (n23 : Nat) (ls : Array Slot) (H : Heap) (locs : List Loc) (z23 : St), lv_has ls 3 [(0, .ref (gg_o g 0)), (1, .int x1)] → HH wd_M g s z23 H locs → (iter (f_X6_expression_L23   x1) n23 z23).bind aft23 = some q → W p l e rm_X6_expression s m args below meth c H locs 0 0 (MQ below (qc_v wd_M g q) args s 0 0 (aw g)) (F0 m 23 ls []) := by
        intro x1 aft23 hX23 n23
        induction n23 with
        | zero => intro ls H locs z23 hl hw hf; exact h_iter0 hf
        | succ n23 ih23 =>
          intro ls H locs z23 hl hw hf
          replace hf := h_iter hf
          unfold f_X6_expression_L23 at hf
          have J46 : ∀ (ls : Array Slot) (H : Heap) (locs : List Loc) (S : St) , lv_has ls 3 [(0, .ref (gg_o g 0)), (1, .int x1)] → HH wd_M g s S H locs → (f_X6_expression_J46  S x1).bind (it_K (f_X6_expression_L23   x1) n23 aft23) = some q → W p l e rm_X6_expression s m args below meth c H locs 0 0 (MQ below (qc_v wd_M g q) args s 0 0 (aw g)) (F0 m 46 ls []) := by
            intro ls H locs S  hl hw hf
            unfold f_X6_expression_J46 at hf
            refine lv_aload_n hx hb dX6_expression_46 rfl (lv_at hl 0 rfl) ?_
            refine lv_dup hx hb dX6_expression_47 rfl ?_
            refine gf_X6_254 cx hw hM dX6_expression_48 ?_
            refine lv_iconst (v := 1) hx hb dX6_expression_51 (by decide) ?_
            refine lv_iadd hx hb dX6_expression_52 ?_
            refine pf_X6_254 cx hw hM hf dX6_expression_53 (fun S7 H locs hw hf => ?_)
            refine lv_aload_n hx hb dX6_expression_56 rfl (lv_at hl 0 rfl) ?_
            refine r_V_v (As := []) (rest := []) cx hw hf hM.2.1 (by rw [hM.1]; rfl) lk_X6_248 (fun q8 hq => k_X6_goesOn l g hg  hM S7  q8 hq) ⟨⟨rfl, rfl⟩, Nat.le_of_ble_eq_true rfl, Nat.le_of_ble_eq_true rfl⟩ rfl hl.1 rfl (Nat.le_of_ble_eq_true rfl) dX6_expression_57 ⟨Nat.zero_le _, Nat.zero_le _⟩ (fun q8 H locs hw hf => ?_)
            refine lv_aload_n hx hb dX6_expression_60 rfl (lv_at hl 0 rfl) ?_
            refine gf_X6_113 cx hw hM dX6_expression_61 ?_
            refine lv_aload_n hx hb dX6_expression_64 rfl (lv_at hl 0 rfl) ?_
            refine gf_X6_324 cx hw hM dX6_expression_65 ?_
            refine lv_bipush (v := 6) hx hb dX6_expression_68 (by decide) ?_
            refine r_iast cx hw (hM.2.2.1 47 rfl) rfl rfl hf dX6_expression_70 (fun S9 H locs hw hf => ?_)
            refine lv_aload_n hx hb dX6_expression_71 rfl (lv_at hl 0 rfl) ?_
            refine lv_dup hx hb dX6_expression_72 rfl ?_
            refine gf_X6_324 cx hw hM dX6_expression_73 ?_
            refine lv_iconst (v := 1) hx hb dX6_expression_76 (by decide) ?_
            refine lv_iadd hx hb dX6_expression_77 ?_
            refine pf_X6_324 cx hw hM hf dX6_expression_78 (fun S10 H locs hw hf => ?_)
            refine lv_goto hx hb dX6_expression_81 (tgt := 23) rfl ?_
            exact ih23 _ _ _ S10 (lv_sub hl [0, 1] rfl) hw hf
          refine lv_aload_n hx hb dX6_expression_23 rfl (lv_at hl 0 rfl) ?_
          refine lv_bipush (v := 6) hx hb dX6_expression_24 (by decide) ?_
          refine r_V_i (As := [.int (6 : Int32)]) (rest := []) cx hw hf hM.2.1 (by rw [hM.1]; rfl) lk_X6_245 (fun q4 hq => k_X6_is l g hg  hM z23 (6 : Int32) q4 hq) ⟨⟨rfl, rfl⟩, Nat.le_of_ble_eq_true rfl, Nat.le_of_ble_eq_true rfl⟩ rfl hl.1 rfl (Nat.le_of_ble_eq_true rfl) dX6_expression_26 ⟨Nat.zero_le _, Nat.zero_le _⟩ (fun q4 H locs hw hf => ?_)
          refine lv_if_eq hx hb dX6_expression_29 (tgt := 84) rfl (fun hc5 => ?_) (fun hc5 => ?_)
          · replace hf := h_pos hc5 hf
            exact hX23 _ _ _ z23 (lv_sub hl [0, 1] rfl) hw hf
          replace hf := h_neg hc5 hf
          refine lv_aload_n hx hb dX6_expression_32 rfl (lv_at hl 0 rfl) ?_
          refine gf_X6_254 cx hw hM dX6_expression_33 ?_
          refine lv_bipush (v := 6) hx hb dX6_expression_36 (by decide) ?_
          refine lv_icmp_ne hx hb dX6_expression_38 (tgt := 46) rfl (fun hc6 => ?_) (fun hc6 => ?_)
          · replace hf := h_neg hc6 hf
            exact J46 _ _ _ z23 (lv_sub hl [0, 1] rfl) hw hf
          replace hf := h_pos hc6 hf
          refine lv_aload_n hx hb dX6_expression_41 rfl (lv_at hl 0 rfl) ?_
          refine lv_iconst (v := 2) hx hb dX6_expression_42 (by decide) ?_
          refine r_V_v (As := [.int (2 : Int32)]) (rest := []) cx hw hf hM.2.1 (by rw [hM.1]; rfl) lk_X6_242 (fun q11 hq => k_X6_fail l g hg  hM z23 (2 : Int32) q11 hq) ⟨⟨rfl, rfl⟩, Nat.le_of_ble_eq_true rfl, Nat.le_of_ble_eq_true rfl⟩ rfl hl.1 rfl (Nat.le_of_ble_eq_true rfl) dX6_expression_43 ⟨Nat.zero_le _, Nat.zero_le _⟩ (fun q11 H locs hw hf => ?_)
          exact J46 _ _ _ q11 (lv_sub hl [0, 1] rfl) hw hf
      refine L23 x1 _ (fun ls H locs S12 hl hw hf => ?_) FU _ _ _ z12.2 (lv_sub hl [0, 1] rfl) hw (h_assoc hf)
      try dsimp only at hf
      refine lv_aload_n hx hb dX6_expression_84 rfl (lv_at hl 0 rfl) ?_
      refine r_V_v (As := []) (rest := []) cx hw hf hM.2.1 (by rw [hM.1]; rfl) lk_X6_330 (fun q13 hq => k_X6_unit l g hg  hM S12  q13 hq) ⟨⟨rfl, rfl⟩, Nat.le_of_ble_eq_true rfl, Nat.le_of_ble_eq_true rfl⟩ rfl hl.1 rfl (Nat.le_of_ble_eq_true rfl) dX6_expression_85 ⟨Nat.zero_le _, Nat.zero_le _⟩ (fun q13 H locs hw hf => ?_)
      refine lv_aload_n hx hb dX6_expression_88 rfl (lv_at hl 0 rfl) ?_
      refine gf_X6_227 cx hw hM dX6_expression_89 ?_
      refine lv_if_le hx hb dX6_expression_92 (tgt := 96) rfl (fun hc14 => ?_) (fun hc14 => ?_)
      · replace hf := h_pos hc14 hf
        have L96 : ∀ (x1 : Int32) (aft96 : St → Option (St)), (∀ (ls : Array Slot) (H : Heap) (locs : List Loc) (S1 : St), lv_has ls 3 [(0, .ref (gg_o g 0)), (1, .int x1)] → HH wd_M g s S1 H locs → aft96 S1 = some q → W p l e rm_X6_expression s m args below meth c H locs 0 0 (MQ below (qc_v wd_M g q) args s 0 0 (aw g)) (F0 m 145 ls [])) → ∀ (n96 : Nat) (ls : Array Slot) (H : Heap) (locs : List Loc) (z96 : St), lv_has ls 3 [(0, .ref (gg_o g 0)), (1, .int x1)] → HH wd_M g s z96 H locs → (iter (f_X6_expression_L96   x1) n96 z96).bind aft96 = some q → W p l e rm_X6_expression s m args below meth c H locs 0 0 (MQ below (qc_v wd_M g q) args s 0 0 (aw g)) (F0 m 96 ls []) := by
          intro x1 aft96 hX96 n96
          induction n96 with
          | zero => intro ls H locs z96 hl hw hf; exact h_iter0 hf
          | succ n96 ih96 =>
            intro ls H locs z96 hl hw hf
            replace hf := h_iter hf
            unfold f_X6_expression_L96 at hf
            refine lv_aload_n hx hb dX6_expression_96 rfl (lv_at hl 0 rfl) ?_
            refine lv_bipush (v := 7) hx hb dX6_expression_97 (by decide) ?_
            refine r_V_i (As := [.int (7 : Int32)]) (rest := []) cx hw hf hM.2.1 (by rw [hM.1]; rfl) lk_X6_245 (fun q15 hq => k_X6_is l g hg  hM z96 (7 : Int32) q15 hq) ⟨⟨rfl, rfl⟩, Nat.le_of_ble_eq_true rfl, Nat.le_of_ble_eq_true rfl⟩ rfl hl.1 rfl (Nat.le_of_ble_eq_true rfl) dX6_expression_99 ⟨Nat.zero_le _, Nat.zero_le _⟩ (fun q15 H locs hw hf => ?_)
            refine lv_if_eq hx hb dX6_expression_102 (tgt := 145) rfl (fun hc16 => ?_) (fun hc16 => ?_)
            · replace hf := h_pos hc16 hf
              exact hX96 _ _ _ z96 (lv_sub hl [0, 1] rfl) hw hf
            replace hf := h_neg hc16 hf
            refine lv_aload_n hx hb dX6_expression_105 rfl (lv_at hl 0 rfl) ?_
            refine gf_X6_254 cx hw hM dX6_expression_106 ?_
            refine lv_iload_n hx hb dX6_expression_109 rfl (lv_at hl 1 rfl) ?_
            refine lv_icmp_le hx hb dX6_expression_110 (tgt := 145) rfl (fun hc17 => ?_) (fun hc17 => ?_)
            · replace hf := h_pos hc17 hf
              exact hX96 _ _ _ z96 (lv_sub hl [0, 1] rfl) hw hf
            replace hf := h_neg hc17 hf
            refine lv_aload_n hx hb dX6_expression_113 rfl (lv_at hl 0 rfl) ?_
            refine lv_iconst (v := 0) hx hb dX6_expression_114 (by decide) ?_
            refine r_V_v (As := [.int (0 : Int32)]) (rest := []) cx hw hf hM.2.1 (by rw [hM.1]; rfl) lk_X6_333 (fun q18 hq => k_X6_comesOut l g hg  hM z96 (0 : Int32) q18 hq) ⟨⟨rfl, rfl⟩, Nat.le_of_ble_eq_true rfl, Nat.le_of_ble_eq_true rfl⟩ rfl hl.1 rfl (Nat.le_of_ble_eq_true rfl) dX6_expression_115 ⟨Nat.zero_le _, Nat.zero_le _⟩ (fun q18 H locs hw hf => ?_)
            refine lv_aload_n hx hb dX6_expression_118 rfl (lv_at hl 0 rfl) ?_
            refine lv_dup hx hb dX6_expression_119 rfl ?_
            refine gf_X6_324 cx hw hM dX6_expression_120 ?_
            refine lv_iconst (v := 1) hx hb dX6_expression_123 (by decide) ?_
            refine lv_isub hx hb dX6_expression_124 ?_
            refine pf_X6_324 cx hw hM hf dX6_expression_125 (fun S19 H locs hw hf => ?_)
            refine lv_aload_n hx hb dX6_expression_128 rfl (lv_at hl 0 rfl) ?_
            refine lv_dup hx hb dX6_expression_129 rfl ?_
            refine gf_X6_254 cx hw hM dX6_expression_130 ?_
            refine lv_iconst (v := 1) hx hb dX6_expression_133 (by decide) ?_
            refine lv_isub hx hb dX6_expression_134 ?_
            refine pf_X6_254 cx hw hM hf dX6_expression_135 (fun S20 H locs hw hf => ?_)
            refine lv_aload_n hx hb dX6_expression_138 rfl (lv_at hl 0 rfl) ?_
            refine r_V_v (As := []) (rest := []) cx hw hf hM.2.1 (by rw [hM.1]; rfl) lk_X6_248 (fun q21 hq => k_X6_goesOn l g hg  hM S20  q21 hq) ⟨⟨rfl, rfl⟩, Nat.le_of_ble_eq_true rfl, Nat.le_of_ble_eq_true rfl⟩ rfl hl.1 rfl (Nat.le_of_ble_eq_true rfl) dX6_expression_139 ⟨Nat.zero_le _, Nat.zero_le _⟩ (fun q21 H locs hw hf => ?_)
            refine lv_goto hx hb dX6_expression_142 (tgt := 96) rfl ?_
            exact ih96 _ _ _ q21 (lv_sub hl [0, 1] rfl) hw hf
        refine L96 x1 _ (fun ls H locs S22 hl hw hf => ?_) FU _ _ _ q13 (lv_sub hl [0, 1] rfl) hw (h_assoc hf)
        try dsimp only at hf
        exact J145 _ _ _ S22 (lv_sub hl [0, 1] rfl) hw hf
      replace hf := h_neg hc14 hf
      replace hf := hR12 q13 hf
      exact r_vret cx hw hr hlk hf dX6_expression_95
  refine L12 (st_I S1 (ky 0 12)) _ (fun ls H locs S42 hl hw hf => ?_) (fun v h => h) FU _ _ _ ((1 : Int32), S1) (lv_sub hl [2, 1, 0] rfl) hw (h_assoc hf)
  try dsimp only at hf
  refine lv_aload_n hx hb dX6_expression_191 rfl (lv_at hl 0 rfl) ?_
  refine gf_X6_254 cx hw hM dX6_expression_192 ?_
  refine lv_iload_n hx hb dX6_expression_195 rfl (lv_at hl 1 rfl) ?_
  refine lv_icmp_le hx hb dX6_expression_196 (tgt := 204) rfl (fun hc43 => ?_) (fun hc43 => ?_)
  · replace hf := h_pos hc43 hf
    exact J204 _ _ _ S42 (lv_sub hl [0] rfl) hw hf
  replace hf := h_neg hc43 hf
  refine lv_aload_n hx hb dX6_expression_199 rfl (lv_at hl 0 rfl) ?_
  refine lv_iconst (v := 1) hx hb dX6_expression_200 (by decide) ?_
  refine r_V_v (As := [.int (1 : Int32)]) (rest := []) cx hw hf hM.2.1 (by rw [hM.1]; rfl) lk_X6_242 (fun q45 hq => k_X6_fail l g hg  hM S42 (1 : Int32) q45 hq) ⟨⟨rfl, rfl⟩, Nat.le_of_ble_eq_true rfl, Nat.le_of_ble_eq_true rfl⟩ rfl hl.1 rfl (Nat.le_of_ble_eq_true rfl) dX6_expression_201 ⟨Nat.zero_le _, Nat.zero_le _⟩ (fun q45 H locs hw hf => ?_)
  exact J204 _ _ _ q45 (lv_sub hl [0] rfl) hw hf
theorem dX6_term_0 : decode cX6_term 0 = .ok (.aload_n 0, 1) := by decide +kernel
theorem dX6_term_1 : decode cX6_term 1 = .ok (.getfield 101, 3) := by decide +kernel
theorem dX6_term_4 : decode cX6_term 4 = .ok (.aload_n 0, 1) := by decide +kernel
theorem dX6_term_5 : decode cX6_term 5 = .ok (.getfield 266, 3) := by decide +kernel
theorem dX6_term_8 : decode cX6_term 8 = .ok (.aload_n 0, 1) := by decide +kernel
theorem dX6_term_9 : decode cX6_term 9 = .ok (.getfield 269, 3) := by decide +kernel
theorem dX6_term_12 : decode cX6_term 12 = .ok (.iastore, 1) := by decide +kernel
theorem dX6_term_13 : decode cX6_term 13 = .ok (.aload_n 0, 1) := by decide +kernel
theorem dX6_term_14 : decode cX6_term 14 = .ok (.getfield 227, 3) := by decide +kernel
theorem dX6_term_17 : decode cX6_term 17 = .ok (.ifCond .ne 7, 3) := by decide +kernel
theorem dX6_term_20 : decode cX6_term 20 = .ok (.aload_n 0, 1) := by decide +kernel
theorem dX6_term_21 : decode cX6_term 21 = .ok (.invokevirtual 318, 3) := by decide +kernel
theorem dX6_term_24 : decode cX6_term 24 = .ok (.aload_n 0, 1) := by decide +kernel
theorem dX6_term_25 : decode cX6_term 25 = .ok (.getfield 104, 3) := by decide +kernel
theorem dX6_term_28 : decode cX6_term 28 = .ok (.aload_n 0, 1) := by decide +kernel
theorem dX6_term_29 : decode cX6_term 29 = .ok (.getfield 266, 3) := by decide +kernel
theorem dX6_term_32 : decode cX6_term 32 = .ok (.aload_n 0, 1) := by decide +kernel
theorem dX6_term_33 : decode cX6_term 33 = .ok (.getfield 269, 3) := by decide +kernel
theorem dX6_term_36 : decode cX6_term 36 = .ok (.iastore, 1) := by decide +kernel
theorem dX6_term_37 : decode cX6_term 37 = .ok (.aload_n 0, 1) := by decide +kernel
theorem dX6_term_38 : decode cX6_term 38 = .ok (.dup, 1) := by decide +kernel
theorem dX6_term_39 : decode cX6_term 39 = .ok (.getfield 266, 3) := by decide +kernel
theorem dX6_term_42 : decode cX6_term 42 = .ok (.iconst 1, 1) := by decide +kernel
theorem dX6_term_43 : decode cX6_term 43 = .ok (.iadd, 1) := by decide +kernel
theorem dX6_term_44 : decode cX6_term 44 = .ok (.putfield 266, 3) := by decide +kernel
theorem dX6_term_47 : decode cX6_term 47 = .ok (.return_, 1) := by decide +kernel
abbrev rm_X6_term : Room := { frames := 4, cells := 0, slots := 0, locals := 83 }
def f_X6_term_J24 (S : St)  : Option (St) :=
  chk (ib (st_I S (ky 0 38)) 260) (lt_v (up_A S (ky 0 43) (upd (st_A S (ky 0 43)) (st_I S (ky 0 38)).toNatClampNeg (st_I S (ky 0 44)))) (fun (S3 : St) => lt_v (up_I S3 (ky 0 38) ((st_I S3 (ky 0 38)) + (1 : Int32))) (fun (S4 : St) => some S4)))
def f_X6_term (S : St)  : Option (St) :=
  chk (ib (st_I S (ky 0 38)) 260) (lt_v (up_A S (ky 0 42) (upd (st_A S (ky 0 42)) (st_I S (ky 0 38)).toNatClampNeg (st_I S (ky 0 44)))) (fun (S1 : St) => if (st_I S1 (ky 0 13)) = 0 then ((f_X6_expression  S1 ).bind (fun (q5 : St) => f_X6_term_J24  q5 )) else (f_X6_term_J24  S1 )))
set_option maxRecDepth 100000 in
set_option maxHeartbeats 4000000 in
theorem k_X6_term (l : Launch) (g : GG) (hg : gd wd_M g)  (hM : hs wd_M g 0 6) (S : St)  (q : St) (hf : f_X6_term  S  = some q) : Met l yX6_term (Cond.code yX6_term cX6_term 1 none :: gw_tbl) rm_X6_term (va_Pc [.ref (gg_o g 0)] (wI wd_M g S)) (qc_v wd_M g q) 0 0 (aw g) := by
  refine mt_start (own := RX6) hg (by decide) rfl (Nat.le_of_ble_eq_true rfl) (fun p e s m args below meth c ls H locs cx hw hr hlk hl => ?_)
  have hx := cx.1
  have hb := cx.2.1
  have hown := cx.2.2.2.1
  have hts := cx.2.2.2.2.1
  have hl : lv_has ls 1 [(0, .ref (gg_o g 0))] := hl
  replace hf := h_top hf
  unfold f_X6_term at hf
  have J24 : ∀ (ls : Array Slot) (H : Heap) (locs : List Loc) (S : St) , lv_has ls 1 [(0, .ref (gg_o g 0))] → HH wd_M g s S H locs → (f_X6_term_J24  S ).bind some = some q → W p l e rm_X6_term s m args below meth c H locs 0 0 (MQ below (qc_v wd_M g q) args s 0 0 (aw g)) (F0 m 24 ls []) := by
    intro ls H locs S  hl hw hf
    unfold f_X6_term_J24 at hf
    refine lv_aload_n hx hb dX6_term_24 rfl (lv_at hl 0 rfl) ?_
    refine gf_X6_104 cx hw hM dX6_term_25 ?_
    refine lv_aload_n hx hb dX6_term_28 rfl (lv_at hl 0 rfl) ?_
    refine gf_X6_266 cx hw hM dX6_term_29 ?_
    refine lv_aload_n hx hb dX6_term_32 rfl (lv_at hl 0 rfl) ?_
    refine gf_X6_269 cx hw hM dX6_term_33 ?_
    refine r_iast cx hw (hM.2.2.1 43 rfl) rfl rfl hf dX6_term_36 (fun S3 H locs hw hf => ?_)
    refine lv_aload_n hx hb dX6_term_37 rfl (lv_at hl 0 rfl) ?_
    refine lv_dup hx hb dX6_term_38 rfl ?_
    refine gf_X6_266 cx hw hM dX6_term_39 ?_
    refine lv_iconst (v := 1) hx hb dX6_term_42 (by decide) ?_
    refine lv_iadd hx hb dX6_term_43 ?_
    refine pf_X6_266 cx hw hM hf dX6_term_44 (fun S4 H locs hw hf => ?_)
    exact r_vret cx hw hr hlk hf dX6_term_47
  refine lv_aload_n hx hb dX6_term_0 rfl (lv_at hl 0 rfl) ?_
  refine gf_X6_101 cx hw hM dX6_term_1 ?_
  refine lv_aload_n hx hb dX6_term_4 rfl (lv_at hl 0 rfl) ?_
  refine gf_X6_266 cx hw hM dX6_term_5 ?_
  refine lv_aload_n hx hb dX6_term_8 rfl (lv_at hl 0 rfl) ?_
  refine gf_X6_269 cx hw hM dX6_term_9 ?_
  refine r_iast cx hw (hM.2.2.1 42 rfl) rfl rfl hf dX6_term_12 (fun S1 H locs hw hf => ?_)
  refine lv_aload_n hx hb dX6_term_13 rfl (lv_at hl 0 rfl) ?_
  refine gf_X6_227 cx hw hM dX6_term_14 ?_
  refine lv_if_ne hx hb dX6_term_17 (tgt := 24) rfl (fun hc2 => ?_) (fun hc2 => ?_)
  · replace hf := h_neg hc2 hf
    exact J24 _ _ _ S1 (lv_sub hl [0] rfl) hw hf
  replace hf := h_pos hc2 hf
  refine lv_aload_n hx hb dX6_term_20 rfl (lv_at hl 0 rfl) ?_
  refine r_V_v (As := []) (rest := []) cx hw hf hM.2.1 (by rw [hM.1]; rfl) lk_X6_318 (fun q5 hq => k_X6_expression l g hg  hM S1  q5 hq) ⟨⟨rfl, rfl⟩, Nat.le_of_ble_eq_true rfl, Nat.le_of_ble_eq_true rfl⟩ rfl hl.1 rfl (Nat.le_of_ble_eq_true rfl) dX6_term_21 ⟨Nat.zero_le _, Nat.zero_le _⟩ (fun q5 H locs hw hf => ?_)
  exact J24 _ _ _ q5 (lv_sub hl [0] rfl) hw hf
theorem dX6_tellLaw_0 : decode cX6_tellLaw 0 = .ok (.aload_n 0, 1) := by decide +kernel
theorem dX6_tellLaw_1 : decode cX6_tellLaw 1 = .ok (.iconst 5, 1) := by decide +kernel
theorem dX6_tellLaw_2 : decode cX6_tellLaw 2 = .ok (.invokevirtual 289, 3) := by decide +kernel
theorem dX6_tellLaw_5 : decode cX6_tellLaw 5 = .ok (.aload_n 0, 1) := by decide +kernel
theorem dX6_tellLaw_6 : decode cX6_tellLaw 6 = .ok (.getfield 266, 3) := by decide +kernel
theorem dX6_tellLaw_9 : decode cX6_tellLaw 9 = .ok (.istore_n 2, 1) := by decide +kernel
theorem dX6_tellLaw_10 : decode cX6_tellLaw 10 = .ok (.iconst 0, 1) := by decide +kernel
theorem dX6_tellLaw_11 : decode cX6_tellLaw 11 = .ok (.istore_n 3, 1) := by decide +kernel
theorem dX6_tellLaw_12 : decode cX6_tellLaw 12 = .ok (.aload_n 0, 1) := by decide +kernel
theorem dX6_tellLaw_13 : decode cX6_tellLaw 13 = .ok (.getfield 227, 3) := by decide +kernel
theorem dX6_tellLaw_16 : decode cX6_tellLaw 16 = .ok (.ifCond .ne 113, 3) := by decide +kernel
theorem dX6_tellLaw_19 : decode cX6_tellLaw 19 = .ok (.aload_n 0, 1) := by decide +kernel
theorem dX6_tellLaw_20 : decode cX6_tellLaw 20 = .ok (.bipush 28, 2) := by decide +kernel
theorem dX6_tellLaw_22 : decode cX6_tellLaw 22 = .ok (.invokevirtual 245, 3) := by decide +kernel
theorem dX6_tellLaw_25 : decode cX6_tellLaw 25 = .ok (.ifCond .eq 104, 3) := by decide +kernel
theorem dX6_tellLaw_28 : decode cX6_tellLaw 28 = .ok (.iload_n 3, 1) := by decide +kernel
theorem dX6_tellLaw_29 : decode cX6_tellLaw 29 = .ok (.iconst 4, 1) := by decide +kernel
theorem dX6_tellLaw_30 : decode cX6_tellLaw 30 = .ok (.if_icmp .ne 8, 3) := by decide +kernel
theorem dX6_tellLaw_33 : decode cX6_tellLaw 33 = .ok (.aload_n 0, 1) := by decide +kernel
theorem dX6_tellLaw_34 : decode cX6_tellLaw 34 = .ok (.iconst 2, 1) := by decide +kernel
theorem dX6_tellLaw_35 : decode cX6_tellLaw 35 = .ok (.invokevirtual 242, 3) := by decide +kernel
theorem dX6_tellLaw_38 : decode cX6_tellLaw 38 = .ok (.aload_n 0, 1) := by decide +kernel
theorem dX6_tellLaw_39 : decode cX6_tellLaw 39 = .ok (.getfield 227, 3) := by decide +kernel
theorem dX6_tellLaw_42 : decode cX6_tellLaw 42 = .ok (.ifCond .le 4, 3) := by decide +kernel
theorem dX6_tellLaw_45 : decode cX6_tellLaw 45 = .ok (.return_, 1) := by decide +kernel
theorem dX6_tellLaw_46 : decode cX6_tellLaw 46 = .ok (.iinc 3 1, 3) := by decide +kernel
theorem dX6_tellLaw_49 : decode cX6_tellLaw 49 = .ok (.aload_n 0, 1) := by decide +kernel
theorem dX6_tellLaw_50 : decode cX6_tellLaw 50 = .ok (.invokevirtual 248, 3) := by decide +kernel
theorem dX6_tellLaw_53 : decode cX6_tellLaw 53 = .ok (.aload_n 0, 1) := by decide +kernel
theorem dX6_tellLaw_54 : decode cX6_tellLaw 54 = .ok (.getfield 91, 3) := by decide +kernel
theorem dX6_tellLaw_57 : decode cX6_tellLaw 57 = .ok (.aload_n 0, 1) := by decide +kernel
theorem dX6_tellLaw_58 : decode cX6_tellLaw 58 = .ok (.getfield 266, 3) := by decide +kernel
theorem dX6_tellLaw_61 : decode cX6_tellLaw 61 = .ok (.iconst 1, 1) := by decide +kernel
theorem dX6_tellLaw_62 : decode cX6_tellLaw 62 = .ok (.bastore, 1) := by decide +kernel
theorem dX6_tellLaw_63 : decode cX6_tellLaw 63 = .ok (.aload_n 0, 1) := by decide +kernel
theorem dX6_tellLaw_64 : decode cX6_tellLaw 64 = .ok (.getfield 95, 3) := by decide +kernel
theorem dX6_tellLaw_67 : decode cX6_tellLaw 67 = .ok (.aload_n 0, 1) := by decide +kernel
theorem dX6_tellLaw_68 : decode cX6_tellLaw 68 = .ok (.getfield 266, 3) := by decide +kernel
theorem dX6_tellLaw_71 : decode cX6_tellLaw 71 = .ok (.aload_n 0, 1) := by decide +kernel
theorem dX6_tellLaw_72 : decode cX6_tellLaw 72 = .ok (.getfield 269, 3) := by decide +kernel
theorem dX6_tellLaw_75 : decode cX6_tellLaw 75 = .ok (.iastore, 1) := by decide +kernel
theorem dX6_tellLaw_76 : decode cX6_tellLaw 76 = .ok (.aload_n 0, 1) := by decide +kernel
theorem dX6_tellLaw_77 : decode cX6_tellLaw 77 = .ok (.invokevirtual 318, 3) := by decide +kernel
theorem dX6_tellLaw_80 : decode cX6_tellLaw 80 = .ok (.aload_n 0, 1) := by decide +kernel
theorem dX6_tellLaw_81 : decode cX6_tellLaw 81 = .ok (.bipush 13, 2) := by decide +kernel
theorem dX6_tellLaw_83 : decode cX6_tellLaw 83 = .ok (.invokevirtual 289, 3) := by decide +kernel
theorem dX6_tellLaw_86 : decode cX6_tellLaw 86 = .ok (.aload_n 0, 1) := by decide +kernel
theorem dX6_tellLaw_87 : decode cX6_tellLaw 87 = .ok (.getfield 98, 3) := by decide +kernel
theorem dX6_tellLaw_90 : decode cX6_tellLaw 90 = .ok (.aload_n 0, 1) := by decide +kernel
theorem dX6_tellLaw_91 : decode cX6_tellLaw 91 = .ok (.getfield 266, 3) := by decide +kernel
theorem dX6_tellLaw_94 : decode cX6_tellLaw 94 = .ok (.aload_n 0, 1) := by decide +kernel
theorem dX6_tellLaw_95 : decode cX6_tellLaw 95 = .ok (.getfield 269, 3) := by decide +kernel
theorem dX6_tellLaw_98 : decode cX6_tellLaw 98 = .ok (.iastore, 1) := by decide +kernel
theorem dX6_tellLaw_99 : decode cX6_tellLaw 99 = .ok (.aload_n 0, 1) := by decide +kernel
theorem dX6_tellLaw_100 : decode cX6_tellLaw 100 = .ok (.getfield 227, 3) := by decide +kernel
theorem dX6_tellLaw_103 : decode cX6_tellLaw 103 = .ok (.ifCond .ne 7, 3) := by decide +kernel
theorem dX6_tellLaw_106 : decode cX6_tellLaw 106 = .ok (.aload_n 0, 1) := by decide +kernel
theorem dX6_tellLaw_107 : decode cX6_tellLaw 107 = .ok (.invokevirtual 318, 3) := by decide +kernel
theorem dX6_tellLaw_110 : decode cX6_tellLaw 110 = .ok (.aload_n 0, 1) := by decide +kernel
theorem dX6_tellLaw_111 : decode cX6_tellLaw 111 = .ok (.bipush 29, 2) := by decide +kernel
theorem dX6_tellLaw_113 : decode cX6_tellLaw 113 = .ok (.invokevirtual 289, 3) := by decide +kernel
theorem dX6_tellLaw_116 : decode cX6_tellLaw 116 = .ok (.aload_n 0, 1) := by decide +kernel
theorem dX6_tellLaw_117 : decode cX6_tellLaw 117 = .ok (.invokevirtual 321, 3) := by decide +kernel
theorem dX6_tellLaw_120 : decode cX6_tellLaw 120 = .ok (.aload_n 0, 1) := by decide +kernel
theorem dX6_tellLaw_121 : decode cX6_tellLaw 121 = .ok (.bipush 30, 2) := by decide +kernel
theorem dX6_tellLaw_123 : decode cX6_tellLaw 123 = .ok (.invokevirtual 289, 3) := by decide +kernel
theorem dX6_tellLaw_126 : decode cX6_tellLaw 126 = .ok (.goto (-114), 3) := by decide +kernel
theorem dX6_tellLaw_129 : decode cX6_tellLaw 129 = .ok (.aload_n 0, 1) := by decide +kernel
theorem dX6_tellLaw_130 : decode cX6_tellLaw 130 = .ok (.getfield 91, 3) := by decide +kernel
theorem dX6_tellLaw_133 : decode cX6_tellLaw 133 = .ok (.aload_n 0, 1) := by decide +kernel
theorem dX6_tellLaw_134 : decode cX6_tellLaw 134 = .ok (.getfield 266, 3) := by decide +kernel
theorem dX6_tellLaw_137 : decode cX6_tellLaw 137 = .ok (.iconst 0, 1) := by decide +kernel
theorem dX6_tellLaw_138 : decode cX6_tellLaw 138 = .ok (.bastore, 1) := by decide +kernel
theorem dX6_tellLaw_139 : decode cX6_tellLaw 139 = .ok (.aload_n 0, 1) := by decide +kernel
theorem dX6_tellLaw_140 : decode cX6_tellLaw 140 = .ok (.invokevirtual 321, 3) := by decide +kernel
theorem dX6_tellLaw_143 : decode cX6_tellLaw 143 = .ok (.aload_n 0, 1) := by decide +kernel
theorem dX6_tellLaw_144 : decode cX6_tellLaw 144 = .ok (.iconst 4, 1) := by decide +kernel
theorem dX6_tellLaw_145 : decode cX6_tellLaw 145 = .ok (.invokevirtual 289, 3) := by decide +kernel
theorem dX6_tellLaw_148 : decode cX6_tellLaw 148 = .ok (.aload_n 0, 1) := by decide +kernel
theorem dX6_tellLaw_149 : decode cX6_tellLaw 149 = .ok (.getfield 227, 3) := by decide +kernel
theorem dX6_tellLaw_152 : decode cX6_tellLaw 152 = .ok (.ifCond .gt 7, 3) := by decide +kernel
theorem dX6_tellLaw_155 : decode cX6_tellLaw 155 = .ok (.iload_n 1, 1) := by decide +kernel
theorem dX6_tellLaw_156 : decode cX6_tellLaw 156 = .ok (.ifCond .ge 4, 3) := by decide +kernel
theorem dX6_tellLaw_159 : decode cX6_tellLaw 159 = .ok (.return_, 1) := by decide +kernel
theorem dX6_tellLaw_160 : decode cX6_tellLaw 160 = .ok (.aload_n 0, 1) := by decide +kernel
theorem dX6_tellLaw_161 : decode cX6_tellLaw 161 = .ok (.getfield 85, 3) := by decide +kernel
theorem dX6_tellLaw_164 : decode cX6_tellLaw 164 = .ok (.bipush 7, 2) := by decide +kernel
theorem dX6_tellLaw_166 : decode cX6_tellLaw 166 = .ok (.aload_n 0, 1) := by decide +kernel
theorem dX6_tellLaw_167 : decode cX6_tellLaw 167 = .ok (.getfield 260, 3) := by decide +kernel
theorem dX6_tellLaw_170 : decode cX6_tellLaw 170 = .ok (.imul, 1) := by decide +kernel
theorem dX6_tellLaw_171 : decode cX6_tellLaw 171 = .ok (.iload_n 1, 1) := by decide +kernel
theorem dX6_tellLaw_172 : decode cX6_tellLaw 172 = .ok (.iadd, 1) := by decide +kernel
theorem dX6_tellLaw_173 : decode cX6_tellLaw 173 = .ok (.iload_n 2, 1) := by decide +kernel
theorem dX6_tellLaw_174 : decode cX6_tellLaw 174 = .ok (.iastore, 1) := by decide +kernel
theorem dX6_tellLaw_175 : decode cX6_tellLaw 175 = .ok (.aload_n 0, 1) := by decide +kernel
theorem dX6_tellLaw_176 : decode cX6_tellLaw 176 = .ok (.getfield 88, 3) := by decide +kernel
theorem dX6_tellLaw_179 : decode cX6_tellLaw 179 = .ok (.bipush 7, 2) := by decide +kernel
theorem dX6_tellLaw_181 : decode cX6_tellLaw 181 = .ok (.aload_n 0, 1) := by decide +kernel
theorem dX6_tellLaw_182 : decode cX6_tellLaw 182 = .ok (.getfield 260, 3) := by decide +kernel
theorem dX6_tellLaw_185 : decode cX6_tellLaw 185 = .ok (.imul, 1) := by decide +kernel
theorem dX6_tellLaw_186 : decode cX6_tellLaw 186 = .ok (.iload_n 1, 1) := by decide +kernel
theorem dX6_tellLaw_187 : decode cX6_tellLaw 187 = .ok (.iadd, 1) := by decide +kernel
theorem dX6_tellLaw_188 : decode cX6_tellLaw 188 = .ok (.aload_n 0, 1) := by decide +kernel
theorem dX6_tellLaw_189 : decode cX6_tellLaw 189 = .ok (.getfield 266, 3) := by decide +kernel
theorem dX6_tellLaw_192 : decode cX6_tellLaw 192 = .ok (.iastore, 1) := by decide +kernel
theorem dX6_tellLaw_193 : decode cX6_tellLaw 193 = .ok (.return_, 1) := by decide +kernel
abbrev rm_X6_tellLaw : Room := { frames := 5, cells := 0, slots := 0, locals := 103 }
def f_X6_tellLaw_J110 (S : St) (x1 : Int32) (x2 : Int32) (x3 : Int32) : Option ((Int32 × St) ⊕ ((St) ⊕ (St))) :=
  (f_X6_must  S (29 : Int32)).bind (fun (q14 : St) => (f_X6_term  q14 ).bind (fun (q15 : St) => (f_X6_must  q15 (30 : Int32)).bind (fun (q16 : St) => some (.inl (x3, q16)))))
def f_X6_tellLaw_J38 (S : St) (x1 : Int32) (x2 : Int32) (x3 : Int32) : Option ((Int32 × St) ⊕ ((St) ⊕ (St))) :=
  if (st_I S (ky 0 13)) ≤ 0 then ((f_X6_goesOn  S ).bind (fun (q7 : St) => chk (ib (st_I q7 (ky 0 38)) 260) (lt_v (up_A q7 (ky 0 39) (upd (st_A q7 (ky 0 39)) (st_I q7 (ky 0 38)).toNatClampNeg (vp_nar .boolean (1 : Int32)))) (fun (S8 : St) => chk (ib (st_I S8 (ky 0 38)) 260) (lt_v (up_A S8 (ky 0 40) (upd (st_A S8 (ky 0 40)) (st_I S8 (ky 0 38)).toNatClampNeg (st_I S8 (ky 0 44)))) (fun (S9 : St) => (f_X6_expression  S9 ).bind (fun (q10 : St) => (f_X6_must  q10 (13 : Int32)).bind (fun (q11 : St) => chk (ib (st_I q11 (ky 0 38)) 260) (lt_v (up_A q11 (ky 0 41) (upd (st_A q11 (ky 0 41)) (st_I q11 (ky 0 38)).toNatClampNeg (st_I q11 (ky 0 44)))) (fun (S12 : St) => if (st_I S12 (ky 0 13)) = 0 then ((f_X6_expression  S12 ).bind (fun (q17 : St) => f_X6_tellLaw_J110  q17 x1 x2 (x3 + 1))) else (f_X6_tellLaw_J110  S12 x1 x2 (x3 + 1)))))))))))) else (some (.inr (.inr S)))
def f_X6_tellLaw_L12 (x1 : Int32) (x2 : Int32) (z12 : Int32 × St) : Option ((Int32 × St) ⊕ ((St) ⊕ (St))) :=
  if (st_I z12.2 (ky 0 13)) = 0 then ((f_X6_is  z12.2 (28 : Int32)).bind (fun (q3 : Int32) => if q3 = 0 then (some (.inr (.inl z12.2))) else (if z12.1 = (4 : Int32) then ((f_X6_fail  z12.2 (2 : Int32)).bind (fun (q18 : St) => f_X6_tellLaw_J38  q18 x1 x2 z12.1)) else (f_X6_tellLaw_J38  z12.2 x1 x2 z12.1)))) else (some (.inr (.inl z12.2)))
def f_X6_tellLaw_J129 (S : St) (x1 : Int32) (x2 : Int32) : Option (St) :=
  chk (ib (st_I S (ky 0 38)) 260) (lt_v (up_A S (ky 0 39) (upd (st_A S (ky 0 39)) (st_I S (ky 0 38)).toNatClampNeg (vp_nar .boolean (0 : Int32)))) (fun (S20 : St) => (f_X6_term  S20 ).bind (fun (q21 : St) => (f_X6_must  q21 (4 : Int32)).bind (fun (q22 : St) => if 0 < (st_I q22 (ky 0 13)) then (some q22) else (if 0 ≤ x1 then (chk (ib (((7 : Int32) * (st_I q22 (ky 0 19))) + x1) 14) (lt_v (up_A q22 (ky 0 36) (upd (st_A q22 (ky 0 36)) (((7 : Int32) * (st_I q22 (ky 0 19))) + x1).toNatClampNeg x2)) (fun (S25 : St) => chk (ib (((7 : Int32) * (st_I S25 (ky 0 19))) + x1) 14) (lt_v (up_A S25 (ky 0 37) (upd (st_A S25 (ky 0 37)) (((7 : Int32) * (st_I S25 (ky 0 19))) + x1).toNatClampNeg (st_I S25 (ky 0 38)))) (fun (S26 : St) => some S26))))) else (some q22))))))
def f_X6_tellLaw (S : St) (x1 : Int32) : Option (St) :=
  (f_X6_must  S (5 : Int32)).bind (fun (q1 : St) => (iter (f_X6_tellLaw_L12   x1 (st_I q1 (ky 0 38))) FU ((0 : Int32), q1)).bind fun z => match z with | .inl z => (fun (S19 : St) => f_X6_tellLaw_J129  S19 x1 (st_I q1 (ky 0 38))) z | .inr v28 => some v28)
set_option maxRecDepth 100000 in
set_option maxHeartbeats 4000000 in
theorem k_X6_tellLaw (l : Launch) (g : GG) (hg : gd wd_M g)  (hM : hs wd_M g 0 6) (S : St) (x1 : Int32) (q : St) (hf : f_X6_tellLaw  S x1 = some q) : Met l yX6_tellLaw (Cond.code yX6_tellLaw cX6_tellLaw 4 none :: gw_tbl) rm_X6_tellLaw (va_Pc [.ref (gg_o g 0), .int x1] (wI wd_M g S)) (qc_v wd_M g q) 0 0 (aw g) := by
  refine mt_start (own := RX6) hg (by decide) rfl (Nat.le_of_ble_eq_true rfl) (fun p e s m args below meth c ls H locs cx hw hr hlk hl => ?_)
  have hx := cx.1
  have hb := cx.2.1
  have hown := cx.2.2.2.1
  have hts := cx.2.2.2.2.1
  have hl : lv_has ls 4 [(0, .ref (gg_o g 0)), (1, .int x1)] := hl
  replace hf := h_top hf
  unfold f_X6_tellLaw at hf
  have J129 : ∀ (ls : Array Slot) (H : Heap) (locs : List Loc) (S : St) (x1 : Int32) (x2 : Int32), lv_has ls 4 [(0, .ref (gg_o g 0)), (1, .int x1), (2, .int x2)] → HH wd_M g s S H locs → (f_X6_tellLaw_J129  S x1 x2).bind some = some q → W p l e rm_X6_tellLaw s m args below meth c H locs 0 0 (MQ below (qc_v wd_M g q) args s 0 0 (aw g)) (F0 m 129 ls []) := by
    intro ls H locs S x1 x2 hl hw hf
    unfold f_X6_tellLaw_J129 at hf
    refine lv_aload_n hx hb dX6_tellLaw_129 rfl (lv_at hl 0 rfl) ?_
    refine gf_X6_91 cx hw hM dX6_tellLaw_130 ?_
    refine lv_aload_n hx hb dX6_tellLaw_133 rfl (lv_at hl 0 rfl) ?_
    refine gf_X6_266 cx hw hM dX6_tellLaw_134 ?_
    refine lv_iconst (v := 0) hx hb dX6_tellLaw_137 (by decide) ?_
    refine r_zast cx hw (hM.2.2.1 39 rfl) rfl rfl hf dX6_tellLaw_138 (fun S20 H locs hw hf => ?_)
    refine lv_aload_n hx hb dX6_tellLaw_139 rfl (lv_at hl 0 rfl) ?_
    refine r_V_v (As := []) (rest := []) cx hw hf hM.2.1 (by rw [hM.1]; rfl) lk_X6_321 (fun q21 hq => k_X6_term l g hg  hM S20  q21 hq) ⟨⟨rfl, rfl⟩, Nat.le_of_ble_eq_true rfl, Nat.le_of_ble_eq_true rfl⟩ rfl hl.1 rfl (Nat.le_of_ble_eq_true rfl) dX6_tellLaw_140 ⟨Nat.zero_le _, Nat.zero_le _⟩ (fun q21 H locs hw hf => ?_)
    refine lv_aload_n hx hb dX6_tellLaw_143 rfl (lv_at hl 0 rfl) ?_
    refine lv_iconst (v := 4) hx hb dX6_tellLaw_144 (by decide) ?_
    refine r_V_v (As := [.int (4 : Int32)]) (rest := []) cx hw hf hM.2.1 (by rw [hM.1]; rfl) lk_X6_289 (fun q22 hq => k_X6_must l g hg  hM q21 (4 : Int32) q22 hq) ⟨⟨rfl, rfl⟩, Nat.le_of_ble_eq_true rfl, Nat.le_of_ble_eq_true rfl⟩ rfl hl.1 rfl (Nat.le_of_ble_eq_true rfl) dX6_tellLaw_145 ⟨Nat.zero_le _, Nat.zero_le _⟩ (fun q22 H locs hw hf => ?_)
    refine lv_aload_n hx hb dX6_tellLaw_148 rfl (lv_at hl 0 rfl) ?_
    refine gf_X6_227 cx hw hM dX6_tellLaw_149 ?_
    refine lv_if_gt hx hb dX6_tellLaw_152 (tgt := 159) rfl (fun hc23 => ?_) (fun hc23 => ?_)
    · replace hf := h_pos hc23 hf
      exact r_vret cx hw hr hlk hf dX6_tellLaw_159
    replace hf := h_neg hc23 hf
    refine lv_iload_n hx hb dX6_tellLaw_155 rfl (lv_at hl 1 rfl) ?_
    refine lv_if_ge hx hb dX6_tellLaw_156 (tgt := 160) rfl (fun hc24 => ?_) (fun hc24 => ?_)
    · replace hf := h_pos hc24 hf
      refine lv_aload_n hx hb dX6_tellLaw_160 rfl (lv_at hl 0 rfl) ?_
      refine gf_X6_85 cx hw hM dX6_tellLaw_161 ?_
      refine lv_bipush (v := 7) hx hb dX6_tellLaw_164 (by decide) ?_
      refine lv_aload_n hx hb dX6_tellLaw_166 rfl (lv_at hl 0 rfl) ?_
      refine gf_X6_260 cx hw hM dX6_tellLaw_167 ?_
      refine lv_imul hx hb dX6_tellLaw_170 ?_
      refine lv_iload_n hx hb dX6_tellLaw_171 rfl (lv_at hl 1 rfl) ?_
      refine lv_iadd hx hb dX6_tellLaw_172 ?_
      refine lv_iload_n hx hb dX6_tellLaw_173 rfl (lv_at hl 2 rfl) ?_
      refine r_iast cx hw (hM.2.2.1 36 rfl) rfl rfl hf dX6_tellLaw_174 (fun S25 H locs hw hf => ?_)
      refine lv_aload_n hx hb dX6_tellLaw_175 rfl (lv_at hl 0 rfl) ?_
      refine gf_X6_88 cx hw hM dX6_tellLaw_176 ?_
      refine lv_bipush (v := 7) hx hb dX6_tellLaw_179 (by decide) ?_
      refine lv_aload_n hx hb dX6_tellLaw_181 rfl (lv_at hl 0 rfl) ?_
      refine gf_X6_260 cx hw hM dX6_tellLaw_182 ?_
      refine lv_imul hx hb dX6_tellLaw_185 ?_
      refine lv_iload_n hx hb dX6_tellLaw_186 rfl (lv_at hl 1 rfl) ?_
      refine lv_iadd hx hb dX6_tellLaw_187 ?_
      refine lv_aload_n hx hb dX6_tellLaw_188 rfl (lv_at hl 0 rfl) ?_
      refine gf_X6_266 cx hw hM dX6_tellLaw_189 ?_
      refine r_iast cx hw (hM.2.2.1 37 rfl) rfl rfl hf dX6_tellLaw_192 (fun S26 H locs hw hf => ?_)
      exact r_vret cx hw hr hlk hf dX6_tellLaw_193
    replace hf := h_neg hc24 hf
    exact r_vret cx hw hr hlk hf dX6_tellLaw_159
  refine lv_aload_n hx hb dX6_tellLaw_0 rfl (lv_at hl 0 rfl) ?_
  refine lv_iconst (v := 5) hx hb dX6_tellLaw_1 (by decide) ?_
  refine r_V_v (As := [.int (5 : Int32)]) (rest := []) cx hw hf hM.2.1 (by rw [hM.1]; rfl) lk_X6_289 (fun q1 hq => k_X6_must l g hg  hM S (5 : Int32) q1 hq) ⟨⟨rfl, rfl⟩, Nat.le_of_ble_eq_true rfl, Nat.le_of_ble_eq_true rfl⟩ rfl hl.1 rfl (Nat.le_of_ble_eq_true rfl) dX6_tellLaw_2 ⟨Nat.zero_le _, Nat.zero_le _⟩ (fun q1 H locs hw hf => ?_)
  refine lv_aload_n hx hb dX6_tellLaw_5 rfl (lv_at hl 0 rfl) ?_
  refine gf_X6_266 cx hw hM dX6_tellLaw_6 ?_
  refine lv_istore_n hx hb dX6_tellLaw_9 rfl hl (by decide) (lv' := [(2, .int (st_I q1 (ky 0 38))), (0, .ref (gg_o g 0)), (1, .int x1)]) rfl (fun ls hl => ?_)
  refine lv_iconst (v := 0) hx hb dX6_tellLaw_10 (by decide) ?_
  refine lv_istore_n hx hb dX6_tellLaw_11 rfl hl (by decide) (lv' := [(3, .int (0 : Int32)), (2, .int (st_I q1 (ky 0 38))), (0, .ref (gg_o g 0)), (1, .int x1)]) rfl (fun ls hl => ?_)
  have L12 : ∀ (x1 : Int32) (x2 : Int32) (aft12 : ((St) ⊕ (St)) → Option (St)), (∀ (ls : Array Slot) (H : Heap) (locs : List Loc) (S1 : St), lv_has ls 4 [(0, .ref (gg_o g 0)), (1, .int x1), (2, .int x2)] → HH wd_M g s S1 H locs → aft12 (.inl S1) = some q → W p l e rm_X6_tellLaw s m args below meth c H locs 0 0 (MQ below (qc_v wd_M g q) args s 0 0 (aw g)) (F0 m 129 ls [])) → (∀ v : St, aft12 (.inr v) = some q → (some v : Option (St)).bind some = some q) → ∀ (n12 : Nat) (ls : Array Slot) (H : Heap) (locs : List Loc) (z12 : Int32 × St), lv_has ls 4 [(0, .ref (gg_o g 0)), (1, .int x1), (2, .int x2), (3, .int z12.1)] → HH wd_M g s z12.2 H locs → (iter (f_X6_tellLaw_L12   x1 x2) n12 z12).bind aft12 = some q → W p l e rm_X6_tellLaw s m args below meth c H locs 0 0 (MQ below (qc_v wd_M g q) args s 0 0 (aw g)) (F0 m 12 ls []) := by
    intro x1 x2 aft12 hX12 hR12 n12
    induction n12 with
    | zero => intro ls H locs z12 hl hw hf; exact h_iter0 hf
    | succ n12 ih12 =>
      intro ls H locs z12 hl hw hf
      replace hf := h_iter hf
      unfold f_X6_tellLaw_L12 at hf
      have J110 : ∀ (ls : Array Slot) (H : Heap) (locs : List Loc) (S : St) (x3 : Int32), lv_has ls 4 [(0, .ref (gg_o g 0)), (1, .int x1), (2, .int x2), (3, .int x3)] → HH wd_M g s S H locs → (f_X6_tellLaw_J110  S x1 x2 x3).bind (it_K (f_X6_tellLaw_L12   x1 x2) n12 aft12) = some q → W p l e rm_X6_tellLaw s m args below meth c H locs 0 0 (MQ below (qc_v wd_M g q) args s 0 0 (aw g)) (F0 m 110 ls []) := by
        intro ls H locs S x3 hl hw hf
        unfold f_X6_tellLaw_J110 at hf
        refine lv_aload_n hx hb dX6_tellLaw_110 rfl (lv_at hl 0 rfl) ?_
        refine lv_bipush (v := 29) hx hb dX6_tellLaw_111 (by decide) ?_
        refine r_V_v (As := [.int (29 : Int32)]) (rest := []) cx hw hf hM.2.1 (by rw [hM.1]; rfl) lk_X6_289 (fun q14 hq => k_X6_must l g hg  hM S (29 : Int32) q14 hq) ⟨⟨rfl, rfl⟩, Nat.le_of_ble_eq_true rfl, Nat.le_of_ble_eq_true rfl⟩ rfl hl.1 rfl (Nat.le_of_ble_eq_true rfl) dX6_tellLaw_113 ⟨Nat.zero_le _, Nat.zero_le _⟩ (fun q14 H locs hw hf => ?_)
        refine lv_aload_n hx hb dX6_tellLaw_116 rfl (lv_at hl 0 rfl) ?_
        refine r_V_v (As := []) (rest := []) cx hw hf hM.2.1 (by rw [hM.1]; rfl) lk_X6_321 (fun q15 hq => k_X6_term l g hg  hM q14  q15 hq) ⟨⟨rfl, rfl⟩, Nat.le_of_ble_eq_true rfl, Nat.le_of_ble_eq_true rfl⟩ rfl hl.1 rfl (Nat.le_of_ble_eq_true rfl) dX6_tellLaw_117 ⟨Nat.zero_le _, Nat.zero_le _⟩ (fun q15 H locs hw hf => ?_)
        refine lv_aload_n hx hb dX6_tellLaw_120 rfl (lv_at hl 0 rfl) ?_
        refine lv_bipush (v := 30) hx hb dX6_tellLaw_121 (by decide) ?_
        refine r_V_v (As := [.int (30 : Int32)]) (rest := []) cx hw hf hM.2.1 (by rw [hM.1]; rfl) lk_X6_289 (fun q16 hq => k_X6_must l g hg  hM q15 (30 : Int32) q16 hq) ⟨⟨rfl, rfl⟩, Nat.le_of_ble_eq_true rfl, Nat.le_of_ble_eq_true rfl⟩ rfl hl.1 rfl (Nat.le_of_ble_eq_true rfl) dX6_tellLaw_123 ⟨Nat.zero_le _, Nat.zero_le _⟩ (fun q16 H locs hw hf => ?_)
        refine lv_goto hx hb dX6_tellLaw_126 (tgt := 12) rfl ?_
        exact ih12 _ _ _ (x3, q16) (lv_sub hl [0, 1, 2, 3] rfl) hw hf
      have J38 : ∀ (ls : Array Slot) (H : Heap) (locs : List Loc) (S : St) (x3 : Int32), lv_has ls 4 [(0, .ref (gg_o g 0)), (1, .int x1), (2, .int x2), (3, .int x3)] → HH wd_M g s S H locs → (f_X6_tellLaw_J38  S x1 x2 x3).bind (it_K (f_X6_tellLaw_L12   x1 x2) n12 aft12) = some q → W p l e rm_X6_tellLaw s m args below meth c H locs 0 0 (MQ below (qc_v wd_M g q) args s 0 0 (aw g)) (F0 m 38 ls []) := by
        intro ls H locs S x3 hl hw hf
        unfold f_X6_tellLaw_J38 at hf
        refine lv_aload_n hx hb dX6_tellLaw_38 rfl (lv_at hl 0 rfl) ?_
        refine gf_X6_227 cx hw hM dX6_tellLaw_39 ?_
        refine lv_if_le hx hb dX6_tellLaw_42 (tgt := 46) rfl (fun hc6 => ?_) (fun hc6 => ?_)
        · replace hf := h_pos hc6 hf
          refine lv_iinc hx hb dX6_tellLaw_46 hl (k := 3) rfl (congrArg (HAdd.hAdd _) (show Int32.ofInt (1) = 1 by decide)) (by decide) (lv' := [(3, .int (x3 + 1)), (0, .ref (gg_o g 0)), (1, .int x1), (2, .int x2)]) rfl (fun ls hl => ?_)
          refine lv_aload_n hx hb dX6_tellLaw_49 rfl (lv_at hl 1 rfl) ?_
          refine r_V_v (As := []) (rest := []) cx hw hf hM.2.1 (by rw [hM.1]; rfl) lk_X6_248 (fun q7 hq => k_X6_goesOn l g hg  hM S  q7 hq) ⟨⟨rfl, rfl⟩, Nat.le_of_ble_eq_true rfl, Nat.le_of_ble_eq_true rfl⟩ rfl hl.1 rfl (Nat.le_of_ble_eq_true rfl) dX6_tellLaw_50 ⟨Nat.zero_le _, Nat.zero_le _⟩ (fun q7 H locs hw hf => ?_)
          refine lv_aload_n hx hb dX6_tellLaw_53 rfl (lv_at hl 1 rfl) ?_
          refine gf_X6_91 cx hw hM dX6_tellLaw_54 ?_
          refine lv_aload_n hx hb dX6_tellLaw_57 rfl (lv_at hl 1 rfl) ?_
          refine gf_X6_266 cx hw hM dX6_tellLaw_58 ?_
          refine lv_iconst (v := 1) hx hb dX6_tellLaw_61 (by decide) ?_
          refine r_zast cx hw (hM.2.2.1 39 rfl) rfl rfl hf dX6_tellLaw_62 (fun S8 H locs hw hf => ?_)
          refine lv_aload_n hx hb dX6_tellLaw_63 rfl (lv_at hl 1 rfl) ?_
          refine gf_X6_95 cx hw hM dX6_tellLaw_64 ?_
          refine lv_aload_n hx hb dX6_tellLaw_67 rfl (lv_at hl 1 rfl) ?_
          refine gf_X6_266 cx hw hM dX6_tellLaw_68 ?_
          refine lv_aload_n hx hb dX6_tellLaw_71 rfl (lv_at hl 1 rfl) ?_
          refine gf_X6_269 cx hw hM dX6_tellLaw_72 ?_
          refine r_iast cx hw (hM.2.2.1 40 rfl) rfl rfl hf dX6_tellLaw_75 (fun S9 H locs hw hf => ?_)
          refine lv_aload_n hx hb dX6_tellLaw_76 rfl (lv_at hl 1 rfl) ?_
          refine r_V_v (As := []) (rest := []) cx hw hf hM.2.1 (by rw [hM.1]; rfl) lk_X6_318 (fun q10 hq => k_X6_expression l g hg  hM S9  q10 hq) ⟨⟨rfl, rfl⟩, Nat.le_of_ble_eq_true rfl, Nat.le_of_ble_eq_true rfl⟩ rfl hl.1 rfl (Nat.le_of_ble_eq_true rfl) dX6_tellLaw_77 ⟨Nat.zero_le _, Nat.zero_le _⟩ (fun q10 H locs hw hf => ?_)
          refine lv_aload_n hx hb dX6_tellLaw_80 rfl (lv_at hl 1 rfl) ?_
          refine lv_bipush (v := 13) hx hb dX6_tellLaw_81 (by decide) ?_
          refine r_V_v (As := [.int (13 : Int32)]) (rest := []) cx hw hf hM.2.1 (by rw [hM.1]; rfl) lk_X6_289 (fun q11 hq => k_X6_must l g hg  hM q10 (13 : Int32) q11 hq) ⟨⟨rfl, rfl⟩, Nat.le_of_ble_eq_true rfl, Nat.le_of_ble_eq_true rfl⟩ rfl hl.1 rfl (Nat.le_of_ble_eq_true rfl) dX6_tellLaw_83 ⟨Nat.zero_le _, Nat.zero_le _⟩ (fun q11 H locs hw hf => ?_)
          refine lv_aload_n hx hb dX6_tellLaw_86 rfl (lv_at hl 1 rfl) ?_
          refine gf_X6_98 cx hw hM dX6_tellLaw_87 ?_
          refine lv_aload_n hx hb dX6_tellLaw_90 rfl (lv_at hl 1 rfl) ?_
          refine gf_X6_266 cx hw hM dX6_tellLaw_91 ?_
          refine lv_aload_n hx hb dX6_tellLaw_94 rfl (lv_at hl 1 rfl) ?_
          refine gf_X6_269 cx hw hM dX6_tellLaw_95 ?_
          refine r_iast cx hw (hM.2.2.1 41 rfl) rfl rfl hf dX6_tellLaw_98 (fun S12 H locs hw hf => ?_)
          refine lv_aload_n hx hb dX6_tellLaw_99 rfl (lv_at hl 1 rfl) ?_
          refine gf_X6_227 cx hw hM dX6_tellLaw_100 ?_
          refine lv_if_ne hx hb dX6_tellLaw_103 (tgt := 110) rfl (fun hc13 => ?_) (fun hc13 => ?_)
          · replace hf := h_neg hc13 hf
            exact J110 _ _ _ S12 (x3 + 1) (lv_sub hl [1, 2, 3, 0] rfl) hw hf
          replace hf := h_pos hc13 hf
          refine lv_aload_n hx hb dX6_tellLaw_106 rfl (lv_at hl 1 rfl) ?_
          refine r_V_v (As := []) (rest := []) cx hw hf hM.2.1 (by rw [hM.1]; rfl) lk_X6_318 (fun q17 hq => k_X6_expression l g hg  hM S12  q17 hq) ⟨⟨rfl, rfl⟩, Nat.le_of_ble_eq_true rfl, Nat.le_of_ble_eq_true rfl⟩ rfl hl.1 rfl (Nat.le_of_ble_eq_true rfl) dX6_tellLaw_107 ⟨Nat.zero_le _, Nat.zero_le _⟩ (fun q17 H locs hw hf => ?_)
          exact J110 _ _ _ q17 (x3 + 1) (lv_sub hl [1, 2, 3, 0] rfl) hw hf
        replace hf := h_neg hc6 hf
        replace hf := hR12 S hf
        exact r_vret cx hw hr hlk hf dX6_tellLaw_45
      refine lv_aload_n hx hb dX6_tellLaw_12 rfl (lv_at hl 0 rfl) ?_
      refine gf_X6_227 cx hw hM dX6_tellLaw_13 ?_
      refine lv_if_ne hx hb dX6_tellLaw_16 (tgt := 129) rfl (fun hc2 => ?_) (fun hc2 => ?_)
      · replace hf := h_neg hc2 hf
        exact hX12 _ _ _ z12.2 (lv_sub hl [0, 1, 2] rfl) hw hf
      replace hf := h_pos hc2 hf
      refine lv_aload_n hx hb dX6_tellLaw_19 rfl (lv_at hl 0 rfl) ?_
      refine lv_bipush (v := 28) hx hb dX6_tellLaw_20 (by decide) ?_
      refine r_V_i (As := [.int (28 : Int32)]) (rest := []) cx hw hf hM.2.1 (by rw [hM.1]; rfl) lk_X6_245 (fun q3 hq => k_X6_is l g hg  hM z12.2 (28 : Int32) q3 hq) ⟨⟨rfl, rfl⟩, Nat.le_of_ble_eq_true rfl, Nat.le_of_ble_eq_true rfl⟩ rfl hl.1 rfl (Nat.le_of_ble_eq_true rfl) dX6_tellLaw_22 ⟨Nat.zero_le _, Nat.zero_le _⟩ (fun q3 H locs hw hf => ?_)
      refine lv_if_eq hx hb dX6_tellLaw_25 (tgt := 129) rfl (fun hc4 => ?_) (fun hc4 => ?_)
      · replace hf := h_pos hc4 hf
        exact hX12 _ _ _ z12.2 (lv_sub hl [0, 1, 2] rfl) hw hf
      replace hf := h_neg hc4 hf
      refine lv_iload_n hx hb dX6_tellLaw_28 rfl (lv_at hl 3 rfl) ?_
      refine lv_iconst (v := 4) hx hb dX6_tellLaw_29 (by decide) ?_
      refine lv_icmp_ne hx hb dX6_tellLaw_30 (tgt := 38) rfl (fun hc5 => ?_) (fun hc5 => ?_)
      · replace hf := h_neg hc5 hf
        exact J38 _ _ _ z12.2 z12.1 (lv_sub hl [0, 1, 2, 3] rfl) hw hf
      replace hf := h_pos hc5 hf
      refine lv_aload_n hx hb dX6_tellLaw_33 rfl (lv_at hl 0 rfl) ?_
      refine lv_iconst (v := 2) hx hb dX6_tellLaw_34 (by decide) ?_
      refine r_V_v (As := [.int (2 : Int32)]) (rest := []) cx hw hf hM.2.1 (by rw [hM.1]; rfl) lk_X6_242 (fun q18 hq => k_X6_fail l g hg  hM z12.2 (2 : Int32) q18 hq) ⟨⟨rfl, rfl⟩, Nat.le_of_ble_eq_true rfl, Nat.le_of_ble_eq_true rfl⟩ rfl hl.1 rfl (Nat.le_of_ble_eq_true rfl) dX6_tellLaw_35 ⟨Nat.zero_le _, Nat.zero_le _⟩ (fun q18 H locs hw hf => ?_)
      exact J38 _ _ _ q18 z12.1 (lv_sub hl [0, 1, 2, 3] rfl) hw hf
  refine L12 x1 (st_I q1 (ky 0 38)) _ (fun ls H locs S19 hl hw hf => ?_) (fun v h => h) FU _ _ _ ((0 : Int32), q1) (lv_sub hl [2, 3, 1, 0] rfl) hw (h_assoc hf)
  try dsimp only at hf
  exact J129 _ _ _ S19 x1 (st_I q1 (ky 0 38)) (lv_sub hl [0, 1, 2] rfl) hw hf
theorem dX6_tellMirror_0 : decode cX6_tellMirror 0 = .ok (.bipush 8, 2) := by decide +kernel
theorem dX6_tellMirror_2 : decode cX6_tellMirror 2 = .ok (.aload_n 0, 1) := by decide +kernel
theorem dX6_tellMirror_3 : decode cX6_tellMirror 3 = .ok (.getfield 260, 3) := by decide +kernel
theorem dX6_tellMirror_6 : decode cX6_tellMirror 6 = .ok (.imul, 1) := by decide +kernel
theorem dX6_tellMirror_7 : decode cX6_tellMirror 7 = .ok (.aload_n 0, 1) := by decide +kernel
theorem dX6_tellMirror_8 : decode cX6_tellMirror 8 = .ok (.getfield 70, 3) := by decide +kernel
theorem dX6_tellMirror_11 : decode cX6_tellMirror 11 = .ok (.aload_n 0, 1) := by decide +kernel
theorem dX6_tellMirror_12 : decode cX6_tellMirror 12 = .ok (.getfield 260, 3) := by decide +kernel
theorem dX6_tellMirror_15 : decode cX6_tellMirror 15 = .ok (.iaload, 1) := by decide +kernel
theorem dX6_tellMirror_16 : decode cX6_tellMirror 16 = .ok (.iadd, 1) := by decide +kernel
theorem dX6_tellMirror_17 : decode cX6_tellMirror 17 = .ok (.istore_n 1, 1) := by decide +kernel
theorem dX6_tellMirror_18 : decode cX6_tellMirror 18 = .ok (.aload_n 0, 1) := by decide +kernel
theorem dX6_tellMirror_19 : decode cX6_tellMirror 19 = .ok (.invokevirtual 285, 3) := by decide +kernel
theorem dX6_tellMirror_22 : decode cX6_tellMirror 22 = .ok (.istore_n 2, 1) := by decide +kernel
theorem dX6_tellMirror_23 : decode cX6_tellMirror 23 = .ok (.aload_n 0, 1) := by decide +kernel
theorem dX6_tellMirror_24 : decode cX6_tellMirror 24 = .ok (.getfield 73, 3) := by decide +kernel
theorem dX6_tellMirror_27 : decode cX6_tellMirror 27 = .ok (.iload_n 1, 1) := by decide +kernel
theorem dX6_tellMirror_28 : decode cX6_tellMirror 28 = .ok (.aload_n 0, 1) := by decide +kernel
theorem dX6_tellMirror_29 : decode cX6_tellMirror 29 = .ok (.iconst 0, 1) := by decide +kernel
theorem dX6_tellMirror_30 : decode cX6_tellMirror 30 = .ok (.invokevirtual 302, 3) := by decide +kernel
theorem dX6_tellMirror_33 : decode cX6_tellMirror 33 = .ok (.iastore, 1) := by decide +kernel
theorem dX6_tellMirror_34 : decode cX6_tellMirror 34 = .ok (.aload_n 0, 1) := by decide +kernel
theorem dX6_tellMirror_35 : decode cX6_tellMirror 35 = .ok (.getfield 76, 3) := by decide +kernel
theorem dX6_tellMirror_38 : decode cX6_tellMirror 38 = .ok (.iload_n 1, 1) := by decide +kernel
theorem dX6_tellMirror_39 : decode cX6_tellMirror 39 = .ok (.aload_n 0, 1) := by decide +kernel
theorem dX6_tellMirror_40 : decode cX6_tellMirror 40 = .ok (.iconst 1, 1) := by decide +kernel
theorem dX6_tellMirror_41 : decode cX6_tellMirror 41 = .ok (.invokevirtual 302, 3) := by decide +kernel
theorem dX6_tellMirror_44 : decode cX6_tellMirror 44 = .ok (.iastore, 1) := by decide +kernel
theorem dX6_tellMirror_45 : decode cX6_tellMirror 45 = .ok (.aload_n 0, 1) := by decide +kernel
theorem dX6_tellMirror_46 : decode cX6_tellMirror 46 = .ok (.iconst 4, 1) := by decide +kernel
theorem dX6_tellMirror_47 : decode cX6_tellMirror 47 = .ok (.invokevirtual 289, 3) := by decide +kernel
theorem dX6_tellMirror_50 : decode cX6_tellMirror 50 = .ok (.aload_n 0, 1) := by decide +kernel
theorem dX6_tellMirror_51 : decode cX6_tellMirror 51 = .ok (.getfield 227, 3) := by decide +kernel
theorem dX6_tellMirror_54 : decode cX6_tellMirror 54 = .ok (.ifCond .le 4, 3) := by decide +kernel
theorem dX6_tellMirror_57 : decode cX6_tellMirror 57 = .ok (.return_, 1) := by decide +kernel
theorem dX6_tellMirror_58 : decode cX6_tellMirror 58 = .ok (.aload_n 0, 1) := by decide +kernel
theorem dX6_tellMirror_59 : decode cX6_tellMirror 59 = .ok (.iload_n 2, 1) := by decide +kernel
theorem dX6_tellMirror_60 : decode cX6_tellMirror 60 = .ok (.iconst 2, 1) := by decide +kernel
theorem dX6_tellMirror_61 : decode cX6_tellMirror 61 = .ok (.aload_n 0, 1) := by decide +kernel
theorem dX6_tellMirror_62 : decode cX6_tellMirror 62 = .ok (.getfield 70, 3) := by decide +kernel
theorem dX6_tellMirror_65 : decode cX6_tellMirror 65 = .ok (.aload_n 0, 1) := by decide +kernel
theorem dX6_tellMirror_66 : decode cX6_tellMirror 66 = .ok (.getfield 260, 3) := by decide +kernel
theorem dX6_tellMirror_69 : decode cX6_tellMirror 69 = .ok (.iaload, 1) := by decide +kernel
theorem dX6_tellMirror_70 : decode cX6_tellMirror 70 = .ok (.invokevirtual 292, 3) := by decide +kernel
theorem dX6_tellMirror_73 : decode cX6_tellMirror 73 = .ok (.aload_n 0, 1) := by decide +kernel
theorem dX6_tellMirror_74 : decode cX6_tellMirror 74 = .ok (.getfield 70, 3) := by decide +kernel
theorem dX6_tellMirror_77 : decode cX6_tellMirror 77 = .ok (.aload_n 0, 1) := by decide +kernel
theorem dX6_tellMirror_78 : decode cX6_tellMirror 78 = .ok (.getfield 260, 3) := by decide +kernel
theorem dX6_tellMirror_81 : decode cX6_tellMirror 81 = .ok (.dup2, 1) := by decide +kernel
theorem dX6_tellMirror_82 : decode cX6_tellMirror 82 = .ok (.iaload, 1) := by decide +kernel
theorem dX6_tellMirror_83 : decode cX6_tellMirror 83 = .ok (.iconst 1, 1) := by decide +kernel
theorem dX6_tellMirror_84 : decode cX6_tellMirror 84 = .ok (.iadd, 1) := by decide +kernel
theorem dX6_tellMirror_85 : decode cX6_tellMirror 85 = .ok (.iastore, 1) := by decide +kernel
theorem dX6_tellMirror_86 : decode cX6_tellMirror 86 = .ok (.return_, 1) := by decide +kernel
abbrev rm_X6_tellMirror : Room := { frames := 4, cells := 0, slots := 0, locals := 85 }
def f_X6_tellMirror (S : St)  : Option (St) :=
  chk (ib (st_I S (ky 0 19)) 2) (lt_v (((8 : Int32) * (st_I S (ky 0 19))) + (st_A S (ky 0 31) (st_I S (ky 0 19)).toNatClampNeg)) (fun (u1 : Int32) => (f_X6_named  S ).bind (fun (q2 : Int32 × St) => (f_X6_known  q2.2 (0 : Int32)).bind (fun (q3 : Int32 × St) => chk (ib u1 16) (lt_v (up_A q3.2 (ky 0 32) (upd (st_A q3.2 (ky 0 32)) u1.toNatClampNeg q3.1)) (fun (S4 : St) => (f_X6_known  S4 (1 : Int32)).bind (fun (q5 : Int32 × St) => chk (ib u1 16) (lt_v (up_A q5.2 (ky 0 33) (upd (st_A q5.2 (ky 0 33)) u1.toNatClampNeg q5.1)) (fun (S6 : St) => (f_X6_must  S6 (4 : Int32)).bind (fun (q7 : St) => if (st_I q7 (ky 0 13)) ≤ 0 then (chk (ib (st_I q7 (ky 0 19)) 2) ((f_X6_notes  q7 q2.1 (2 : Int32) (st_A q7 (ky 0 31) (st_I q7 (ky 0 19)).toNatClampNeg)).bind (fun (q9 : St) => chk (ib (st_I q9 (ky 0 19)) 2) (chk (ib (st_I q9 (ky 0 19)) 2) (lt_v (up_A q9 (ky 0 31) (upd (st_A q9 (ky 0 31)) (st_I q9 (ky 0 19)).toNatClampNeg ((st_A q9 (ky 0 31) (st_I q9 (ky 0 19)).toNatClampNeg) + (1 : Int32)))) (fun (S10 : St) => some S10)))))) else (some q7)))))))))))
set_option maxRecDepth 100000 in
set_option maxHeartbeats 4000000 in
theorem k_X6_tellMirror (l : Launch) (g : GG) (hg : gd wd_M g)  (hM : hs wd_M g 0 6) (S : St)  (q : St) (hf : f_X6_tellMirror  S  = some q) : Met l yX6_tellMirror (Cond.code yX6_tellMirror cX6_tellMirror 3 none :: gw_tbl) rm_X6_tellMirror (va_Pc [.ref (gg_o g 0)] (wI wd_M g S)) (qc_v wd_M g q) 0 0 (aw g) := by
  refine mt_start (own := RX6) hg (by decide) rfl (Nat.le_of_ble_eq_true rfl) (fun p e s m args below meth c ls H locs cx hw hr hlk hl => ?_)
  have hx := cx.1
  have hb := cx.2.1
  have hown := cx.2.2.2.1
  have hts := cx.2.2.2.2.1
  have hl : lv_has ls 3 [(0, .ref (gg_o g 0))] := hl
  replace hf := h_top hf
  unfold f_X6_tellMirror at hf
  refine lv_bipush (v := 8) hx hb dX6_tellMirror_0 (by decide) ?_
  refine lv_aload_n hx hb dX6_tellMirror_2 rfl (lv_at hl 0 rfl) ?_
  refine gf_X6_260 cx hw hM dX6_tellMirror_3 ?_
  refine lv_imul hx hb dX6_tellMirror_6 ?_
  refine lv_aload_n hx hb dX6_tellMirror_7 rfl (lv_at hl 0 rfl) ?_
  refine gf_X6_70 cx hw hM dX6_tellMirror_8 ?_
  refine lv_aload_n hx hb dX6_tellMirror_11 rfl (lv_at hl 0 rfl) ?_
  refine gf_X6_260 cx hw hM dX6_tellMirror_12 ?_
  refine r_iald cx hw (hM.2.2.1 31 rfl) rfl rfl hf dX6_tellMirror_15 (fun hf => ?_)
  refine lv_iadd hx hb dX6_tellMirror_16 ?_
  refine r_leti hf (fun u1 hf => ?_)
  refine lv_istore_n hx hb dX6_tellMirror_17 rfl hl (by decide) (lv' := [(1, .int u1), (0, .ref (gg_o g 0))]) rfl (fun ls hl => ?_)
  refine lv_aload_n hx hb dX6_tellMirror_18 rfl (lv_at hl 1 rfl) ?_
  refine r_V_w (As := []) (rest := []) cx hw hf hM.2.1 (by rw [hM.1]; rfl) lk_X6_285 (fun q2 hq => k_X6_named l g hg  hM S  q2 hq) ⟨⟨rfl, rfl⟩, Nat.le_of_ble_eq_true rfl, Nat.le_of_ble_eq_true rfl⟩ rfl hl.1 rfl (Nat.le_of_ble_eq_true rfl) dX6_tellMirror_19 ⟨Nat.zero_le _, Nat.zero_le _⟩ (fun q2 H locs hw hf => ?_)
  refine lv_istore_n hx hb dX6_tellMirror_22 rfl hl (by decide) (lv' := [(2, .int q2.1), (1, .int u1), (0, .ref (gg_o g 0))]) rfl (fun ls hl => ?_)
  refine lv_aload_n hx hb dX6_tellMirror_23 rfl (lv_at hl 2 rfl) ?_
  refine gf_X6_73 cx hw hM dX6_tellMirror_24 ?_
  refine lv_iload_n hx hb dX6_tellMirror_27 rfl (lv_at hl 1 rfl) ?_
  refine lv_aload_n hx hb dX6_tellMirror_28 rfl (lv_at hl 2 rfl) ?_
  refine lv_iconst (v := 0) hx hb dX6_tellMirror_29 (by decide) ?_
  refine r_V_w (As := [.int (0 : Int32)]) (rest := [.int u1, .ref (gg_a g (ky 0 32))]) cx hw hf hM.2.1 (by rw [hM.1]; rfl) lk_X6_302 (fun q3 hq => k_X6_known l g hg  hM q2.2 (0 : Int32) q3 hq) ⟨⟨rfl, rfl⟩, Nat.le_of_ble_eq_true rfl, Nat.le_of_ble_eq_true rfl⟩ rfl hl.1 rfl (Nat.le_of_ble_eq_true rfl) dX6_tellMirror_30 ⟨Nat.zero_le _, Nat.zero_le _⟩ (fun q3 H locs hw hf => ?_)
  refine r_iast cx hw (hM.2.2.1 32 rfl) rfl rfl hf dX6_tellMirror_33 (fun S4 H locs hw hf => ?_)
  refine lv_aload_n hx hb dX6_tellMirror_34 rfl (lv_at hl 2 rfl) ?_
  refine gf_X6_76 cx hw hM dX6_tellMirror_35 ?_
  refine lv_iload_n hx hb dX6_tellMirror_38 rfl (lv_at hl 1 rfl) ?_
  refine lv_aload_n hx hb dX6_tellMirror_39 rfl (lv_at hl 2 rfl) ?_
  refine lv_iconst (v := 1) hx hb dX6_tellMirror_40 (by decide) ?_
  refine r_V_w (As := [.int (1 : Int32)]) (rest := [.int u1, .ref (gg_a g (ky 0 33))]) cx hw hf hM.2.1 (by rw [hM.1]; rfl) lk_X6_302 (fun q5 hq => k_X6_known l g hg  hM S4 (1 : Int32) q5 hq) ⟨⟨rfl, rfl⟩, Nat.le_of_ble_eq_true rfl, Nat.le_of_ble_eq_true rfl⟩ rfl hl.1 rfl (Nat.le_of_ble_eq_true rfl) dX6_tellMirror_41 ⟨Nat.zero_le _, Nat.zero_le _⟩ (fun q5 H locs hw hf => ?_)
  refine r_iast cx hw (hM.2.2.1 33 rfl) rfl rfl hf dX6_tellMirror_44 (fun S6 H locs hw hf => ?_)
  refine lv_aload_n hx hb dX6_tellMirror_45 rfl (lv_at hl 2 rfl) ?_
  refine lv_iconst (v := 4) hx hb dX6_tellMirror_46 (by decide) ?_
  refine r_V_v (As := [.int (4 : Int32)]) (rest := []) cx hw hf hM.2.1 (by rw [hM.1]; rfl) lk_X6_289 (fun q7 hq => k_X6_must l g hg  hM S6 (4 : Int32) q7 hq) ⟨⟨rfl, rfl⟩, Nat.le_of_ble_eq_true rfl, Nat.le_of_ble_eq_true rfl⟩ rfl hl.1 rfl (Nat.le_of_ble_eq_true rfl) dX6_tellMirror_47 ⟨Nat.zero_le _, Nat.zero_le _⟩ (fun q7 H locs hw hf => ?_)
  refine lv_aload_n hx hb dX6_tellMirror_50 rfl (lv_at hl 2 rfl) ?_
  refine gf_X6_227 cx hw hM dX6_tellMirror_51 ?_
  refine lv_if_le hx hb dX6_tellMirror_54 (tgt := 58) rfl (fun hc8 => ?_) (fun hc8 => ?_)
  · replace hf := h_pos hc8 hf
    refine lv_aload_n hx hb dX6_tellMirror_58 rfl (lv_at hl 2 rfl) ?_
    refine lv_iload_n hx hb dX6_tellMirror_59 rfl (lv_at hl 0 rfl) ?_
    refine lv_iconst (v := 2) hx hb dX6_tellMirror_60 (by decide) ?_
    refine lv_aload_n hx hb dX6_tellMirror_61 rfl (lv_at hl 2 rfl) ?_
    refine gf_X6_70 cx hw hM dX6_tellMirror_62 ?_
    refine lv_aload_n hx hb dX6_tellMirror_65 rfl (lv_at hl 2 rfl) ?_
    refine gf_X6_260 cx hw hM dX6_tellMirror_66 ?_
    refine r_iald cx hw (hM.2.2.1 31 rfl) rfl rfl hf dX6_tellMirror_69 (fun hf => ?_)
    refine r_V_v (As := [.int q2.1, .int (2 : Int32), .int (st_A q7 (ky 0 31) (st_I q7 (ky 0 19)).toNatClampNeg)]) (rest := []) cx hw hf hM.2.1 (by rw [hM.1]; rfl) lk_X6_292 (fun q9 hq => k_X6_notes l g hg  hM q7 q2.1 (2 : Int32) (st_A q7 (ky 0 31) (st_I q7 (ky 0 19)).toNatClampNeg) q9 hq) ⟨⟨rfl, rfl⟩, Nat.le_of_ble_eq_true rfl, Nat.le_of_ble_eq_true rfl⟩ rfl hl.1 rfl (Nat.le_of_ble_eq_true rfl) dX6_tellMirror_70 ⟨Nat.zero_le _, Nat.zero_le _⟩ (fun q9 H locs hw hf => ?_)
    refine lv_aload_n hx hb dX6_tellMirror_73 rfl (lv_at hl 2 rfl) ?_
    refine gf_X6_70 cx hw hM dX6_tellMirror_74 ?_
    refine lv_aload_n hx hb dX6_tellMirror_77 rfl (lv_at hl 2 rfl) ?_
    refine gf_X6_260 cx hw hM dX6_tellMirror_78 ?_
    refine lv_dup2_11 hx hb dX6_tellMirror_81 rfl rfl ?_
    refine r_iald cx hw (hM.2.2.1 31 rfl) rfl rfl hf dX6_tellMirror_82 (fun hf => ?_)
    refine lv_iconst (v := 1) hx hb dX6_tellMirror_83 (by decide) ?_
    refine lv_iadd hx hb dX6_tellMirror_84 ?_
    refine r_iast cx hw (hM.2.2.1 31 rfl) rfl rfl hf dX6_tellMirror_85 (fun S10 H locs hw hf => ?_)
    exact r_vret cx hw hr hlk hf dX6_tellMirror_86
  replace hf := h_neg hc8 hf
  exact r_vret cx hw hr hlk hf dX6_tellMirror_57
theorem dX6_tellOne_0 : decode cX6_tellOne 0 = .ok (.aload_n 0, 1) := by decide +kernel
theorem dX6_tellOne_1 : decode cX6_tellOne 1 = .ok (.getfield 20, 3) := by decide +kernel
theorem dX6_tellOne_4 : decode cX6_tellOne 4 = .ok (.aload_n 0, 1) := by decide +kernel
theorem dX6_tellOne_5 : decode cX6_tellOne 5 = .ok (.getfield 230, 3) := by decide +kernel
theorem dX6_tellOne_8 : decode cX6_tellOne 8 = .ok (.iaload, 1) := by decide +kernel
theorem dX6_tellOne_9 : decode cX6_tellOne 9 = .ok (.tableswitch 292 20 27 #[47, 119, 148, 177, 193, 222, 235, 263], 47) := by decide +kernel
theorem dX6_tellOne_56 : decode cX6_tellOne 56 = .ok (.aload_n 0, 1) := by decide +kernel
theorem dX6_tellOne_57 : decode cX6_tellOne 57 = .ok (.aload_n 0, 1) := by decide +kernel
theorem dX6_tellOne_58 : decode cX6_tellOne 58 = .ok (.getfield 49, 3) := by decide +kernel
theorem dX6_tellOne_61 : decode cX6_tellOne 61 = .ok (.aload_n 0, 1) := by decide +kernel
theorem dX6_tellOne_62 : decode cX6_tellOne 62 = .ok (.getfield 260, 3) := by decide +kernel
theorem dX6_tellOne_65 : decode cX6_tellOne 65 = .ok (.iaload, 1) := by decide +kernel
theorem dX6_tellOne_66 : decode cX6_tellOne 66 = .ok (.bipush 8, 2) := by decide +kernel
theorem dX6_tellOne_68 : decode cX6_tellOne 68 = .ok (.invokevirtual 281, 3) := by decide +kernel
theorem dX6_tellOne_71 : decode cX6_tellOne 71 = .ok (.aload_n 0, 1) := by decide +kernel
theorem dX6_tellOne_72 : decode cX6_tellOne 72 = .ok (.getfield 227, 3) := by decide +kernel
theorem dX6_tellOne_75 : decode cX6_tellOne 75 = .ok (.ifCond .le 4, 3) := by decide +kernel
theorem dX6_tellOne_78 : decode cX6_tellOne 78 = .ok (.return_, 1) := by decide +kernel
theorem dX6_tellOne_79 : decode cX6_tellOne 79 = .ok (.aload_n 0, 1) := by decide +kernel
theorem dX6_tellOne_80 : decode cX6_tellOne 80 = .ok (.invokevirtual 285, 3) := by decide +kernel
theorem dX6_tellOne_83 : decode cX6_tellOne 83 = .ok (.istore_n 1, 1) := by decide +kernel
theorem dX6_tellOne_84 : decode cX6_tellOne 84 = .ok (.aload_n 0, 1) := by decide +kernel
theorem dX6_tellOne_85 : decode cX6_tellOne 85 = .ok (.iconst 4, 1) := by decide +kernel
theorem dX6_tellOne_86 : decode cX6_tellOne 86 = .ok (.invokevirtual 289, 3) := by decide +kernel
theorem dX6_tellOne_89 : decode cX6_tellOne 89 = .ok (.aload_n 0, 1) := by decide +kernel
theorem dX6_tellOne_90 : decode cX6_tellOne 90 = .ok (.getfield 227, 3) := by decide +kernel
theorem dX6_tellOne_93 : decode cX6_tellOne 93 = .ok (.ifCond .le 4, 3) := by decide +kernel
theorem dX6_tellOne_96 : decode cX6_tellOne 96 = .ok (.return_, 1) := by decide +kernel
theorem dX6_tellOne_97 : decode cX6_tellOne 97 = .ok (.aload_n 0, 1) := by decide +kernel
theorem dX6_tellOne_98 : decode cX6_tellOne 98 = .ok (.iload_n 1, 1) := by decide +kernel
theorem dX6_tellOne_99 : decode cX6_tellOne 99 = .ok (.iconst 0, 1) := by decide +kernel
theorem dX6_tellOne_100 : decode cX6_tellOne 100 = .ok (.aload_n 0, 1) := by decide +kernel
theorem dX6_tellOne_101 : decode cX6_tellOne 101 = .ok (.getfield 49, 3) := by decide +kernel
theorem dX6_tellOne_104 : decode cX6_tellOne 104 = .ok (.aload_n 0, 1) := by decide +kernel
theorem dX6_tellOne_105 : decode cX6_tellOne 105 = .ok (.getfield 260, 3) := by decide +kernel
theorem dX6_tellOne_108 : decode cX6_tellOne 108 = .ok (.iaload, 1) := by decide +kernel
theorem dX6_tellOne_109 : decode cX6_tellOne 109 = .ok (.invokevirtual 292, 3) := by decide +kernel
theorem dX6_tellOne_112 : decode cX6_tellOne 112 = .ok (.aload_n 0, 1) := by decide +kernel
theorem dX6_tellOne_113 : decode cX6_tellOne 113 = .ok (.getfield 49, 3) := by decide +kernel
theorem dX6_tellOne_116 : decode cX6_tellOne 116 = .ok (.aload_n 0, 1) := by decide +kernel
theorem dX6_tellOne_117 : decode cX6_tellOne 117 = .ok (.getfield 260, 3) := by decide +kernel
theorem dX6_tellOne_120 : decode cX6_tellOne 120 = .ok (.dup2, 1) := by decide +kernel
theorem dX6_tellOne_121 : decode cX6_tellOne 121 = .ok (.iaload, 1) := by decide +kernel
theorem dX6_tellOne_122 : decode cX6_tellOne 122 = .ok (.iconst 1, 1) := by decide +kernel
theorem dX6_tellOne_123 : decode cX6_tellOne 123 = .ok (.iadd, 1) := by decide +kernel
theorem dX6_tellOne_124 : decode cX6_tellOne 124 = .ok (.iastore, 1) := by decide +kernel
theorem dX6_tellOne_125 : decode cX6_tellOne 125 = .ok (.goto 181, 3) := by decide +kernel
theorem dX6_tellOne_128 : decode cX6_tellOne 128 = .ok (.aload_n 0, 1) := by decide +kernel
theorem dX6_tellOne_129 : decode cX6_tellOne 129 = .ok (.aload_n 0, 1) := by decide +kernel
theorem dX6_tellOne_130 : decode cX6_tellOne 130 = .ok (.getfield 52, 3) := by decide +kernel
theorem dX6_tellOne_133 : decode cX6_tellOne 133 = .ok (.aload_n 0, 1) := by decide +kernel
theorem dX6_tellOne_134 : decode cX6_tellOne 134 = .ok (.getfield 260, 3) := by decide +kernel
theorem dX6_tellOne_137 : decode cX6_tellOne 137 = .ok (.iaload, 1) := by decide +kernel
theorem dX6_tellOne_138 : decode cX6_tellOne 138 = .ok (.bipush 12, 2) := by decide +kernel
theorem dX6_tellOne_140 : decode cX6_tellOne 140 = .ok (.invokevirtual 281, 3) := by decide +kernel
theorem dX6_tellOne_143 : decode cX6_tellOne 143 = .ok (.aload_n 0, 1) := by decide +kernel
theorem dX6_tellOne_144 : decode cX6_tellOne 144 = .ok (.getfield 227, 3) := by decide +kernel
theorem dX6_tellOne_147 : decode cX6_tellOne 147 = .ok (.ifCond .ne 159, 3) := by decide +kernel
theorem dX6_tellOne_150 : decode cX6_tellOne 150 = .ok (.aload_n 0, 1) := by decide +kernel
theorem dX6_tellOne_151 : decode cX6_tellOne 151 = .ok (.invokevirtual 296, 3) := by decide +kernel
theorem dX6_tellOne_154 : decode cX6_tellOne 154 = .ok (.goto 152, 3) := by decide +kernel
theorem dX6_tellOne_157 : decode cX6_tellOne 157 = .ok (.aload_n 0, 1) := by decide +kernel
theorem dX6_tellOne_158 : decode cX6_tellOne 158 = .ok (.aload_n 0, 1) := by decide +kernel
theorem dX6_tellOne_159 : decode cX6_tellOne 159 = .ok (.getfield 61, 3) := by decide +kernel
theorem dX6_tellOne_162 : decode cX6_tellOne 162 = .ok (.aload_n 0, 1) := by decide +kernel
theorem dX6_tellOne_163 : decode cX6_tellOne 163 = .ok (.getfield 260, 3) := by decide +kernel
theorem dX6_tellOne_166 : decode cX6_tellOne 166 = .ok (.iaload, 1) := by decide +kernel
theorem dX6_tellOne_167 : decode cX6_tellOne 167 = .ok (.bipush 6, 2) := by decide +kernel
theorem dX6_tellOne_169 : decode cX6_tellOne 169 = .ok (.invokevirtual 281, 3) := by decide +kernel
theorem dX6_tellOne_172 : decode cX6_tellOne 172 = .ok (.aload_n 0, 1) := by decide +kernel
theorem dX6_tellOne_173 : decode cX6_tellOne 173 = .ok (.getfield 227, 3) := by decide +kernel
theorem dX6_tellOne_176 : decode cX6_tellOne 176 = .ok (.ifCond .ne 130, 3) := by decide +kernel
theorem dX6_tellOne_179 : decode cX6_tellOne 179 = .ok (.aload_n 0, 1) := by decide +kernel
theorem dX6_tellOne_180 : decode cX6_tellOne 180 = .ok (.invokevirtual 299, 3) := by decide +kernel
theorem dX6_tellOne_183 : decode cX6_tellOne 183 = .ok (.goto 123, 3) := by decide +kernel
theorem dX6_tellOne_186 : decode cX6_tellOne 186 = .ok (.aload_n 0, 1) := by decide +kernel
theorem dX6_tellOne_187 : decode cX6_tellOne 187 = .ok (.invokevirtual 248, 3) := by decide +kernel
theorem dX6_tellOne_190 : decode cX6_tellOne 190 = .ok (.aload_n 0, 1) := by decide +kernel
theorem dX6_tellOne_191 : decode cX6_tellOne 191 = .ok (.aload_n 0, 1) := by decide +kernel
theorem dX6_tellOne_192 : decode cX6_tellOne 192 = .ok (.iconst 1, 1) := by decide +kernel
theorem dX6_tellOne_193 : decode cX6_tellOne 193 = .ok (.invokevirtual 302, 3) := by decide +kernel
theorem dX6_tellOne_196 : decode cX6_tellOne 196 = .ok (.invokevirtual 305, 3) := by decide +kernel
theorem dX6_tellOne_199 : decode cX6_tellOne 199 = .ok (.goto 107, 3) := by decide +kernel
theorem dX6_tellOne_202 : decode cX6_tellOne 202 = .ok (.aload_n 0, 1) := by decide +kernel
theorem dX6_tellOne_203 : decode cX6_tellOne 203 = .ok (.aload_n 0, 1) := by decide +kernel
theorem dX6_tellOne_204 : decode cX6_tellOne 204 = .ok (.getfield 70, 3) := by decide +kernel
theorem dX6_tellOne_207 : decode cX6_tellOne 207 = .ok (.aload_n 0, 1) := by decide +kernel
theorem dX6_tellOne_208 : decode cX6_tellOne 208 = .ok (.getfield 260, 3) := by decide +kernel
theorem dX6_tellOne_211 : decode cX6_tellOne 211 = .ok (.iaload, 1) := by decide +kernel
theorem dX6_tellOne_212 : decode cX6_tellOne 212 = .ok (.bipush 8, 2) := by decide +kernel
theorem dX6_tellOne_214 : decode cX6_tellOne 214 = .ok (.invokevirtual 281, 3) := by decide +kernel
theorem dX6_tellOne_217 : decode cX6_tellOne 217 = .ok (.aload_n 0, 1) := by decide +kernel
theorem dX6_tellOne_218 : decode cX6_tellOne 218 = .ok (.getfield 227, 3) := by decide +kernel
theorem dX6_tellOne_221 : decode cX6_tellOne 221 = .ok (.ifCond .ne 85, 3) := by decide +kernel
theorem dX6_tellOne_224 : decode cX6_tellOne 224 = .ok (.aload_n 0, 1) := by decide +kernel
theorem dX6_tellOne_225 : decode cX6_tellOne 225 = .ok (.invokevirtual 308, 3) := by decide +kernel
theorem dX6_tellOne_228 : decode cX6_tellOne 228 = .ok (.goto 78, 3) := by decide +kernel
theorem dX6_tellOne_231 : decode cX6_tellOne 231 = .ok (.aload_n 0, 1) := by decide +kernel
theorem dX6_tellOne_232 : decode cX6_tellOne 232 = .ok (.invokevirtual 248, 3) := by decide +kernel
theorem dX6_tellOne_235 : decode cX6_tellOne 235 = .ok (.aload_n 0, 1) := by decide +kernel
theorem dX6_tellOne_236 : decode cX6_tellOne 236 = .ok (.bipush 6, 2) := by decide +kernel
theorem dX6_tellOne_238 : decode cX6_tellOne 238 = .ok (.invokevirtual 305, 3) := by decide +kernel
theorem dX6_tellOne_241 : decode cX6_tellOne 241 = .ok (.goto 65, 3) := by decide +kernel
theorem dX6_tellOne_244 : decode cX6_tellOne 244 = .ok (.aload_n 0, 1) := by decide +kernel
theorem dX6_tellOne_245 : decode cX6_tellOne 245 = .ok (.invokevirtual 248, 3) := by decide +kernel
theorem dX6_tellOne_248 : decode cX6_tellOne 248 = .ok (.aload_n 0, 1) := by decide +kernel
theorem dX6_tellOne_249 : decode cX6_tellOne 249 = .ok (.getfield 79, 3) := by decide +kernel
theorem dX6_tellOne_252 : decode cX6_tellOne 252 = .ok (.aload_n 0, 1) := by decide +kernel
theorem dX6_tellOne_253 : decode cX6_tellOne 253 = .ok (.getfield 260, 3) := by decide +kernel
theorem dX6_tellOne_256 : decode cX6_tellOne 256 = .ok (.aload_n 0, 1) := by decide +kernel
theorem dX6_tellOne_257 : decode cX6_tellOne 257 = .ok (.iconst 0, 1) := by decide +kernel
theorem dX6_tellOne_258 : decode cX6_tellOne 258 = .ok (.bipush 100, 2) := by decide +kernel
theorem dX6_tellOne_260 : decode cX6_tellOne 260 = .ok (.invokevirtual 311, 3) := by decide +kernel
theorem dX6_tellOne_263 : decode cX6_tellOne 263 = .ok (.iastore, 1) := by decide +kernel
theorem dX6_tellOne_264 : decode cX6_tellOne 264 = .ok (.aload_n 0, 1) := by decide +kernel
theorem dX6_tellOne_265 : decode cX6_tellOne 265 = .ok (.iconst 4, 1) := by decide +kernel
theorem dX6_tellOne_266 : decode cX6_tellOne 266 = .ok (.invokevirtual 289, 3) := by decide +kernel
theorem dX6_tellOne_269 : decode cX6_tellOne 269 = .ok (.goto 37, 3) := by decide +kernel
theorem dX6_tellOne_272 : decode cX6_tellOne 272 = .ok (.aload_n 0, 1) := by decide +kernel
theorem dX6_tellOne_273 : decode cX6_tellOne 273 = .ok (.invokevirtual 248, 3) := by decide +kernel
theorem dX6_tellOne_276 : decode cX6_tellOne 276 = .ok (.aload_n 0, 1) := by decide +kernel
theorem dX6_tellOne_277 : decode cX6_tellOne 277 = .ok (.getfield 82, 3) := by decide +kernel
theorem dX6_tellOne_280 : decode cX6_tellOne 280 = .ok (.aload_n 0, 1) := by decide +kernel
theorem dX6_tellOne_281 : decode cX6_tellOne 281 = .ok (.getfield 260, 3) := by decide +kernel
theorem dX6_tellOne_284 : decode cX6_tellOne 284 = .ok (.aload_n 0, 1) := by decide +kernel
theorem dX6_tellOne_285 : decode cX6_tellOne 285 = .ok (.iconst 0, 1) := by decide +kernel
theorem dX6_tellOne_286 : decode cX6_tellOne 286 = .ok (.sipush 9999, 3) := by decide +kernel
theorem dX6_tellOne_289 : decode cX6_tellOne 289 = .ok (.invokevirtual 311, 3) := by decide +kernel
theorem dX6_tellOne_292 : decode cX6_tellOne 292 = .ok (.iastore, 1) := by decide +kernel
theorem dX6_tellOne_293 : decode cX6_tellOne 293 = .ok (.aload_n 0, 1) := by decide +kernel
theorem dX6_tellOne_294 : decode cX6_tellOne 294 = .ok (.iconst 4, 1) := by decide +kernel
theorem dX6_tellOne_295 : decode cX6_tellOne 295 = .ok (.invokevirtual 289, 3) := by decide +kernel
theorem dX6_tellOne_298 : decode cX6_tellOne 298 = .ok (.goto 8, 3) := by decide +kernel
theorem dX6_tellOne_301 : decode cX6_tellOne 301 = .ok (.aload_n 0, 1) := by decide +kernel
theorem dX6_tellOne_302 : decode cX6_tellOne 302 = .ok (.iconst 1, 1) := by decide +kernel
theorem dX6_tellOne_303 : decode cX6_tellOne 303 = .ok (.invokevirtual 242, 3) := by decide +kernel
theorem dX6_tellOne_306 : decode cX6_tellOne 306 = .ok (.return_, 1) := by decide +kernel
abbrev rm_X6_tellOne : Room := { frames := 6, cells := 0, slots := 0, locals := 126 }
def f_X6_tellOne (S : St)  : Option (St) :=
  chk (ib (st_I S (ky 0 11)) 403) (lt_v (st_A S (ky 0 5) (st_I S (ky 0 11)).toNatClampNeg) (fun (u1 : Int32) => if u1 = 20 then (chk (ib (st_I S (ky 0 19)) 2) ((f_X6_roomFor  S (st_A S (ky 0 24) (st_I S (ky 0 19)).toNatClampNeg) (8 : Int32)).bind (fun (q3 : St) => if (st_I q3 (ky 0 13)) ≤ 0 then ((f_X6_named  q3 ).bind (fun (q5 : Int32 × St) => (f_X6_must  q5.2 (4 : Int32)).bind (fun (q6 : St) => if (st_I q6 (ky 0 13)) ≤ 0 then (chk (ib (st_I q6 (ky 0 19)) 2) ((f_X6_notes  q6 q5.1 (0 : Int32) (st_A q6 (ky 0 24) (st_I q6 (ky 0 19)).toNatClampNeg)).bind (fun (q8 : St) => chk (ib (st_I q8 (ky 0 19)) 2) (chk (ib (st_I q8 (ky 0 19)) 2) (lt_v (up_A q8 (ky 0 24) (upd (st_A q8 (ky 0 24)) (st_I q8 (ky 0 19)).toNatClampNeg ((st_A q8 (ky 0 24) (st_I q8 (ky 0 19)).toNatClampNeg) + (1 : Int32)))) (fun (S9 : St) => some S9)))))) else (some q6)))) else (some q3)))) else (if u1 = 21 then (chk (ib (st_I S (ky 0 19)) 2) ((f_X6_roomFor  S (st_A S (ky 0 25) (st_I S (ky 0 19)).toNatClampNeg) (12 : Int32)).bind (fun (q10 : St) => if (st_I q10 (ky 0 13)) = 0 then ((f_X6_tellDoor  q10 ).bind (fun (q12 : St) => some q12)) else (some q10)))) else (if u1 = 22 then (chk (ib (st_I S (ky 0 19)) 2) ((f_X6_roomFor  S (st_A S (ky 0 28) (st_I S (ky 0 19)).toNatClampNeg) (6 : Int32)).bind (fun (q13 : St) => if (st_I q13 (ky 0 13)) = 0 then ((f_X6_tellMan  q13 ).bind (fun (q15 : St) => some q15)) else (some q13)))) else (if u1 = 23 then ((f_X6_goesOn  S ).bind (fun (q16 : St) => (f_X6_known  q16 (1 : Int32)).bind (fun (q17 : Int32 × St) => (f_X6_tellLaw  q17.2 q17.1).bind (fun (q18 : St) => some q18)))) else (if u1 = 24 then (chk (ib (st_I S (ky 0 19)) 2) ((f_X6_roomFor  S (st_A S (ky 0 31) (st_I S (ky 0 19)).toNatClampNeg) (8 : Int32)).bind (fun (q19 : St) => if (st_I q19 (ky 0 13)) = 0 then ((f_X6_tellMirror  q19 ).bind (fun (q21 : St) => some q21)) else (some q19)))) else (if u1 = 25 then ((f_X6_goesOn  S ).bind (fun (q22 : St) => (f_X6_tellLaw  q22 (6 : Int32)).bind (fun (q23 : St) => some q23))) else (if u1 = 26 then ((f_X6_goesOn  S ).bind (fun (q24 : St) => (f_X6_bounded  q24 (0 : Int32) (100 : Int32)).bind (fun (q25 : Int32 × St) => chk (ib (st_I q24 (ky 0 19)) 2) (lt_v (up_A q25.2 (ky 0 34) (upd (st_A q25.2 (ky 0 34)) (st_I q24 (ky 0 19)).toNatClampNeg q25.1)) (fun (S26 : St) => (f_X6_must  S26 (4 : Int32)).bind (fun (q27 : St) => some q27)))))) else (if u1 = 27 then ((f_X6_goesOn  S ).bind (fun (q28 : St) => (f_X6_bounded  q28 (0 : Int32) (9999 : Int32)).bind (fun (q29 : Int32 × St) => chk (ib (st_I q28 (ky 0 19)) 2) (lt_v (up_A q29.2 (ky 0 35) (upd (st_A q29.2 (ky 0 35)) (st_I q28 (ky 0 19)).toNatClampNeg q29.1)) (fun (S30 : St) => (f_X6_must  S30 (4 : Int32)).bind (fun (q31 : St) => some q31)))))) else ((f_X6_fail  S (1 : Int32)).bind (fun (q32 : St) => some q32)))))))))))
set_option maxRecDepth 100000 in
set_option maxHeartbeats 4000000 in
theorem k_X6_tellOne (l : Launch) (g : GG) (hg : gd wd_M g)  (hM : hs wd_M g 0 6) (S : St)  (q : St) (hf : f_X6_tellOne  S  = some q) : Met l yX6_tellOne (Cond.code yX6_tellOne cX6_tellOne 2 none :: gw_tbl) rm_X6_tellOne (va_Pc [.ref (gg_o g 0)] (wI wd_M g S)) (qc_v wd_M g q) 0 0 (aw g) := by
  refine mt_start (own := RX6) hg (by decide) rfl (Nat.le_of_ble_eq_true rfl) (fun p e s m args below meth c ls H locs cx hw hr hlk hl => ?_)
  have hx := cx.1
  have hb := cx.2.1
  have hown := cx.2.2.2.1
  have hts := cx.2.2.2.2.1
  have hl : lv_has ls 2 [(0, .ref (gg_o g 0))] := hl
  replace hf := h_top hf
  unfold f_X6_tellOne at hf
  refine lv_aload_n hx hb dX6_tellOne_0 rfl (lv_at hl 0 rfl) ?_
  refine gf_X6_20 cx hw hM dX6_tellOne_1 ?_
  refine lv_aload_n hx hb dX6_tellOne_4 rfl (lv_at hl 0 rfl) ?_
  refine gf_X6_230 cx hw hM dX6_tellOne_5 ?_
  refine r_iald cx hw (hM.2.2.1 5 rfl) rfl rfl hf dX6_tellOne_8 (fun hf => ?_)
  refine r_leti hf (fun u1 hf => ?_)
  by_cases hc2_20 : u1 = 20
  · replace hf := h_pos hc2_20 hf
    refine lv_tableIn hx hb dX6_tellOne_9 (by rw [hc2_20]; decide) (by rw [hc2_20]; decide) (off := 47) (by rw [hc2_20]; rfl) (tgt := 56) rfl ?_
    refine lv_aload_n hx hb dX6_tellOne_56 rfl (lv_at hl 0 rfl) ?_
    refine lv_aload_n hx hb dX6_tellOne_57 rfl (lv_at hl 0 rfl) ?_
    refine gf_X6_49 cx hw hM dX6_tellOne_58 ?_
    refine lv_aload_n hx hb dX6_tellOne_61 rfl (lv_at hl 0 rfl) ?_
    refine gf_X6_260 cx hw hM dX6_tellOne_62 ?_
    refine r_iald cx hw (hM.2.2.1 24 rfl) rfl rfl hf dX6_tellOne_65 (fun hf => ?_)
    refine lv_bipush (v := 8) hx hb dX6_tellOne_66 (by decide) ?_
    refine r_V_v (As := [.int (st_A S (ky 0 24) (st_I S (ky 0 19)).toNatClampNeg), .int (8 : Int32)]) (rest := []) cx hw hf hM.2.1 (by rw [hM.1]; rfl) lk_X6_281 (fun q3 hq => k_X6_roomFor l g hg  hM S (st_A S (ky 0 24) (st_I S (ky 0 19)).toNatClampNeg) (8 : Int32) q3 hq) ⟨⟨rfl, rfl⟩, Nat.le_of_ble_eq_true rfl, Nat.le_of_ble_eq_true rfl⟩ rfl hl.1 rfl (Nat.le_of_ble_eq_true rfl) dX6_tellOne_68 ⟨Nat.zero_le _, Nat.zero_le _⟩ (fun q3 H locs hw hf => ?_)
    refine lv_aload_n hx hb dX6_tellOne_71 rfl (lv_at hl 0 rfl) ?_
    refine gf_X6_227 cx hw hM dX6_tellOne_72 ?_
    refine lv_if_le hx hb dX6_tellOne_75 (tgt := 79) rfl (fun hc4 => ?_) (fun hc4 => ?_)
    · replace hf := h_pos hc4 hf
      refine lv_aload_n hx hb dX6_tellOne_79 rfl (lv_at hl 0 rfl) ?_
      refine r_V_w (As := []) (rest := []) cx hw hf hM.2.1 (by rw [hM.1]; rfl) lk_X6_285 (fun q5 hq => k_X6_named l g hg  hM q3  q5 hq) ⟨⟨rfl, rfl⟩, Nat.le_of_ble_eq_true rfl, Nat.le_of_ble_eq_true rfl⟩ rfl hl.1 rfl (Nat.le_of_ble_eq_true rfl) dX6_tellOne_80 ⟨Nat.zero_le _, Nat.zero_le _⟩ (fun q5 H locs hw hf => ?_)
      refine lv_istore_n hx hb dX6_tellOne_83 rfl hl (by decide) (lv' := [(1, .int q5.1), (0, .ref (gg_o g 0))]) rfl (fun ls hl => ?_)
      refine lv_aload_n hx hb dX6_tellOne_84 rfl (lv_at hl 1 rfl) ?_
      refine lv_iconst (v := 4) hx hb dX6_tellOne_85 (by decide) ?_
      refine r_V_v (As := [.int (4 : Int32)]) (rest := []) cx hw hf hM.2.1 (by rw [hM.1]; rfl) lk_X6_289 (fun q6 hq => k_X6_must l g hg  hM q5.2 (4 : Int32) q6 hq) ⟨⟨rfl, rfl⟩, Nat.le_of_ble_eq_true rfl, Nat.le_of_ble_eq_true rfl⟩ rfl hl.1 rfl (Nat.le_of_ble_eq_true rfl) dX6_tellOne_86 ⟨Nat.zero_le _, Nat.zero_le _⟩ (fun q6 H locs hw hf => ?_)
      refine lv_aload_n hx hb dX6_tellOne_89 rfl (lv_at hl 1 rfl) ?_
      refine gf_X6_227 cx hw hM dX6_tellOne_90 ?_
      refine lv_if_le hx hb dX6_tellOne_93 (tgt := 97) rfl (fun hc7 => ?_) (fun hc7 => ?_)
      · replace hf := h_pos hc7 hf
        refine lv_aload_n hx hb dX6_tellOne_97 rfl (lv_at hl 1 rfl) ?_
        refine lv_iload_n hx hb dX6_tellOne_98 rfl (lv_at hl 0 rfl) ?_
        refine lv_iconst (v := 0) hx hb dX6_tellOne_99 (by decide) ?_
        refine lv_aload_n hx hb dX6_tellOne_100 rfl (lv_at hl 1 rfl) ?_
        refine gf_X6_49 cx hw hM dX6_tellOne_101 ?_
        refine lv_aload_n hx hb dX6_tellOne_104 rfl (lv_at hl 1 rfl) ?_
        refine gf_X6_260 cx hw hM dX6_tellOne_105 ?_
        refine r_iald cx hw (hM.2.2.1 24 rfl) rfl rfl hf dX6_tellOne_108 (fun hf => ?_)
        refine r_V_v (As := [.int q5.1, .int (0 : Int32), .int (st_A q6 (ky 0 24) (st_I q6 (ky 0 19)).toNatClampNeg)]) (rest := []) cx hw hf hM.2.1 (by rw [hM.1]; rfl) lk_X6_292 (fun q8 hq => k_X6_notes l g hg  hM q6 q5.1 (0 : Int32) (st_A q6 (ky 0 24) (st_I q6 (ky 0 19)).toNatClampNeg) q8 hq) ⟨⟨rfl, rfl⟩, Nat.le_of_ble_eq_true rfl, Nat.le_of_ble_eq_true rfl⟩ rfl hl.1 rfl (Nat.le_of_ble_eq_true rfl) dX6_tellOne_109 ⟨Nat.zero_le _, Nat.zero_le _⟩ (fun q8 H locs hw hf => ?_)
        refine lv_aload_n hx hb dX6_tellOne_112 rfl (lv_at hl 1 rfl) ?_
        refine gf_X6_49 cx hw hM dX6_tellOne_113 ?_
        refine lv_aload_n hx hb dX6_tellOne_116 rfl (lv_at hl 1 rfl) ?_
        refine gf_X6_260 cx hw hM dX6_tellOne_117 ?_
        refine lv_dup2_11 hx hb dX6_tellOne_120 rfl rfl ?_
        refine r_iald cx hw (hM.2.2.1 24 rfl) rfl rfl hf dX6_tellOne_121 (fun hf => ?_)
        refine lv_iconst (v := 1) hx hb dX6_tellOne_122 (by decide) ?_
        refine lv_iadd hx hb dX6_tellOne_123 ?_
        refine r_iast cx hw (hM.2.2.1 24 rfl) rfl rfl hf dX6_tellOne_124 (fun S9 H locs hw hf => ?_)
        refine lv_goto hx hb dX6_tellOne_125 (tgt := 306) rfl ?_
        exact r_vret cx hw hr hlk hf dX6_tellOne_306
      replace hf := h_neg hc7 hf
      exact r_vret cx hw hr hlk hf dX6_tellOne_96
    replace hf := h_neg hc4 hf
    exact r_vret cx hw hr hlk hf dX6_tellOne_78
  replace hf := h_neg hc2_20 hf
  by_cases hc2_21 : u1 = 21
  · replace hf := h_pos hc2_21 hf
    refine lv_tableIn hx hb dX6_tellOne_9 (by rw [hc2_21]; decide) (by rw [hc2_21]; decide) (off := 119) (by rw [hc2_21]; rfl) (tgt := 128) rfl ?_
    refine lv_aload_n hx hb dX6_tellOne_128 rfl (lv_at hl 0 rfl) ?_
    refine lv_aload_n hx hb dX6_tellOne_129 rfl (lv_at hl 0 rfl) ?_
    refine gf_X6_52 cx hw hM dX6_tellOne_130 ?_
    refine lv_aload_n hx hb dX6_tellOne_133 rfl (lv_at hl 0 rfl) ?_
    refine gf_X6_260 cx hw hM dX6_tellOne_134 ?_
    refine r_iald cx hw (hM.2.2.1 25 rfl) rfl rfl hf dX6_tellOne_137 (fun hf => ?_)
    refine lv_bipush (v := 12) hx hb dX6_tellOne_138 (by decide) ?_
    refine r_V_v (As := [.int (st_A S (ky 0 25) (st_I S (ky 0 19)).toNatClampNeg), .int (12 : Int32)]) (rest := []) cx hw hf hM.2.1 (by rw [hM.1]; rfl) lk_X6_281 (fun q10 hq => k_X6_roomFor l g hg  hM S (st_A S (ky 0 25) (st_I S (ky 0 19)).toNatClampNeg) (12 : Int32) q10 hq) ⟨⟨rfl, rfl⟩, Nat.le_of_ble_eq_true rfl, Nat.le_of_ble_eq_true rfl⟩ rfl hl.1 rfl (Nat.le_of_ble_eq_true rfl) dX6_tellOne_140 ⟨Nat.zero_le _, Nat.zero_le _⟩ (fun q10 H locs hw hf => ?_)
    refine lv_aload_n hx hb dX6_tellOne_143 rfl (lv_at hl 0 rfl) ?_
    refine gf_X6_227 cx hw hM dX6_tellOne_144 ?_
    refine lv_if_ne hx hb dX6_tellOne_147 (tgt := 306) rfl (fun hc11 => ?_) (fun hc11 => ?_)
    · replace hf := h_neg hc11 hf
      exact r_vret cx hw hr hlk hf dX6_tellOne_306
    replace hf := h_pos hc11 hf
    refine lv_aload_n hx hb dX6_tellOne_150 rfl (lv_at hl 0 rfl) ?_
    refine r_V_v (As := []) (rest := []) cx hw hf hM.2.1 (by rw [hM.1]; rfl) lk_X6_296 (fun q12 hq => k_X6_tellDoor l g hg  hM q10  q12 hq) ⟨⟨rfl, rfl⟩, Nat.le_of_ble_eq_true rfl, Nat.le_of_ble_eq_true rfl⟩ rfl hl.1 rfl (Nat.le_of_ble_eq_true rfl) dX6_tellOne_151 ⟨Nat.zero_le _, Nat.zero_le _⟩ (fun q12 H locs hw hf => ?_)
    refine lv_goto hx hb dX6_tellOne_154 (tgt := 306) rfl ?_
    exact r_vret cx hw hr hlk hf dX6_tellOne_306
  replace hf := h_neg hc2_21 hf
  by_cases hc2_22 : u1 = 22
  · replace hf := h_pos hc2_22 hf
    refine lv_tableIn hx hb dX6_tellOne_9 (by rw [hc2_22]; decide) (by rw [hc2_22]; decide) (off := 148) (by rw [hc2_22]; rfl) (tgt := 157) rfl ?_
    refine lv_aload_n hx hb dX6_tellOne_157 rfl (lv_at hl 0 rfl) ?_
    refine lv_aload_n hx hb dX6_tellOne_158 rfl (lv_at hl 0 rfl) ?_
    refine gf_X6_61 cx hw hM dX6_tellOne_159 ?_
    refine lv_aload_n hx hb dX6_tellOne_162 rfl (lv_at hl 0 rfl) ?_
    refine gf_X6_260 cx hw hM dX6_tellOne_163 ?_
    refine r_iald cx hw (hM.2.2.1 28 rfl) rfl rfl hf dX6_tellOne_166 (fun hf => ?_)
    refine lv_bipush (v := 6) hx hb dX6_tellOne_167 (by decide) ?_
    refine r_V_v (As := [.int (st_A S (ky 0 28) (st_I S (ky 0 19)).toNatClampNeg), .int (6 : Int32)]) (rest := []) cx hw hf hM.2.1 (by rw [hM.1]; rfl) lk_X6_281 (fun q13 hq => k_X6_roomFor l g hg  hM S (st_A S (ky 0 28) (st_I S (ky 0 19)).toNatClampNeg) (6 : Int32) q13 hq) ⟨⟨rfl, rfl⟩, Nat.le_of_ble_eq_true rfl, Nat.le_of_ble_eq_true rfl⟩ rfl hl.1 rfl (Nat.le_of_ble_eq_true rfl) dX6_tellOne_169 ⟨Nat.zero_le _, Nat.zero_le _⟩ (fun q13 H locs hw hf => ?_)
    refine lv_aload_n hx hb dX6_tellOne_172 rfl (lv_at hl 0 rfl) ?_
    refine gf_X6_227 cx hw hM dX6_tellOne_173 ?_
    refine lv_if_ne hx hb dX6_tellOne_176 (tgt := 306) rfl (fun hc14 => ?_) (fun hc14 => ?_)
    · replace hf := h_neg hc14 hf
      exact r_vret cx hw hr hlk hf dX6_tellOne_306
    replace hf := h_pos hc14 hf
    refine lv_aload_n hx hb dX6_tellOne_179 rfl (lv_at hl 0 rfl) ?_
    refine r_V_v (As := []) (rest := []) cx hw hf hM.2.1 (by rw [hM.1]; rfl) lk_X6_299 (fun q15 hq => k_X6_tellMan l g hg  hM q13  q15 hq) ⟨⟨rfl, rfl⟩, Nat.le_of_ble_eq_true rfl, Nat.le_of_ble_eq_true rfl⟩ rfl hl.1 rfl (Nat.le_of_ble_eq_true rfl) dX6_tellOne_180 ⟨Nat.zero_le _, Nat.zero_le _⟩ (fun q15 H locs hw hf => ?_)
    refine lv_goto hx hb dX6_tellOne_183 (tgt := 306) rfl ?_
    exact r_vret cx hw hr hlk hf dX6_tellOne_306
  replace hf := h_neg hc2_22 hf
  by_cases hc2_23 : u1 = 23
  · replace hf := h_pos hc2_23 hf
    refine lv_tableIn hx hb dX6_tellOne_9 (by rw [hc2_23]; decide) (by rw [hc2_23]; decide) (off := 177) (by rw [hc2_23]; rfl) (tgt := 186) rfl ?_
    refine lv_aload_n hx hb dX6_tellOne_186 rfl (lv_at hl 0 rfl) ?_
    refine r_V_v (As := []) (rest := []) cx hw hf hM.2.1 (by rw [hM.1]; rfl) lk_X6_248 (fun q16 hq => k_X6_goesOn l g hg  hM S  q16 hq) ⟨⟨rfl, rfl⟩, Nat.le_of_ble_eq_true rfl, Nat.le_of_ble_eq_true rfl⟩ rfl hl.1 rfl (Nat.le_of_ble_eq_true rfl) dX6_tellOne_187 ⟨Nat.zero_le _, Nat.zero_le _⟩ (fun q16 H locs hw hf => ?_)
    refine lv_aload_n hx hb dX6_tellOne_190 rfl (lv_at hl 0 rfl) ?_
    refine lv_aload_n hx hb dX6_tellOne_191 rfl (lv_at hl 0 rfl) ?_
    refine lv_iconst (v := 1) hx hb dX6_tellOne_192 (by decide) ?_
    refine r_V_w (As := [.int (1 : Int32)]) (rest := [.ref (gg_o g 0)]) cx hw hf hM.2.1 (by rw [hM.1]; rfl) lk_X6_302 (fun q17 hq => k_X6_known l g hg  hM q16 (1 : Int32) q17 hq) ⟨⟨rfl, rfl⟩, Nat.le_of_ble_eq_true rfl, Nat.le_of_ble_eq_true rfl⟩ rfl hl.1 rfl (Nat.le_of_ble_eq_true rfl) dX6_tellOne_193 ⟨Nat.zero_le _, Nat.zero_le _⟩ (fun q17 H locs hw hf => ?_)
    refine r_V_v (As := [.int q17.1]) (rest := []) cx hw hf hM.2.1 (by rw [hM.1]; rfl) lk_X6_305 (fun q18 hq => k_X6_tellLaw l g hg  hM q17.2 q17.1 q18 hq) ⟨⟨rfl, rfl⟩, Nat.le_of_ble_eq_true rfl, Nat.le_of_ble_eq_true rfl⟩ rfl hl.1 rfl (Nat.le_of_ble_eq_true rfl) dX6_tellOne_196 ⟨Nat.zero_le _, Nat.zero_le _⟩ (fun q18 H locs hw hf => ?_)
    refine lv_goto hx hb dX6_tellOne_199 (tgt := 306) rfl ?_
    exact r_vret cx hw hr hlk hf dX6_tellOne_306
  replace hf := h_neg hc2_23 hf
  by_cases hc2_24 : u1 = 24
  · replace hf := h_pos hc2_24 hf
    refine lv_tableIn hx hb dX6_tellOne_9 (by rw [hc2_24]; decide) (by rw [hc2_24]; decide) (off := 193) (by rw [hc2_24]; rfl) (tgt := 202) rfl ?_
    refine lv_aload_n hx hb dX6_tellOne_202 rfl (lv_at hl 0 rfl) ?_
    refine lv_aload_n hx hb dX6_tellOne_203 rfl (lv_at hl 0 rfl) ?_
    refine gf_X6_70 cx hw hM dX6_tellOne_204 ?_
    refine lv_aload_n hx hb dX6_tellOne_207 rfl (lv_at hl 0 rfl) ?_
    refine gf_X6_260 cx hw hM dX6_tellOne_208 ?_
    refine r_iald cx hw (hM.2.2.1 31 rfl) rfl rfl hf dX6_tellOne_211 (fun hf => ?_)
    refine lv_bipush (v := 8) hx hb dX6_tellOne_212 (by decide) ?_
    refine r_V_v (As := [.int (st_A S (ky 0 31) (st_I S (ky 0 19)).toNatClampNeg), .int (8 : Int32)]) (rest := []) cx hw hf hM.2.1 (by rw [hM.1]; rfl) lk_X6_281 (fun q19 hq => k_X6_roomFor l g hg  hM S (st_A S (ky 0 31) (st_I S (ky 0 19)).toNatClampNeg) (8 : Int32) q19 hq) ⟨⟨rfl, rfl⟩, Nat.le_of_ble_eq_true rfl, Nat.le_of_ble_eq_true rfl⟩ rfl hl.1 rfl (Nat.le_of_ble_eq_true rfl) dX6_tellOne_214 ⟨Nat.zero_le _, Nat.zero_le _⟩ (fun q19 H locs hw hf => ?_)
    refine lv_aload_n hx hb dX6_tellOne_217 rfl (lv_at hl 0 rfl) ?_
    refine gf_X6_227 cx hw hM dX6_tellOne_218 ?_
    refine lv_if_ne hx hb dX6_tellOne_221 (tgt := 306) rfl (fun hc20 => ?_) (fun hc20 => ?_)
    · replace hf := h_neg hc20 hf
      exact r_vret cx hw hr hlk hf dX6_tellOne_306
    replace hf := h_pos hc20 hf
    refine lv_aload_n hx hb dX6_tellOne_224 rfl (lv_at hl 0 rfl) ?_
    refine r_V_v (As := []) (rest := []) cx hw hf hM.2.1 (by rw [hM.1]; rfl) lk_X6_308 (fun q21 hq => k_X6_tellMirror l g hg  hM q19  q21 hq) ⟨⟨rfl, rfl⟩, Nat.le_of_ble_eq_true rfl, Nat.le_of_ble_eq_true rfl⟩ rfl hl.1 rfl (Nat.le_of_ble_eq_true rfl) dX6_tellOne_225 ⟨Nat.zero_le _, Nat.zero_le _⟩ (fun q21 H locs hw hf => ?_)
    refine lv_goto hx hb dX6_tellOne_228 (tgt := 306) rfl ?_
    exact r_vret cx hw hr hlk hf dX6_tellOne_306
  replace hf := h_neg hc2_24 hf
  by_cases hc2_25 : u1 = 25
  · replace hf := h_pos hc2_25 hf
    refine lv_tableIn hx hb dX6_tellOne_9 (by rw [hc2_25]; decide) (by rw [hc2_25]; decide) (off := 222) (by rw [hc2_25]; rfl) (tgt := 231) rfl ?_
    refine lv_aload_n hx hb dX6_tellOne_231 rfl (lv_at hl 0 rfl) ?_
    refine r_V_v (As := []) (rest := []) cx hw hf hM.2.1 (by rw [hM.1]; rfl) lk_X6_248 (fun q22 hq => k_X6_goesOn l g hg  hM S  q22 hq) ⟨⟨rfl, rfl⟩, Nat.le_of_ble_eq_true rfl, Nat.le_of_ble_eq_true rfl⟩ rfl hl.1 rfl (Nat.le_of_ble_eq_true rfl) dX6_tellOne_232 ⟨Nat.zero_le _, Nat.zero_le _⟩ (fun q22 H locs hw hf => ?_)
    refine lv_aload_n hx hb dX6_tellOne_235 rfl (lv_at hl 0 rfl) ?_
    refine lv_bipush (v := 6) hx hb dX6_tellOne_236 (by decide) ?_
    refine r_V_v (As := [.int (6 : Int32)]) (rest := []) cx hw hf hM.2.1 (by rw [hM.1]; rfl) lk_X6_305 (fun q23 hq => k_X6_tellLaw l g hg  hM q22 (6 : Int32) q23 hq) ⟨⟨rfl, rfl⟩, Nat.le_of_ble_eq_true rfl, Nat.le_of_ble_eq_true rfl⟩ rfl hl.1 rfl (Nat.le_of_ble_eq_true rfl) dX6_tellOne_238 ⟨Nat.zero_le _, Nat.zero_le _⟩ (fun q23 H locs hw hf => ?_)
    refine lv_goto hx hb dX6_tellOne_241 (tgt := 306) rfl ?_
    exact r_vret cx hw hr hlk hf dX6_tellOne_306
  replace hf := h_neg hc2_25 hf
  by_cases hc2_26 : u1 = 26
  · replace hf := h_pos hc2_26 hf
    refine lv_tableIn hx hb dX6_tellOne_9 (by rw [hc2_26]; decide) (by rw [hc2_26]; decide) (off := 235) (by rw [hc2_26]; rfl) (tgt := 244) rfl ?_
    refine lv_aload_n hx hb dX6_tellOne_244 rfl (lv_at hl 0 rfl) ?_
    refine r_V_v (As := []) (rest := []) cx hw hf hM.2.1 (by rw [hM.1]; rfl) lk_X6_248 (fun q24 hq => k_X6_goesOn l g hg  hM S  q24 hq) ⟨⟨rfl, rfl⟩, Nat.le_of_ble_eq_true rfl, Nat.le_of_ble_eq_true rfl⟩ rfl hl.1 rfl (Nat.le_of_ble_eq_true rfl) dX6_tellOne_245 ⟨Nat.zero_le _, Nat.zero_le _⟩ (fun q24 H locs hw hf => ?_)
    refine lv_aload_n hx hb dX6_tellOne_248 rfl (lv_at hl 0 rfl) ?_
    refine gf_X6_79 cx hw hM dX6_tellOne_249 ?_
    refine lv_aload_n hx hb dX6_tellOne_252 rfl (lv_at hl 0 rfl) ?_
    refine gf_X6_260 cx hw hM dX6_tellOne_253 ?_
    refine lv_aload_n hx hb dX6_tellOne_256 rfl (lv_at hl 0 rfl) ?_
    refine lv_iconst (v := 0) hx hb dX6_tellOne_257 (by decide) ?_
    refine lv_bipush (v := 100) hx hb dX6_tellOne_258 (by decide) ?_
    refine r_V_w (As := [.int (0 : Int32), .int (100 : Int32)]) (rest := [.int (st_I q24 (ky 0 19)), .ref (gg_a g (ky 0 34))]) cx hw hf hM.2.1 (by rw [hM.1]; rfl) lk_X6_311 (fun q25 hq => k_X6_bounded l g hg  hM q24 (0 : Int32) (100 : Int32) q25 hq) ⟨⟨rfl, rfl⟩, Nat.le_of_ble_eq_true rfl, Nat.le_of_ble_eq_true rfl⟩ rfl hl.1 rfl (Nat.le_of_ble_eq_true rfl) dX6_tellOne_260 ⟨Nat.zero_le _, Nat.zero_le _⟩ (fun q25 H locs hw hf => ?_)
    refine r_iast cx hw (hM.2.2.1 34 rfl) rfl rfl hf dX6_tellOne_263 (fun S26 H locs hw hf => ?_)
    refine lv_aload_n hx hb dX6_tellOne_264 rfl (lv_at hl 0 rfl) ?_
    refine lv_iconst (v := 4) hx hb dX6_tellOne_265 (by decide) ?_
    refine r_V_v (As := [.int (4 : Int32)]) (rest := []) cx hw hf hM.2.1 (by rw [hM.1]; rfl) lk_X6_289 (fun q27 hq => k_X6_must l g hg  hM S26 (4 : Int32) q27 hq) ⟨⟨rfl, rfl⟩, Nat.le_of_ble_eq_true rfl, Nat.le_of_ble_eq_true rfl⟩ rfl hl.1 rfl (Nat.le_of_ble_eq_true rfl) dX6_tellOne_266 ⟨Nat.zero_le _, Nat.zero_le _⟩ (fun q27 H locs hw hf => ?_)
    refine lv_goto hx hb dX6_tellOne_269 (tgt := 306) rfl ?_
    exact r_vret cx hw hr hlk hf dX6_tellOne_306
  replace hf := h_neg hc2_26 hf
  by_cases hc2_27 : u1 = 27
  · replace hf := h_pos hc2_27 hf
    refine lv_tableIn hx hb dX6_tellOne_9 (by rw [hc2_27]; decide) (by rw [hc2_27]; decide) (off := 263) (by rw [hc2_27]; rfl) (tgt := 272) rfl ?_
    refine lv_aload_n hx hb dX6_tellOne_272 rfl (lv_at hl 0 rfl) ?_
    refine r_V_v (As := []) (rest := []) cx hw hf hM.2.1 (by rw [hM.1]; rfl) lk_X6_248 (fun q28 hq => k_X6_goesOn l g hg  hM S  q28 hq) ⟨⟨rfl, rfl⟩, Nat.le_of_ble_eq_true rfl, Nat.le_of_ble_eq_true rfl⟩ rfl hl.1 rfl (Nat.le_of_ble_eq_true rfl) dX6_tellOne_273 ⟨Nat.zero_le _, Nat.zero_le _⟩ (fun q28 H locs hw hf => ?_)
    refine lv_aload_n hx hb dX6_tellOne_276 rfl (lv_at hl 0 rfl) ?_
    refine gf_X6_82 cx hw hM dX6_tellOne_277 ?_
    refine lv_aload_n hx hb dX6_tellOne_280 rfl (lv_at hl 0 rfl) ?_
    refine gf_X6_260 cx hw hM dX6_tellOne_281 ?_
    refine lv_aload_n hx hb dX6_tellOne_284 rfl (lv_at hl 0 rfl) ?_
    refine lv_iconst (v := 0) hx hb dX6_tellOne_285 (by decide) ?_
    refine lv_sipush (v := 9999) hx hb dX6_tellOne_286 (by decide) ?_
    refine r_V_w (As := [.int (0 : Int32), .int (9999 : Int32)]) (rest := [.int (st_I q28 (ky 0 19)), .ref (gg_a g (ky 0 35))]) cx hw hf hM.2.1 (by rw [hM.1]; rfl) lk_X6_311 (fun q29 hq => k_X6_bounded l g hg  hM q28 (0 : Int32) (9999 : Int32) q29 hq) ⟨⟨rfl, rfl⟩, Nat.le_of_ble_eq_true rfl, Nat.le_of_ble_eq_true rfl⟩ rfl hl.1 rfl (Nat.le_of_ble_eq_true rfl) dX6_tellOne_289 ⟨Nat.zero_le _, Nat.zero_le _⟩ (fun q29 H locs hw hf => ?_)
    refine r_iast cx hw (hM.2.2.1 35 rfl) rfl rfl hf dX6_tellOne_292 (fun S30 H locs hw hf => ?_)
    refine lv_aload_n hx hb dX6_tellOne_293 rfl (lv_at hl 0 rfl) ?_
    refine lv_iconst (v := 4) hx hb dX6_tellOne_294 (by decide) ?_
    refine r_V_v (As := [.int (4 : Int32)]) (rest := []) cx hw hf hM.2.1 (by rw [hM.1]; rfl) lk_X6_289 (fun q31 hq => k_X6_must l g hg  hM S30 (4 : Int32) q31 hq) ⟨⟨rfl, rfl⟩, Nat.le_of_ble_eq_true rfl, Nat.le_of_ble_eq_true rfl⟩ rfl hl.1 rfl (Nat.le_of_ble_eq_true rfl) dX6_tellOne_295 ⟨Nat.zero_le _, Nat.zero_le _⟩ (fun q31 H locs hw hf => ?_)
    refine lv_goto hx hb dX6_tellOne_298 (tgt := 306) rfl ?_
    exact r_vret cx hw hr hlk hf dX6_tellOne_306
  replace hf := h_neg hc2_27 hf
  have hD9 : W p l e rm_X6_tellOne s m args below meth c H locs 0 0 (MQ below (qc_v wd_M g q) args s 0 0 (aw g)) (F0 m 301 ls []) := by
    refine lv_aload_n hx hb dX6_tellOne_301 rfl (lv_at hl 0 rfl) ?_
    refine lv_iconst (v := 1) hx hb dX6_tellOne_302 (by decide) ?_
    refine r_V_v (As := [.int (1 : Int32)]) (rest := []) cx hw hf hM.2.1 (by rw [hM.1]; rfl) lk_X6_242 (fun q32 hq => k_X6_fail l g hg  hM S (1 : Int32) q32 hq) ⟨⟨rfl, rfl⟩, Nat.le_of_ble_eq_true rfl, Nat.le_of_ble_eq_true rfl⟩ rfl hl.1 rfl (Nat.le_of_ble_eq_true rfl) dX6_tellOne_303 ⟨Nat.zero_le _, Nat.zero_le _⟩ (fun q32 H locs hw hf => ?_)
    exact r_vret cx hw hr hlk hf dX6_tellOne_306
  refine lv_tableOut hx hb dX6_tellOne_9 (ts_out (lo := 20) (hi := 27) (by decide) (by decide) (fun i h1 h2 => ?_)) (tgt := 301) rfl hD9
  rcases (show i = 20 ∨ i = 21 ∨ i = 22 ∨ i = 23 ∨ i = 24 ∨ i = 25 ∨ i = 26 ∨ i = 27 by omega) with rfl | rfl | rfl | rfl | rfl | rfl | rfl | rfl
  · exact hc2_20
  · exact hc2_21
  · exact hc2_22
  · exact hc2_23
  · exact hc2_24
  · exact hc2_25
  · exact hc2_26
  · exact hc2_27
theorem dX6_rankOfOwner_0 : decode cX6_rankOfOwner 0 = .ok (.aload_n 0, 1) := by decide +kernel
theorem dX6_rankOfOwner_1 : decode cX6_rankOfOwner 1 = .ok (.getfield 131, 3) := by decide +kernel
theorem dX6_rankOfOwner_4 : decode cX6_rankOfOwner 4 = .ok (.bipush 36, 2) := by decide +kernel
theorem dX6_rankOfOwner_6 : decode cX6_rankOfOwner 6 = .ok (.aload_n 0, 1) := by decide +kernel
theorem dX6_rankOfOwner_7 : decode cX6_rankOfOwner 7 = .ok (.getfield 348, 3) := by decide +kernel
theorem dX6_rankOfOwner_10 : decode cX6_rankOfOwner 10 = .ok (.imul, 1) := by decide +kernel
theorem dX6_rankOfOwner_11 : decode cX6_rankOfOwner 11 = .ok (.bipush 6, 2) := by decide +kernel
theorem dX6_rankOfOwner_13 : decode cX6_rankOfOwner 13 = .ok (.iadd, 1) := by decide +kernel
theorem dX6_rankOfOwner_14 : decode cX6_rankOfOwner 14 = .ok (.aload_n 0, 1) := by decide +kernel
theorem dX6_rankOfOwner_15 : decode cX6_rankOfOwner 15 = .ok (.getfield 76, 3) := by decide +kernel
theorem dX6_rankOfOwner_18 : decode cX6_rankOfOwner 18 = .ok (.bipush 8, 2) := by decide +kernel
theorem dX6_rankOfOwner_20 : decode cX6_rankOfOwner 20 = .ok (.aload_n 0, 1) := by decide +kernel
theorem dX6_rankOfOwner_21 : decode cX6_rankOfOwner 21 = .ok (.getfield 257, 3) := by decide +kernel
theorem dX6_rankOfOwner_24 : decode cX6_rankOfOwner 24 = .ok (.imul, 1) := by decide +kernel
theorem dX6_rankOfOwner_25 : decode cX6_rankOfOwner 25 = .ok (.iload_n 1, 1) := by decide +kernel
theorem dX6_rankOfOwner_26 : decode cX6_rankOfOwner 26 = .ok (.iadd, 1) := by decide +kernel
theorem dX6_rankOfOwner_27 : decode cX6_rankOfOwner 27 = .ok (.iaload, 1) := by decide +kernel
theorem dX6_rankOfOwner_28 : decode cX6_rankOfOwner 28 = .ok (.iadd, 1) := by decide +kernel
theorem dX6_rankOfOwner_29 : decode cX6_rankOfOwner 29 = .ok (.iaload, 1) := by decide +kernel
theorem dX6_rankOfOwner_30 : decode cX6_rankOfOwner 30 = .ok (.ireturn, 1) := by decide +kernel
abbrev rm_X6_rankOfOwner : Room := { frames := 0, cells := 0, slots := 0, locals := 0 }
def f_X6_rankOfOwner (S : St) (x1 : Int32) : Option (Int32) :=
  chk (ib (((8 : Int32) * (st_I S (ky 0 18))) + x1) 16) (chk (ib ((((36 : Int32) * (st_I S (ky 0 57))) + (6 : Int32)) + (st_A S (ky 0 33) (((8 : Int32) * (st_I S (ky 0 18))) + x1).toNatClampNeg)) 10800) (some (st_A S (ky 0 56) ((((36 : Int32) * (st_I S (ky 0 57))) + (6 : Int32)) + (st_A S (ky 0 33) (((8 : Int32) * (st_I S (ky 0 18))) + x1).toNatClampNeg)).toNatClampNeg)))
set_option maxRecDepth 100000 in
set_option maxHeartbeats 4000000 in
theorem k_X6_rankOfOwner (l : Launch) (g : GG) (hg : gd wd_M g)  (hM : hs wd_M g 0 6) (S : St) (x1 : Int32) (q : Int32) (hf : f_X6_rankOfOwner  S x1 = some q) : Met l yX6_rankOfOwner (Cond.code yX6_rankOfOwner cX6_rankOfOwner 2 (some .int) :: gw_tbl) rm_X6_rankOfOwner (va_Pc [.ref (gg_o g 0), .int x1] (wI wd_M g S)) (qc_i wd_M g S q) 0 0 (aw g) := by
  refine mt_start (own := RX6) hg (by decide) rfl (Nat.le_of_ble_eq_true rfl) (fun p e s m args below meth c ls H locs cx hw hr hlk hl => ?_)
  have hx := cx.1
  have hb := cx.2.1
  have hown := cx.2.2.2.1
  have hts := cx.2.2.2.2.1
  have hl : lv_has ls 2 [(0, .ref (gg_o g 0)), (1, .int x1)] := hl
  replace hf := h_top hf
  unfold f_X6_rankOfOwner at hf
  refine lv_aload_n hx hb dX6_rankOfOwner_0 rfl (lv_at hl 0 rfl) ?_
  refine gf_X6_131 cx hw hM dX6_rankOfOwner_1 ?_
  refine lv_bipush (v := 36) hx hb dX6_rankOfOwner_4 (by decide) ?_
  refine lv_aload_n hx hb dX6_rankOfOwner_6 rfl (lv_at hl 0 rfl) ?_
  refine gf_X6_348 cx hw hM dX6_rankOfOwner_7 ?_
  refine lv_imul hx hb dX6_rankOfOwner_10 ?_
  refine lv_bipush (v := 6) hx hb dX6_rankOfOwner_11 (by decide) ?_
  refine lv_iadd hx hb dX6_rankOfOwner_13 ?_
  refine lv_aload_n hx hb dX6_rankOfOwner_14 rfl (lv_at hl 0 rfl) ?_
  refine gf_X6_76 cx hw hM dX6_rankOfOwner_15 ?_
  refine lv_bipush (v := 8) hx hb dX6_rankOfOwner_18 (by decide) ?_
  refine lv_aload_n hx hb dX6_rankOfOwner_20 rfl (lv_at hl 0 rfl) ?_
  refine gf_X6_257 cx hw hM dX6_rankOfOwner_21 ?_
  refine lv_imul hx hb dX6_rankOfOwner_24 ?_
  refine lv_iload_n hx hb dX6_rankOfOwner_25 rfl (lv_at hl 1 rfl) ?_
  refine lv_iadd hx hb dX6_rankOfOwner_26 ?_
  refine r_iald cx hw (hM.2.2.1 33 rfl) rfl rfl hf dX6_rankOfOwner_27 (fun hf => ?_)
  refine lv_iadd hx hb dX6_rankOfOwner_28 ?_
  refine r_iald cx hw (hM.2.2.1 56 rfl) rfl rfl hf dX6_rankOfOwner_29 (fun hf => ?_)
  exact r_iret cx hw hr hlk hf dX6_rankOfOwner_30
theorem dX6_waysOf_0 : decode cX6_waysOf 0 = .ok (.iconst 0, 1) := by decide +kernel
theorem dX6_waysOf_1 : decode cX6_waysOf 1 = .ok (.istore_n 2, 1) := by decide +kernel
theorem dX6_waysOf_2 : decode cX6_waysOf 2 = .ok (.iconst 0, 1) := by decide +kernel
theorem dX6_waysOf_3 : decode cX6_waysOf 3 = .ok (.istore_n 3, 1) := by decide +kernel
theorem dX6_waysOf_4 : decode cX6_waysOf 4 = .ok (.iload_n 3, 1) := by decide +kernel
theorem dX6_waysOf_5 : decode cX6_waysOf 5 = .ok (.aload_n 0, 1) := by decide +kernel
theorem dX6_waysOf_6 : decode cX6_waysOf 6 = .ok (.getfield 52, 3) := by decide +kernel
theorem dX6_waysOf_9 : decode cX6_waysOf 9 = .ok (.aload_n 0, 1) := by decide +kernel
theorem dX6_waysOf_10 : decode cX6_waysOf 10 = .ok (.getfield 257, 3) := by decide +kernel
theorem dX6_waysOf_13 : decode cX6_waysOf 13 = .ok (.iaload, 1) := by decide +kernel
theorem dX6_waysOf_14 : decode cX6_waysOf 14 = .ok (.if_icmp .ge 48, 3) := by decide +kernel
theorem dX6_waysOf_17 : decode cX6_waysOf 17 = .ok (.aload_n 0, 1) := by decide +kernel
theorem dX6_waysOf_18 : decode cX6_waysOf 18 = .ok (.getfield 55, 3) := by decide +kernel
theorem dX6_waysOf_21 : decode cX6_waysOf 21 = .ok (.bipush 12, 2) := by decide +kernel
theorem dX6_waysOf_23 : decode cX6_waysOf 23 = .ok (.aload_n 0, 1) := by decide +kernel
theorem dX6_waysOf_24 : decode cX6_waysOf 24 = .ok (.getfield 257, 3) := by decide +kernel
theorem dX6_waysOf_27 : decode cX6_waysOf 27 = .ok (.imul, 1) := by decide +kernel
theorem dX6_waysOf_28 : decode cX6_waysOf 28 = .ok (.iload_n 3, 1) := by decide +kernel
theorem dX6_waysOf_29 : decode cX6_waysOf 29 = .ok (.iadd, 1) := by decide +kernel
theorem dX6_waysOf_30 : decode cX6_waysOf 30 = .ok (.iaload, 1) := by decide +kernel
theorem dX6_waysOf_31 : decode cX6_waysOf 31 = .ok (.iload_n 1, 1) := by decide +kernel
theorem dX6_waysOf_32 : decode cX6_waysOf 32 = .ok (.if_icmp .eq 21, 3) := by decide +kernel
theorem dX6_waysOf_35 : decode cX6_waysOf 35 = .ok (.aload_n 0, 1) := by decide +kernel
theorem dX6_waysOf_36 : decode cX6_waysOf 36 = .ok (.getfield 58, 3) := by decide +kernel
theorem dX6_waysOf_39 : decode cX6_waysOf 39 = .ok (.bipush 12, 2) := by decide +kernel
theorem dX6_waysOf_41 : decode cX6_waysOf 41 = .ok (.aload_n 0, 1) := by decide +kernel
theorem dX6_waysOf_42 : decode cX6_waysOf 42 = .ok (.getfield 257, 3) := by decide +kernel
theorem dX6_waysOf_45 : decode cX6_waysOf 45 = .ok (.imul, 1) := by decide +kernel
theorem dX6_waysOf_46 : decode cX6_waysOf 46 = .ok (.iload_n 3, 1) := by decide +kernel
theorem dX6_waysOf_47 : decode cX6_waysOf 47 = .ok (.iadd, 1) := by decide +kernel
theorem dX6_waysOf_48 : decode cX6_waysOf 48 = .ok (.iaload, 1) := by decide +kernel
theorem dX6_waysOf_49 : decode cX6_waysOf 49 = .ok (.iload_n 1, 1) := by decide +kernel
theorem dX6_waysOf_50 : decode cX6_waysOf 50 = .ok (.if_icmp .ne 6, 3) := by decide +kernel
theorem dX6_waysOf_53 : decode cX6_waysOf 53 = .ok (.iinc 2 1, 3) := by decide +kernel
theorem dX6_waysOf_56 : decode cX6_waysOf 56 = .ok (.iinc 3 1, 3) := by decide +kernel
theorem dX6_waysOf_59 : decode cX6_waysOf 59 = .ok (.goto (-55), 3) := by decide +kernel
theorem dX6_waysOf_62 : decode cX6_waysOf 62 = .ok (.iload_n 2, 1) := by decide +kernel
theorem dX6_waysOf_63 : decode cX6_waysOf 63 = .ok (.ireturn, 1) := by decide +kernel
abbrev rm_X6_waysOf : Room := { frames := 0, cells := 0, slots := 0, locals := 0 }
def f_X6_waysOf_L4 (S : St) (x1 : Int32) (z4 : Int32 × Int32) : Option ((Int32 × Int32) ⊕ (Int32)) :=
  chk (ib (st_I S (ky 0 18)) 2) (if (st_A S (ky 0 25) (st_I S (ky 0 18)).toNatClampNeg) ≤ z4.2 then (some (.inr z4.1)) else (chk (ib (((12 : Int32) * (st_I S (ky 0 18))) + z4.2) 24) (if (st_A S (ky 0 26) (((12 : Int32) * (st_I S (ky 0 18))) + z4.2).toNatClampNeg) = x1 then (some (.inl ((z4.1 + 1), (z4.2 + 1)))) else (chk (ib (((12 : Int32) * (st_I S (ky 0 18))) + z4.2) 24) (if (st_A S (ky 0 27) (((12 : Int32) * (st_I S (ky 0 18))) + z4.2).toNatClampNeg) = x1 then (some (.inl ((z4.1 + 1), (z4.2 + 1)))) else (some (.inl (z4.1, (z4.2 + 1)))))))))
def f_X6_waysOf (S : St) (x1 : Int32) : Option (Int32) :=
  iter (f_X6_waysOf_L4  S x1) FU ((0 : Int32), (0 : Int32))
set_option maxRecDepth 100000 in
set_option maxHeartbeats 4000000 in
theorem k_X6_waysOf (l : Launch) (g : GG) (hg : gd wd_M g)  (hM : hs wd_M g 0 6) (S : St) (x1 : Int32) (q : Int32) (hf : f_X6_waysOf  S x1 = some q) : Met l yX6_waysOf (Cond.code yX6_waysOf cX6_waysOf 4 (some .int) :: gw_tbl) rm_X6_waysOf (va_Pc [.ref (gg_o g 0), .int x1] (wI wd_M g S)) (qc_i wd_M g S q) 0 0 (aw g) := by
  refine mt_start (own := RX6) hg (by decide) rfl (Nat.le_of_ble_eq_true rfl) (fun p e s m args below meth c ls H locs cx hw hr hlk hl => ?_)
  have hx := cx.1
  have hb := cx.2.1
  have hown := cx.2.2.2.1
  have hts := cx.2.2.2.2.1
  have hl : lv_has ls 4 [(0, .ref (gg_o g 0)), (1, .int x1)] := hl
  replace hf := h_top hf
  unfold f_X6_waysOf at hf
  refine lv_iconst (v := 0) hx hb dX6_waysOf_0 (by decide) ?_
  refine lv_istore_n hx hb dX6_waysOf_1 rfl hl (by decide) (lv' := [(2, .int (0 : Int32)), (0, .ref (gg_o g 0)), (1, .int x1)]) rfl (fun ls hl => ?_)
  refine lv_iconst (v := 0) hx hb dX6_waysOf_2 (by decide) ?_
  refine lv_istore_n hx hb dX6_waysOf_3 rfl hl (by decide) (lv' := [(3, .int (0 : Int32)), (2, .int (0 : Int32)), (0, .ref (gg_o g 0)), (1, .int x1)]) rfl (fun ls hl => ?_)
  have L4 : ∀ (x1 : Int32) (aft4 : Int32 → Option (Int32)), (∀ v : Int32, aft4 v = some q → (some v : Option (Int32)).bind some = some q) → ∀ (n4 : Nat) (ls : Array Slot) (H : Heap) (locs : List Loc) (z4 : Int32 × Int32), lv_has ls 4 [(0, .ref (gg_o g 0)), (1, .int x1), (2, .int z4.1), (3, .int z4.2)] → HH wd_M g s S H locs → (iter (f_X6_waysOf_L4  S x1) n4 z4).bind aft4 = some q → W p l e rm_X6_waysOf s m args below meth c H locs 0 0 (MQ below (qc_i wd_M g S q) args s 0 0 (aw g)) (F0 m 4 ls []) := by
    intro x1 aft4 hR4 n4
    induction n4 with
    | zero => intro ls H locs z4 hl hw hf; exact h_iter0 hf
    | succ n4 ih4 =>
      intro ls H locs z4 hl hw hf
      replace hf := h_iter hf
      unfold f_X6_waysOf_L4 at hf
      refine lv_iload_n hx hb dX6_waysOf_4 rfl (lv_at hl 3 rfl) ?_
      refine lv_aload_n hx hb dX6_waysOf_5 rfl (lv_at hl 0 rfl) ?_
      refine gf_X6_52 cx hw hM dX6_waysOf_6 ?_
      refine lv_aload_n hx hb dX6_waysOf_9 rfl (lv_at hl 0 rfl) ?_
      refine gf_X6_257 cx hw hM dX6_waysOf_10 ?_
      refine r_iald cx hw (hM.2.2.1 25 rfl) rfl rfl hf dX6_waysOf_13 (fun hf => ?_)
      refine lv_icmp_ge hx hb dX6_waysOf_14 (tgt := 62) rfl (fun hc1 => ?_) (fun hc1 => ?_)
      · replace hf := h_pos hc1 hf
        refine lv_iload_n hx hb dX6_waysOf_62 rfl (lv_at hl 2 rfl) ?_
        replace hf := hR4 z4.1 hf
        exact r_iret cx hw hr hlk hf dX6_waysOf_63
      replace hf := h_neg hc1 hf
      refine lv_aload_n hx hb dX6_waysOf_17 rfl (lv_at hl 0 rfl) ?_
      refine gf_X6_55 cx hw hM dX6_waysOf_18 ?_
      refine lv_bipush (v := 12) hx hb dX6_waysOf_21 (by decide) ?_
      refine lv_aload_n hx hb dX6_waysOf_23 rfl (lv_at hl 0 rfl) ?_
      refine gf_X6_257 cx hw hM dX6_waysOf_24 ?_
      refine lv_imul hx hb dX6_waysOf_27 ?_
      refine lv_iload_n hx hb dX6_waysOf_28 rfl (lv_at hl 3 rfl) ?_
      refine lv_iadd hx hb dX6_waysOf_29 ?_
      refine r_iald cx hw (hM.2.2.1 26 rfl) rfl rfl hf dX6_waysOf_30 (fun hf => ?_)
      refine lv_iload_n hx hb dX6_waysOf_31 rfl (lv_at hl 1 rfl) ?_
      refine lv_icmp_eq hx hb dX6_waysOf_32 (tgt := 53) rfl (fun hc2 => ?_) (fun hc2 => ?_)
      · replace hf := h_pos hc2 hf
        refine lv_iinc hx hb dX6_waysOf_53 hl (k := 2) rfl (congrArg (HAdd.hAdd _) (show Int32.ofInt (1) = 1 by decide)) (by decide) (lv' := [(2, .int (z4.1 + 1)), (0, .ref (gg_o g 0)), (1, .int x1), (3, .int z4.2)]) rfl (fun ls hl => ?_)
        refine lv_iinc hx hb dX6_waysOf_56 hl (k := 3) rfl (congrArg (HAdd.hAdd _) (show Int32.ofInt (1) = 1 by decide)) (by decide) (lv' := [(3, .int (z4.2 + 1)), (2, .int (z4.1 + 1)), (0, .ref (gg_o g 0)), (1, .int x1)]) rfl (fun ls hl => ?_)
        refine lv_goto hx hb dX6_waysOf_59 (tgt := 4) rfl ?_
        exact ih4 _ _ _ ((z4.1 + 1), (z4.2 + 1)) (lv_sub hl [2, 3, 1, 0] rfl) hw hf
      replace hf := h_neg hc2 hf
      refine lv_aload_n hx hb dX6_waysOf_35 rfl (lv_at hl 0 rfl) ?_
      refine gf_X6_58 cx hw hM dX6_waysOf_36 ?_
      refine lv_bipush (v := 12) hx hb dX6_waysOf_39 (by decide) ?_
      refine lv_aload_n hx hb dX6_waysOf_41 rfl (lv_at hl 0 rfl) ?_
      refine gf_X6_257 cx hw hM dX6_waysOf_42 ?_
      refine lv_imul hx hb dX6_waysOf_45 ?_
      refine lv_iload_n hx hb dX6_waysOf_46 rfl (lv_at hl 3 rfl) ?_
      refine lv_iadd hx hb dX6_waysOf_47 ?_
      refine r_iald cx hw (hM.2.2.1 27 rfl) rfl rfl hf dX6_waysOf_48 (fun hf => ?_)
      refine lv_iload_n hx hb dX6_waysOf_49 rfl (lv_at hl 1 rfl) ?_
      refine lv_icmp_ne hx hb dX6_waysOf_50 (tgt := 56) rfl (fun hc3 => ?_) (fun hc3 => ?_)
      · replace hf := h_neg hc3 hf
        refine lv_iinc hx hb dX6_waysOf_56 hl (k := 3) rfl (congrArg (HAdd.hAdd _) (show Int32.ofInt (1) = 1 by decide)) (by decide) (lv' := [(3, .int (z4.2 + 1)), (0, .ref (gg_o g 0)), (1, .int x1), (2, .int z4.1)]) rfl (fun ls hl => ?_)
        refine lv_goto hx hb dX6_waysOf_59 (tgt := 4) rfl ?_
        exact ih4 _ _ _ (z4.1, (z4.2 + 1)) (lv_sub hl [1, 2, 3, 0] rfl) hw hf
      replace hf := h_pos hc3 hf
      refine lv_iinc hx hb dX6_waysOf_53 hl (k := 2) rfl (congrArg (HAdd.hAdd _) (show Int32.ofInt (1) = 1 by decide)) (by decide) (lv' := [(2, .int (z4.1 + 1)), (0, .ref (gg_o g 0)), (1, .int x1), (3, .int z4.2)]) rfl (fun ls hl => ?_)
      refine lv_iinc hx hb dX6_waysOf_56 hl (k := 3) rfl (congrArg (HAdd.hAdd _) (show Int32.ofInt (1) = 1 by decide)) (by decide) (lv' := [(3, .int (z4.2 + 1)), (2, .int (z4.1 + 1)), (0, .ref (gg_o g 0)), (1, .int x1)]) rfl (fun ls hl => ?_)
      refine lv_goto hx hb dX6_waysOf_59 (tgt := 4) rfl ?_
      exact ih4 _ _ _ ((z4.1 + 1), (z4.2 + 1)) (lv_sub hl [2, 3, 1, 0] rfl) hw hf
  exact L4 x1 some (fun v h => h) FU _ _ _ ((0 : Int32), (0 : Int32)) (lv_sub hl [2, 3, 1, 0] rfl) hw hf
theorem dX6_menIn_0 : decode cX6_menIn 0 = .ok (.iconst 0, 1) := by decide +kernel
theorem dX6_menIn_1 : decode cX6_menIn 1 = .ok (.istore_n 3, 1) := by decide +kernel
theorem dX6_menIn_2 : decode cX6_menIn 2 = .ok (.iconst 0, 1) := by decide +kernel
theorem dX6_menIn_3 : decode cX6_menIn 3 = .ok (.istore 4, 2) := by decide +kernel
theorem dX6_menIn_5 : decode cX6_menIn 5 = .ok (.iload 4, 2) := by decide +kernel
theorem dX6_menIn_7 : decode cX6_menIn 7 = .ok (.aload_n 0, 1) := by decide +kernel
theorem dX6_menIn_8 : decode cX6_menIn 8 = .ok (.getfield 61, 3) := by decide +kernel
theorem dX6_menIn_11 : decode cX6_menIn 11 = .ok (.aload_n 0, 1) := by decide +kernel
theorem dX6_menIn_12 : decode cX6_menIn 12 = .ok (.getfield 257, 3) := by decide +kernel
theorem dX6_menIn_15 : decode cX6_menIn 15 = .ok (.iaload, 1) := by decide +kernel
theorem dX6_menIn_16 : decode cX6_menIn 16 = .ok (.if_icmp .ge 32, 3) := by decide +kernel
theorem dX6_menIn_19 : decode cX6_menIn 19 = .ok (.aload_n 0, 1) := by decide +kernel
theorem dX6_menIn_20 : decode cX6_menIn 20 = .ok (.getfield 131, 3) := by decide +kernel
theorem dX6_menIn_23 : decode cX6_menIn 23 = .ok (.bipush 36, 2) := by decide +kernel
theorem dX6_menIn_25 : decode cX6_menIn 25 = .ok (.iload_n 2, 1) := by decide +kernel
theorem dX6_menIn_26 : decode cX6_menIn 26 = .ok (.imul, 1) := by decide +kernel
theorem dX6_menIn_27 : decode cX6_menIn 27 = .ok (.iload 4, 2) := by decide +kernel
theorem dX6_menIn_29 : decode cX6_menIn 29 = .ok (.iadd, 1) := by decide +kernel
theorem dX6_menIn_30 : decode cX6_menIn 30 = .ok (.iaload, 1) := by decide +kernel
theorem dX6_menIn_31 : decode cX6_menIn 31 = .ok (.iload_n 1, 1) := by decide +kernel
theorem dX6_menIn_32 : decode cX6_menIn 32 = .ok (.if_icmp .ne 10, 3) := by decide +kernel
theorem dX6_menIn_35 : decode cX6_menIn 35 = .ok (.iload_n 3, 1) := by decide +kernel
theorem dX6_menIn_36 : decode cX6_menIn 36 = .ok (.iconst 1, 1) := by decide +kernel
theorem dX6_menIn_37 : decode cX6_menIn 37 = .ok (.iload 4, 2) := by decide +kernel
theorem dX6_menIn_39 : decode cX6_menIn 39 = .ok (.ishl, 1) := by decide +kernel
theorem dX6_menIn_40 : decode cX6_menIn 40 = .ok (.ior, 1) := by decide +kernel
theorem dX6_menIn_41 : decode cX6_menIn 41 = .ok (.istore_n 3, 1) := by decide +kernel
theorem dX6_menIn_42 : decode cX6_menIn 42 = .ok (.iinc 4 1, 3) := by decide +kernel
theorem dX6_menIn_45 : decode cX6_menIn 45 = .ok (.goto (-40), 3) := by decide +kernel
theorem dX6_menIn_48 : decode cX6_menIn 48 = .ok (.iload_n 3, 1) := by decide +kernel
theorem dX6_menIn_49 : decode cX6_menIn 49 = .ok (.ireturn, 1) := by decide +kernel
abbrev rm_X6_menIn : Room := { frames := 0, cells := 0, slots := 0, locals := 0 }
def f_X6_menIn_L5 (S : St) (x1 : Int32) (x2 : Int32) (z5 : Int32 × Int32) : Option ((Int32 × Int32) ⊕ (Int32)) :=
  chk (ib (st_I S (ky 0 18)) 2) (if (st_A S (ky 0 28) (st_I S (ky 0 18)).toNatClampNeg) ≤ z5.2 then (some (.inr z5.1)) else (chk (ib (((36 : Int32) * x2) + z5.2) 10800) (if (st_A S (ky 0 56) (((36 : Int32) * x2) + z5.2).toNatClampNeg) = x1 then (lt_v (z5.1 ||| ((1 : Int32) <<< (z5.2 &&& 31))) (fun (u3 : Int32) => some (.inl (u3, (z5.2 + 1))))) else (some (.inl (z5.1, (z5.2 + 1)))))))
def f_X6_menIn (S : St) (x1 : Int32) (x2 : Int32) : Option (Int32) :=
  iter (f_X6_menIn_L5  S x1 x2) FU ((0 : Int32), (0 : Int32))
set_option maxRecDepth 100000 in
set_option maxHeartbeats 4000000 in
theorem k_X6_menIn (l : Launch) (g : GG) (hg : gd wd_M g)  (hM : hs wd_M g 0 6) (S : St) (x1 : Int32) (x2 : Int32) (q : Int32) (hf : f_X6_menIn  S x1 x2 = some q) : Met l yX6_menIn (Cond.code yX6_menIn cX6_menIn 5 (some .int) :: gw_tbl) rm_X6_menIn (va_Pc [.ref (gg_o g 0), .int x1, .int x2] (wI wd_M g S)) (qc_i wd_M g S q) 0 0 (aw g) := by
  refine mt_start (own := RX6) hg (by decide) rfl (Nat.le_of_ble_eq_true rfl) (fun p e s m args below meth c ls H locs cx hw hr hlk hl => ?_)
  have hx := cx.1
  have hb := cx.2.1
  have hown := cx.2.2.2.1
  have hts := cx.2.2.2.2.1
  have hl : lv_has ls 5 [(0, .ref (gg_o g 0)), (1, .int x1), (2, .int x2)] := hl
  replace hf := h_top hf
  unfold f_X6_menIn at hf
  refine lv_iconst (v := 0) hx hb dX6_menIn_0 (by decide) ?_
  refine lv_istore_n hx hb dX6_menIn_1 rfl hl (by decide) (lv' := [(3, .int (0 : Int32)), (0, .ref (gg_o g 0)), (1, .int x1), (2, .int x2)]) rfl (fun ls hl => ?_)
  refine lv_iconst (v := 0) hx hb dX6_menIn_2 (by decide) ?_
  refine lv_istore hx hb dX6_menIn_3 hl (by decide) (lv' := [(4, .int (0 : Int32)), (3, .int (0 : Int32)), (0, .ref (gg_o g 0)), (1, .int x1), (2, .int x2)]) rfl (fun ls hl => ?_)
  have L5 : ∀ (x1 : Int32) (x2 : Int32) (aft5 : Int32 → Option (Int32)), (∀ v : Int32, aft5 v = some q → (some v : Option (Int32)).bind some = some q) → ∀ (n5 : Nat) (ls : Array Slot) (H : Heap) (locs : List Loc) (z5 : Int32 × Int32), lv_has ls 5 [(0, .ref (gg_o g 0)), (1, .int x1), (2, .int x2), (3, .int z5.1), (4, .int z5.2)] → HH wd_M g s S H locs → (iter (f_X6_menIn_L5  S x1 x2) n5 z5).bind aft5 = some q → W p l e rm_X6_menIn s m args below meth c H locs 0 0 (MQ below (qc_i wd_M g S q) args s 0 0 (aw g)) (F0 m 5 ls []) := by
    intro x1 x2 aft5 hR5 n5
    induction n5 with
    | zero => intro ls H locs z5 hl hw hf; exact h_iter0 hf
    | succ n5 ih5 =>
      intro ls H locs z5 hl hw hf
      replace hf := h_iter hf
      unfold f_X6_menIn_L5 at hf
      refine lv_iload hx hb dX6_menIn_5 (lv_at hl 4 rfl) ?_
      refine lv_aload_n hx hb dX6_menIn_7 rfl (lv_at hl 0 rfl) ?_
      refine gf_X6_61 cx hw hM dX6_menIn_8 ?_
      refine lv_aload_n hx hb dX6_menIn_11 rfl (lv_at hl 0 rfl) ?_
      refine gf_X6_257 cx hw hM dX6_menIn_12 ?_
      refine r_iald cx hw (hM.2.2.1 28 rfl) rfl rfl hf dX6_menIn_15 (fun hf => ?_)
      refine lv_icmp_ge hx hb dX6_menIn_16 (tgt := 48) rfl (fun hc1 => ?_) (fun hc1 => ?_)
      · replace hf := h_pos hc1 hf
        refine lv_iload_n hx hb dX6_menIn_48 rfl (lv_at hl 3 rfl) ?_
        replace hf := hR5 z5.1 hf
        exact r_iret cx hw hr hlk hf dX6_menIn_49
      replace hf := h_neg hc1 hf
      refine lv_aload_n hx hb dX6_menIn_19 rfl (lv_at hl 0 rfl) ?_
      refine gf_X6_131 cx hw hM dX6_menIn_20 ?_
      refine lv_bipush (v := 36) hx hb dX6_menIn_23 (by decide) ?_
      refine lv_iload_n hx hb dX6_menIn_25 rfl (lv_at hl 2 rfl) ?_
      refine lv_imul hx hb dX6_menIn_26 ?_
      refine lv_iload hx hb dX6_menIn_27 (lv_at hl 4 rfl) ?_
      refine lv_iadd hx hb dX6_menIn_29 ?_
      refine r_iald cx hw (hM.2.2.1 56 rfl) rfl rfl hf dX6_menIn_30 (fun hf => ?_)
      refine lv_iload_n hx hb dX6_menIn_31 rfl (lv_at hl 1 rfl) ?_
      refine lv_icmp_ne hx hb dX6_menIn_32 (tgt := 42) rfl (fun hc2 => ?_) (fun hc2 => ?_)
      · replace hf := h_neg hc2 hf
        refine lv_iinc hx hb dX6_menIn_42 hl (k := 4) rfl (congrArg (HAdd.hAdd _) (show Int32.ofInt (1) = 1 by decide)) (by decide) (lv' := [(4, .int (z5.2 + 1)), (0, .ref (gg_o g 0)), (1, .int x1), (2, .int x2), (3, .int z5.1)]) rfl (fun ls hl => ?_)
        refine lv_goto hx hb dX6_menIn_45 (tgt := 5) rfl ?_
        exact ih5 _ _ _ (z5.1, (z5.2 + 1)) (lv_sub hl [1, 2, 3, 4, 0] rfl) hw hf
      replace hf := h_pos hc2 hf
      refine lv_iload_n hx hb dX6_menIn_35 rfl (lv_at hl 3 rfl) ?_
      refine lv_iconst (v := 1) hx hb dX6_menIn_36 (by decide) ?_
      refine lv_iload hx hb dX6_menIn_37 (lv_at hl 4 rfl) ?_
      refine lv_ishl hx hb dX6_menIn_39 ?_
      refine lv_ior hx hb dX6_menIn_40 ?_
      refine r_leti hf (fun u3 hf => ?_)
      refine lv_istore_n hx hb dX6_menIn_41 rfl hl (by decide) (lv' := [(3, .int u3), (0, .ref (gg_o g 0)), (1, .int x1), (2, .int x2), (4, .int z5.2)]) rfl (fun ls hl => ?_)
      refine lv_iinc hx hb dX6_menIn_42 hl (k := 4) rfl (congrArg (HAdd.hAdd _) (show Int32.ofInt (1) = 1 by decide)) (by decide) (lv' := [(4, .int (z5.2 + 1)), (3, .int u3), (0, .ref (gg_o g 0)), (1, .int x1), (2, .int x2)]) rfl (fun ls hl => ?_)
      refine lv_goto hx hb dX6_menIn_45 (tgt := 5) rfl ?_
      exact ih5 _ _ _ (u3, (z5.2 + 1)) (lv_sub hl [2, 3, 4, 1, 0] rfl) hw hf
  exact L5 x1 x2 some (fun v h => h) FU _ _ _ ((0 : Int32), (0 : Int32)) (lv_sub hl [2, 3, 4, 1, 0] rfl) hw hf
theorem dX6_bits_0 : decode cX6_bits 0 = .ok (.iconst 0, 1) := by decide +kernel
theorem dX6_bits_1 : decode cX6_bits 1 = .ok (.istore_n 1, 1) := by decide +kernel
theorem dX6_bits_2 : decode cX6_bits 2 = .ok (.iconst 0, 1) := by decide +kernel
theorem dX6_bits_3 : decode cX6_bits 3 = .ok (.istore_n 2, 1) := by decide +kernel
theorem dX6_bits_4 : decode cX6_bits 4 = .ok (.iload_n 2, 1) := by decide +kernel
theorem dX6_bits_5 : decode cX6_bits 5 = .ok (.bipush 8, 2) := by decide +kernel
theorem dX6_bits_7 : decode cX6_bits 7 = .ok (.if_icmp .ge 17, 3) := by decide +kernel
theorem dX6_bits_10 : decode cX6_bits 10 = .ok (.iload_n 1, 1) := by decide +kernel
theorem dX6_bits_11 : decode cX6_bits 11 = .ok (.iload_n 0, 1) := by decide +kernel
theorem dX6_bits_12 : decode cX6_bits 12 = .ok (.iload_n 2, 1) := by decide +kernel
theorem dX6_bits_13 : decode cX6_bits 13 = .ok (.ishr, 1) := by decide +kernel
theorem dX6_bits_14 : decode cX6_bits 14 = .ok (.iconst 1, 1) := by decide +kernel
theorem dX6_bits_15 : decode cX6_bits 15 = .ok (.iand, 1) := by decide +kernel
theorem dX6_bits_16 : decode cX6_bits 16 = .ok (.iadd, 1) := by decide +kernel
theorem dX6_bits_17 : decode cX6_bits 17 = .ok (.istore_n 1, 1) := by decide +kernel
theorem dX6_bits_18 : decode cX6_bits 18 = .ok (.iinc 2 1, 3) := by decide +kernel
theorem dX6_bits_21 : decode cX6_bits 21 = .ok (.goto (-17), 3) := by decide +kernel
theorem dX6_bits_24 : decode cX6_bits 24 = .ok (.iload_n 1, 1) := by decide +kernel
theorem dX6_bits_25 : decode cX6_bits 25 = .ok (.ireturn, 1) := by decide +kernel
abbrev rm_X6_bits : Room := { frames := 0, cells := 0, slots := 0, locals := 0 }
def f_X6_bits_L4 (x0 : Int32) (z4 : Int32 × Int32) : Option ((Int32 × Int32) ⊕ (Int32)) :=
  if (8 : Int32) ≤ z4.2 then (some (.inr z4.1)) else (lt_v (z4.1 + ((x0 >>> (z4.2 &&& 31)) &&& (1 : Int32))) (fun (u2 : Int32) => some (.inl (u2, (z4.2 + 1)))))
def f_X6_bits (x0 : Int32) : Option (Int32) :=
  iter (f_X6_bits_L4   x0) FU ((0 : Int32), (0 : Int32))
set_option maxRecDepth 100000 in
set_option maxHeartbeats 4000000 in
theorem k_X6_bits (l : Launch) (g : GG) (hg : gd wd_M g)  (S : St) (x0 : Int32) (q : Int32) (hf : f_X6_bits   x0 = some q) : Met l yX6_bits (Cond.code yX6_bits cX6_bits 3 (some .int) :: gw_tbl) rm_X6_bits (va_Pc [.int x0] (wI wd_M g S)) (qc_i wd_M g S q) 0 0 (aw g) := by
  refine mt_start (own := RX6) hg (by decide) rfl (Nat.le_of_ble_eq_true rfl) (fun p e s m args below meth c ls H locs cx hw hr hlk hl => ?_)
  have hx := cx.1
  have hb := cx.2.1
  have hown := cx.2.2.2.1
  have hts := cx.2.2.2.2.1
  have hl : lv_has ls 3 [(0, .int x0)] := hl
  replace hf := h_top hf
  unfold f_X6_bits at hf
  refine lv_iconst (v := 0) hx hb dX6_bits_0 (by decide) ?_
  refine lv_istore_n hx hb dX6_bits_1 rfl hl (by decide) (lv' := [(1, .int (0 : Int32)), (0, .int x0)]) rfl (fun ls hl => ?_)
  refine lv_iconst (v := 0) hx hb dX6_bits_2 (by decide) ?_
  refine lv_istore_n hx hb dX6_bits_3 rfl hl (by decide) (lv' := [(2, .int (0 : Int32)), (1, .int (0 : Int32)), (0, .int x0)]) rfl (fun ls hl => ?_)
  have L4 : ∀ (x0 : Int32) (aft4 : Int32 → Option (Int32)), (∀ v : Int32, aft4 v = some q → (some v : Option (Int32)).bind some = some q) → ∀ (n4 : Nat) (ls : Array Slot) (H : Heap) (locs : List Loc) (z4 : Int32 × Int32), lv_has ls 3 [(0, .int x0), (1, .int z4.1), (2, .int z4.2)] → HH wd_M g s S H locs → (iter (f_X6_bits_L4   x0) n4 z4).bind aft4 = some q → W p l e rm_X6_bits s m args below meth c H locs 0 0 (MQ below (qc_i wd_M g S q) args s 0 0 (aw g)) (F0 m 4 ls []) := by
    intro x0 aft4 hR4 n4
    induction n4 with
    | zero => intro ls H locs z4 hl hw hf; exact h_iter0 hf
    | succ n4 ih4 =>
      intro ls H locs z4 hl hw hf
      replace hf := h_iter hf
      unfold f_X6_bits_L4 at hf
      refine lv_iload_n hx hb dX6_bits_4 rfl (lv_at hl 2 rfl) ?_
      refine lv_bipush (v := 8) hx hb dX6_bits_5 (by decide) ?_
      refine lv_icmp_ge hx hb dX6_bits_7 (tgt := 24) rfl (fun hc1 => ?_) (fun hc1 => ?_)
      · replace hf := h_pos hc1 hf
        refine lv_iload_n hx hb dX6_bits_24 rfl (lv_at hl 1 rfl) ?_
        replace hf := hR4 z4.1 hf
        exact r_iret cx hw hr hlk hf dX6_bits_25
      replace hf := h_neg hc1 hf
      refine lv_iload_n hx hb dX6_bits_10 rfl (lv_at hl 1 rfl) ?_
      refine lv_iload_n hx hb dX6_bits_11 rfl (lv_at hl 0 rfl) ?_
      refine lv_iload_n hx hb dX6_bits_12 rfl (lv_at hl 2 rfl) ?_
      refine lv_ishr hx hb dX6_bits_13 ?_
      refine lv_iconst (v := 1) hx hb dX6_bits_14 (by decide) ?_
      refine lv_iand hx hb dX6_bits_15 ?_
      refine lv_iadd hx hb dX6_bits_16 ?_
      refine r_leti hf (fun u2 hf => ?_)
      refine lv_istore_n hx hb dX6_bits_17 rfl hl (by decide) (lv' := [(1, .int u2), (0, .int x0), (2, .int z4.2)]) rfl (fun ls hl => ?_)
      refine lv_iinc hx hb dX6_bits_18 hl (k := 2) rfl (congrArg (HAdd.hAdd _) (show Int32.ofInt (1) = 1 by decide)) (by decide) (lv' := [(2, .int (z4.2 + 1)), (1, .int u2), (0, .int x0)]) rfl (fun ls hl => ?_)
      refine lv_goto hx hb dX6_bits_21 (tgt := 4) rfl ?_
      exact ih4 _ _ _ (u2, (z4.2 + 1)) (lv_sub hl [2, 1, 0] rfl) hw hf
  exact L4 x0 some (fun v h => h) FU _ _ _ ((0 : Int32), (0 : Int32)) (lv_sub hl [2, 1, 0] rfl) hw hf
theorem dX6_termOf_0 : decode cX6_termOf 0 = .ok (.iconst 0, 1) := by decide +kernel
theorem dX6_termOf_1 : decode cX6_termOf 1 = .ok (.istore_n 3, 1) := by decide +kernel
theorem dX6_termOf_2 : decode cX6_termOf 2 = .ok (.iload_n 1, 1) := by decide +kernel
theorem dX6_termOf_3 : decode cX6_termOf 3 = .ok (.istore 4, 2) := by decide +kernel
theorem dX6_termOf_5 : decode cX6_termOf 5 = .ok (.iload 4, 2) := by decide +kernel
theorem dX6_termOf_7 : decode cX6_termOf 7 = .ok (.iload_n 2, 1) := by decide +kernel
theorem dX6_termOf_8 : decode cX6_termOf 8 = .ok (.if_icmp .ge 157, 3) := by decide +kernel
theorem dX6_termOf_11 : decode cX6_termOf 11 = .ok (.aload_n 0, 1) := by decide +kernel
theorem dX6_termOf_12 : decode cX6_termOf 12 = .ok (.getfield 107, 3) := by decide +kernel
theorem dX6_termOf_15 : decode cX6_termOf 15 = .ok (.iload 4, 2) := by decide +kernel
theorem dX6_termOf_17 : decode cX6_termOf 17 = .ok (.iaload, 1) := by decide +kernel
theorem dX6_termOf_18 : decode cX6_termOf 18 = .ok (.istore 5, 2) := by decide +kernel
theorem dX6_termOf_20 : decode cX6_termOf 20 = .ok (.iload 5, 2) := by decide +kernel
theorem dX6_termOf_22 : decode cX6_termOf 22 = .ok (.iconst 2, 1) := by decide +kernel
theorem dX6_termOf_23 : decode cX6_termOf 23 = .ok (.if_icmp .ge 42, 3) := by decide +kernel
theorem dX6_termOf_26 : decode cX6_termOf 26 = .ok (.aload_n 0, 1) := by decide +kernel
theorem dX6_termOf_27 : decode cX6_termOf 27 = .ok (.getfield 119, 3) := by decide +kernel
theorem dX6_termOf_30 : decode cX6_termOf 30 = .ok (.iload_n 3, 1) := by decide +kernel
theorem dX6_termOf_31 : decode cX6_termOf 31 = .ok (.iload 5, 2) := by decide +kernel
theorem dX6_termOf_33 : decode cX6_termOf 33 = .ok (.ifCond .ne 13, 3) := by decide +kernel
theorem dX6_termOf_36 : decode cX6_termOf 36 = .ok (.aload_n 0, 1) := by decide +kernel
theorem dX6_termOf_37 : decode cX6_termOf 37 = .ok (.getfield 110, 3) := by decide +kernel
theorem dX6_termOf_40 : decode cX6_termOf 40 = .ok (.iload 4, 2) := by decide +kernel
theorem dX6_termOf_42 : decode cX6_termOf 42 = .ok (.iaload, 1) := by decide +kernel
theorem dX6_termOf_43 : decode cX6_termOf 43 = .ok (.goto 15, 3) := by decide +kernel
theorem dX6_termOf_46 : decode cX6_termOf 46 = .ok (.aload_n 0, 1) := by decide +kernel
theorem dX6_termOf_47 : decode cX6_termOf 47 = .ok (.getfield 116, 3) := by decide +kernel
theorem dX6_termOf_50 : decode cX6_termOf 50 = .ok (.aload_n 0, 1) := by decide +kernel
theorem dX6_termOf_51 : decode cX6_termOf 51 = .ok (.getfield 110, 3) := by decide +kernel
theorem dX6_termOf_54 : decode cX6_termOf 54 = .ok (.iload 4, 2) := by decide +kernel
theorem dX6_termOf_56 : decode cX6_termOf 56 = .ok (.iaload, 1) := by decide +kernel
theorem dX6_termOf_57 : decode cX6_termOf 57 = .ok (.iaload, 1) := by decide +kernel
theorem dX6_termOf_58 : decode cX6_termOf 58 = .ok (.iastore, 1) := by decide +kernel
theorem dX6_termOf_59 : decode cX6_termOf 59 = .ok (.iinc 3 1, 3) := by decide +kernel
theorem dX6_termOf_62 : decode cX6_termOf 62 = .ok (.goto 97, 3) := by decide +kernel
theorem dX6_termOf_65 : decode cX6_termOf 65 = .ok (.iinc 3 (-1), 3) := by decide +kernel
theorem dX6_termOf_68 : decode cX6_termOf 68 = .ok (.aload_n 0, 1) := by decide +kernel
theorem dX6_termOf_69 : decode cX6_termOf 69 = .ok (.getfield 119, 3) := by decide +kernel
theorem dX6_termOf_72 : decode cX6_termOf 72 = .ok (.iload_n 3, 1) := by decide +kernel
theorem dX6_termOf_73 : decode cX6_termOf 73 = .ok (.iconst 1, 1) := by decide +kernel
theorem dX6_termOf_74 : decode cX6_termOf 74 = .ok (.isub, 1) := by decide +kernel
theorem dX6_termOf_75 : decode cX6_termOf 75 = .ok (.iaload, 1) := by decide +kernel
theorem dX6_termOf_76 : decode cX6_termOf 76 = .ok (.istore 6, 2) := by decide +kernel
theorem dX6_termOf_78 : decode cX6_termOf 78 = .ok (.aload_n 0, 1) := by decide +kernel
theorem dX6_termOf_79 : decode cX6_termOf 79 = .ok (.getfield 119, 3) := by decide +kernel
theorem dX6_termOf_82 : decode cX6_termOf 82 = .ok (.iload_n 3, 1) := by decide +kernel
theorem dX6_termOf_83 : decode cX6_termOf 83 = .ok (.iaload, 1) := by decide +kernel
theorem dX6_termOf_84 : decode cX6_termOf 84 = .ok (.istore 7, 2) := by decide +kernel
theorem dX6_termOf_86 : decode cX6_termOf 86 = .ok (.iload 5, 2) := by decide +kernel
theorem dX6_termOf_88 : decode cX6_termOf 88 = .ok (.iconst 5, 1) := by decide +kernel
theorem dX6_termOf_89 : decode cX6_termOf 89 = .ok (.if_icmp .ne 15, 3) := by decide +kernel
theorem dX6_termOf_92 : decode cX6_termOf 92 = .ok (.iload 7, 2) := by decide +kernel
theorem dX6_termOf_94 : decode cX6_termOf 94 = .ok (.ifCond .ne 10, 3) := by decide +kernel
theorem dX6_termOf_97 : decode cX6_termOf 97 = .ok (.aload_n 0, 1) := by decide +kernel
theorem dX6_termOf_98 : decode cX6_termOf 98 = .ok (.iconst 1, 1) := by decide +kernel
theorem dX6_termOf_99 : decode cX6_termOf 99 = .ok (.putfield 337, 3) := by decide +kernel
theorem dX6_termOf_102 : decode cX6_termOf 102 = .ok (.iconst 0, 1) := by decide +kernel
theorem dX6_termOf_103 : decode cX6_termOf 103 = .ok (.ireturn, 1) := by decide +kernel
theorem dX6_termOf_104 : decode cX6_termOf 104 = .ok (.aload_n 0, 1) := by decide +kernel
theorem dX6_termOf_105 : decode cX6_termOf 105 = .ok (.getfield 119, 3) := by decide +kernel
theorem dX6_termOf_108 : decode cX6_termOf 108 = .ok (.iload_n 3, 1) := by decide +kernel
theorem dX6_termOf_109 : decode cX6_termOf 109 = .ok (.iconst 1, 1) := by decide +kernel
theorem dX6_termOf_110 : decode cX6_termOf 110 = .ok (.isub, 1) := by decide +kernel
theorem dX6_termOf_111 : decode cX6_termOf 111 = .ok (.iload 5, 2) := by decide +kernel
theorem dX6_termOf_113 : decode cX6_termOf 113 = .ok (.iconst 2, 1) := by decide +kernel
theorem dX6_termOf_114 : decode cX6_termOf 114 = .ok (.if_icmp .ne 11, 3) := by decide +kernel
theorem dX6_termOf_117 : decode cX6_termOf 117 = .ok (.iload 6, 2) := by decide +kernel
theorem dX6_termOf_119 : decode cX6_termOf 119 = .ok (.iload 7, 2) := by decide +kernel
theorem dX6_termOf_121 : decode cX6_termOf 121 = .ok (.iadd, 1) := by decide +kernel
theorem dX6_termOf_122 : decode cX6_termOf 122 = .ok (.goto 36, 3) := by decide +kernel
theorem dX6_termOf_125 : decode cX6_termOf 125 = .ok (.iload 5, 2) := by decide +kernel
theorem dX6_termOf_127 : decode cX6_termOf 127 = .ok (.iconst 3, 1) := by decide +kernel
theorem dX6_termOf_128 : decode cX6_termOf 128 = .ok (.if_icmp .ne 11, 3) := by decide +kernel
theorem dX6_termOf_131 : decode cX6_termOf 131 = .ok (.iload 6, 2) := by decide +kernel
theorem dX6_termOf_133 : decode cX6_termOf 133 = .ok (.iload 7, 2) := by decide +kernel
theorem dX6_termOf_135 : decode cX6_termOf 135 = .ok (.isub, 1) := by decide +kernel
theorem dX6_termOf_136 : decode cX6_termOf 136 = .ok (.goto 22, 3) := by decide +kernel
theorem dX6_termOf_139 : decode cX6_termOf 139 = .ok (.iload 5, 2) := by decide +kernel
theorem dX6_termOf_141 : decode cX6_termOf 141 = .ok (.iconst 4, 1) := by decide +kernel
theorem dX6_termOf_142 : decode cX6_termOf 142 = .ok (.if_icmp .ne 11, 3) := by decide +kernel
theorem dX6_termOf_145 : decode cX6_termOf 145 = .ok (.iload 6, 2) := by decide +kernel
theorem dX6_termOf_147 : decode cX6_termOf 147 = .ok (.iload 7, 2) := by decide +kernel
theorem dX6_termOf_149 : decode cX6_termOf 149 = .ok (.imul, 1) := by decide +kernel
theorem dX6_termOf_150 : decode cX6_termOf 150 = .ok (.goto 8, 3) := by decide +kernel
theorem dX6_termOf_153 : decode cX6_termOf 153 = .ok (.iload 6, 2) := by decide +kernel
theorem dX6_termOf_155 : decode cX6_termOf 155 = .ok (.iload 7, 2) := by decide +kernel
theorem dX6_termOf_157 : decode cX6_termOf 157 = .ok (.idiv, 1) := by decide +kernel
theorem dX6_termOf_158 : decode cX6_termOf 158 = .ok (.iastore, 1) := by decide +kernel
theorem dX6_termOf_159 : decode cX6_termOf 159 = .ok (.iinc 4 1, 3) := by decide +kernel
theorem dX6_termOf_162 : decode cX6_termOf 162 = .ok (.goto (-157), 3) := by decide +kernel
theorem dX6_termOf_165 : decode cX6_termOf 165 = .ok (.aload_n 0, 1) := by decide +kernel
theorem dX6_termOf_166 : decode cX6_termOf 166 = .ok (.getfield 119, 3) := by decide +kernel
theorem dX6_termOf_169 : decode cX6_termOf 169 = .ok (.iconst 0, 1) := by decide +kernel
theorem dX6_termOf_170 : decode cX6_termOf 170 = .ok (.iaload, 1) := by decide +kernel
theorem dX6_termOf_171 : decode cX6_termOf 171 = .ok (.ireturn, 1) := by decide +kernel
abbrev rm_X6_termOf : Room := { frames := 0, cells := 0, slots := 0, locals := 0 }
def f_X6_termOf_J158 (S : St) (x2 : Int32) (x3 : Int32) (x4 : Int32) (y0 : Int32) (y1 : Int32) : Option ((Int32 × Int32 × St) ⊕ ((St) ⊕ (Int32 × St))) :=
  chk (ib y1 400) (lt_v (up_A S (ky 0 50) (upd (st_A S (ky 0 50)) y1.toNatClampNeg y0)) (fun (S11 : St) => some (.inl (x3, (x4 + 1), S11))))
def f_X6_termOf_J104 (S : St) (x2 : Int32) (x3 : Int32) (x4 : Int32) (x5 : Int32) (x6 : Int32) (x7 : Int32) : Option ((Int32 × Int32 × St) ⊕ ((St) ⊕ (Int32 × St))) :=
  if x5 = (2 : Int32) then (f_X6_termOf_J158  S x2 x3 x4 (x6 + x7) (x3 - (1 : Int32))) else (if x5 = (3 : Int32) then (f_X6_termOf_J158  S x2 x3 x4 (x6 - x7) (x3 - (1 : Int32))) else (if x5 = (4 : Int32) then (f_X6_termOf_J158  S x2 x3 x4 (x6 * x7) (x3 - (1 : Int32))) else (chk (¬ x7 = 0) (f_X6_termOf_J158  S x2 x3 x4 (x6 / x7) (x3 - (1 : Int32))))))
def f_X6_termOf_J58 (S : St) (x2 : Int32) (x3 : Int32) (x4 : Int32) (y0 : Int32) (y1 : Int32) : Option ((Int32 × Int32 × St) ⊕ ((St) ⊕ (Int32 × St))) :=
  chk (ib y1 400) (lt_v (up_A S (ky 0 50) (upd (st_A S (ky 0 50)) y1.toNatClampNeg y0)) (fun (S15 : St) => some (.inl ((x3 + 1), (x4 + 1), S15))))
def f_X6_termOf_L5 (x2 : Int32) (z5 : Int32 × Int32 × St) : Option ((Int32 × Int32 × St) ⊕ ((St) ⊕ (Int32 × St))) :=
  if x2 ≤ z5.2.1 then (some (.inr (.inl z5.2.2))) else (chk (ib z5.2.1 840) (lt_v (st_A z5.2.2 (ky 0 45) z5.2.1.toNatClampNeg) (fun (u2 : Int32) => if (2 : Int32) ≤ u2 then (chk (ib ((z5.1 + (-1)) - (1 : Int32)) 400) (lt_v (st_A z5.2.2 (ky 0 50) ((z5.1 + (-1)) - (1 : Int32)).toNatClampNeg) (fun (u4 : Int32) => chk (ib (z5.1 + (-1)) 400) (lt_v (st_A z5.2.2 (ky 0 50) (z5.1 + (-1)).toNatClampNeg) (fun (u5 : Int32) => if u2 = (5 : Int32) then (if u5 = 0 then (lt_v (up_I z5.2.2 (ky 0 51) (1 : Int32)) (fun (S13 : St) => some (.inr (.inr ((0 : Int32), S13))))) else (f_X6_termOf_J104  z5.2.2 x2 (z5.1 + (-1)) z5.2.1 u2 u4 u5)) else (f_X6_termOf_J104  z5.2.2 x2 (z5.1 + (-1)) z5.2.1 u2 u4 u5)))))) else (if u2 = 0 then (chk (ib z5.2.1 840) (f_X6_termOf_J58  z5.2.2 x2 z5.1 z5.2.1 (st_A z5.2.2 (ky 0 46) z5.2.1.toNatClampNeg) z5.1)) else (chk (ib z5.2.1 840) (chk (ib (st_A z5.2.2 (ky 0 46) z5.2.1.toNatClampNeg) 6) (f_X6_termOf_J58  z5.2.2 x2 z5.1 z5.2.1 (st_A z5.2.2 (ky 0 49) (st_A z5.2.2 (ky 0 46) z5.2.1.toNatClampNeg).toNatClampNeg) z5.1)))))))
def f_X6_termOf (S : St) (x1 : Int32) (x2 : Int32) : Option (Int32 × St) :=
  (iter (f_X6_termOf_L5   x2) FU ((0 : Int32), x1, S)).bind fun z => match z with | .inl z => (fun (S16 : St) => chk (ib (0 : Int32) 400) (some ((st_A S16 (ky 0 50) (0 : Int32).toNatClampNeg), S16))) z | .inr v18 => some v18
set_option maxRecDepth 100000 in
set_option maxHeartbeats 4000000 in
theorem k_X6_termOf (l : Launch) (g : GG) (hg : gd wd_M g)  (hM : hs wd_M g 0 6) (S : St) (x1 : Int32) (x2 : Int32) (q : Int32 × St) (hf : f_X6_termOf  S x1 x2 = some q) : Met l yX6_termOf (Cond.code yX6_termOf cX6_termOf 8 (some .int) :: gw_tbl) rm_X6_termOf (va_Pc [.ref (gg_o g 0), .int x1, .int x2] (wI wd_M g S)) (qc_w wd_M g q) 0 0 (aw g) := by
  refine mt_start (own := RX6) hg (by decide) rfl (Nat.le_of_ble_eq_true rfl) (fun p e s m args below meth c ls H locs cx hw hr hlk hl => ?_)
  have hx := cx.1
  have hb := cx.2.1
  have hown := cx.2.2.2.1
  have hts := cx.2.2.2.2.1
  have hl : lv_has ls 8 [(0, .ref (gg_o g 0)), (1, .int x1), (2, .int x2)] := hl
  replace hf := h_top hf
  unfold f_X6_termOf at hf
  refine lv_iconst (v := 0) hx hb dX6_termOf_0 (by decide) ?_
  refine lv_istore_n hx hb dX6_termOf_1 rfl hl (by decide) (lv' := [(3, .int (0 : Int32)), (0, .ref (gg_o g 0)), (1, .int x1), (2, .int x2)]) rfl (fun ls hl => ?_)
  refine lv_iload_n hx hb dX6_termOf_2 rfl (lv_at hl 2 rfl) ?_
  refine lv_istore hx hb dX6_termOf_3 hl (by decide) (lv' := [(4, .int x1), (3, .int (0 : Int32)), (0, .ref (gg_o g 0)), (1, .int x1), (2, .int x2)]) rfl (fun ls hl => ?_)
  have L5 : ∀ (x2 : Int32) (aft5 : ((St) ⊕ (Int32 × St)) → Option (Int32 × St)), (∀ (ls : Array Slot) (H : Heap) (locs : List Loc) (S1 : St), lv_has ls 8 [(0, .ref (gg_o g 0))] → HH wd_M g s S1 H locs → aft5 (.inl S1) = some q → W p l e rm_X6_termOf s m args below meth c H locs 0 0 (MQ below (qc_w wd_M g q) args s 0 0 (aw g)) (F0 m 165 ls [])) → (∀ v : Int32 × St, aft5 (.inr v) = some q → (some v : Option (Int32 × St)).bind some = some q) → ∀ (n5 : Nat) (ls : Array Slot) (H : Heap) (locs : List Loc) (z5 : Int32 × Int32 × St), lv_has ls 8 [(0, .ref (gg_o g 0)), (2, .int x2), (3, .int z5.1), (4, .int z5.2.1)] → HH wd_M g s z5.2.2 H locs → (iter (f_X6_termOf_L5   x2) n5 z5).bind aft5 = some q → W p l e rm_X6_termOf s m args below meth c H locs 0 0 (MQ below (qc_w wd_M g q) args s 0 0 (aw g)) (F0 m 5 ls []) := by
    intro x2 aft5 hX5 hR5 n5
    induction n5 with
    | zero => intro ls H locs z5 hl hw hf; exact h_iter0 hf
    | succ n5 ih5 =>
      intro ls H locs z5 hl hw hf
      replace hf := h_iter hf
      unfold f_X6_termOf_L5 at hf
      have J158 : ∀ (ls : Array Slot) (H : Heap) (locs : List Loc) (S : St) (x3 : Int32) (x4 : Int32) (y0 : Int32) (y1 : Int32), lv_has ls 8 [(0, .ref (gg_o g 0)), (2, .int x2), (3, .int x3), (4, .int x4)] → HH wd_M g s S H locs → (f_X6_termOf_J158  S x2 x3 x4 y0 y1).bind (it_K (f_X6_termOf_L5   x2) n5 aft5) = some q → W p l e rm_X6_termOf s m args below meth c H locs 0 0 (MQ below (qc_w wd_M g q) args s 0 0 (aw g)) (F0 m 158 ls [.int y0, .int y1, .ref (gg_a g (ky 0 50))]) := by
        intro ls H locs S x3 x4 y0 y1 hl hw hf
        unfold f_X6_termOf_J158 at hf
        refine r_iast cx hw (hM.2.2.1 50 rfl) rfl rfl hf dX6_termOf_158 (fun S11 H locs hw hf => ?_)
        refine lv_iinc hx hb dX6_termOf_159 hl (k := 3) rfl (congrArg (HAdd.hAdd _) (show Int32.ofInt (1) = 1 by decide)) (by decide) (lv' := [(4, .int (x4 + 1)), (0, .ref (gg_o g 0)), (2, .int x2), (3, .int x3)]) rfl (fun ls hl => ?_)
        refine lv_goto hx hb dX6_termOf_162 (tgt := 5) rfl ?_
        exact ih5 _ _ _ (x3, (x4 + 1), S11) (lv_sub hl [1, 2, 3, 0] rfl) hw hf
      have J104 : ∀ (ls : Array Slot) (H : Heap) (locs : List Loc) (S : St) (x3 : Int32) (x4 : Int32) (x5 : Int32) (x6 : Int32) (x7 : Int32), lv_has ls 8 [(0, .ref (gg_o g 0)), (2, .int x2), (3, .int x3), (4, .int x4), (5, .int x5), (6, .int x6), (7, .int x7)] → HH wd_M g s S H locs → (f_X6_termOf_J104  S x2 x3 x4 x5 x6 x7).bind (it_K (f_X6_termOf_L5   x2) n5 aft5) = some q → W p l e rm_X6_termOf s m args below meth c H locs 0 0 (MQ below (qc_w wd_M g q) args s 0 0 (aw g)) (F0 m 104 ls []) := by
        intro ls H locs S x3 x4 x5 x6 x7 hl hw hf
        unfold f_X6_termOf_J104 at hf
        refine lv_aload_n hx hb dX6_termOf_104 rfl (lv_at hl 0 rfl) ?_
        refine gf_X6_119 cx hw hM dX6_termOf_105 ?_
        refine lv_iload_n hx hb dX6_termOf_108 rfl (lv_at hl 2 rfl) ?_
        refine lv_iconst (v := 1) hx hb dX6_termOf_109 (by decide) ?_
        refine lv_isub hx hb dX6_termOf_110 ?_
        refine lv_iload hx hb dX6_termOf_111 (lv_at hl 4 rfl) ?_
        refine lv_iconst (v := 2) hx hb dX6_termOf_113 (by decide) ?_
        refine lv_icmp_ne hx hb dX6_termOf_114 (tgt := 125) rfl (fun hc7 => ?_) (fun hc7 => ?_)
        · replace hf := h_neg hc7 hf
          refine lv_iload hx hb dX6_termOf_125 (lv_at hl 4 rfl) ?_
          refine lv_iconst (v := 3) hx hb dX6_termOf_127 (by decide) ?_
          refine lv_icmp_ne hx hb dX6_termOf_128 (tgt := 139) rfl (fun hc8 => ?_) (fun hc8 => ?_)
          · replace hf := h_neg hc8 hf
            refine lv_iload hx hb dX6_termOf_139 (lv_at hl 4 rfl) ?_
            refine lv_iconst (v := 4) hx hb dX6_termOf_141 (by decide) ?_
            refine lv_icmp_ne hx hb dX6_termOf_142 (tgt := 153) rfl (fun hc9 => ?_) (fun hc9 => ?_)
            · replace hf := h_neg hc9 hf
              refine lv_iload hx hb dX6_termOf_153 (lv_at hl 5 rfl) ?_
              refine lv_iload hx hb dX6_termOf_155 (lv_at hl 6 rfl) ?_
              obtain ⟨hc10, hf⟩ := h_chk hf
              refine lv_idiv hx hb dX6_termOf_157 hc10 ?_
              exact J158 _ _ _ S x3 x4 (x6 / x7) (x3 - (1 : Int32)) (lv_sub hl [0, 1, 2, 3] rfl) hw hf
            replace hf := h_pos hc9 hf
            refine lv_iload hx hb dX6_termOf_145 (lv_at hl 5 rfl) ?_
            refine lv_iload hx hb dX6_termOf_147 (lv_at hl 6 rfl) ?_
            refine lv_imul hx hb dX6_termOf_149 ?_
            refine lv_goto hx hb dX6_termOf_150 (tgt := 158) rfl ?_
            exact J158 _ _ _ S x3 x4 (x6 * x7) (x3 - (1 : Int32)) (lv_sub hl [0, 1, 2, 3] rfl) hw hf
          replace hf := h_pos hc8 hf
          refine lv_iload hx hb dX6_termOf_131 (lv_at hl 5 rfl) ?_
          refine lv_iload hx hb dX6_termOf_133 (lv_at hl 6 rfl) ?_
          refine lv_isub hx hb dX6_termOf_135 ?_
          refine lv_goto hx hb dX6_termOf_136 (tgt := 158) rfl ?_
          exact J158 _ _ _ S x3 x4 (x6 - x7) (x3 - (1 : Int32)) (lv_sub hl [0, 1, 2, 3] rfl) hw hf
        replace hf := h_pos hc7 hf
        refine lv_iload hx hb dX6_termOf_117 (lv_at hl 5 rfl) ?_
        refine lv_iload hx hb dX6_termOf_119 (lv_at hl 6 rfl) ?_
        refine lv_iadd hx hb dX6_termOf_121 ?_
        refine lv_goto hx hb dX6_termOf_122 (tgt := 158) rfl ?_
        exact J158 _ _ _ S x3 x4 (x6 + x7) (x3 - (1 : Int32)) (lv_sub hl [0, 1, 2, 3] rfl) hw hf
      have J58 : ∀ (ls : Array Slot) (H : Heap) (locs : List Loc) (S : St) (x3 : Int32) (x4 : Int32) (y0 : Int32) (y1 : Int32), lv_has ls 8 [(0, .ref (gg_o g 0)), (2, .int x2), (3, .int x3), (4, .int x4)] → HH wd_M g s S H locs → (f_X6_termOf_J58  S x2 x3 x4 y0 y1).bind (it_K (f_X6_termOf_L5   x2) n5 aft5) = some q → W p l e rm_X6_termOf s m args below meth c H locs 0 0 (MQ below (qc_w wd_M g q) args s 0 0 (aw g)) (F0 m 58 ls [.int y0, .int y1, .ref (gg_a g (ky 0 50))]) := by
        intro ls H locs S x3 x4 y0 y1 hl hw hf
        unfold f_X6_termOf_J58 at hf
        refine r_iast cx hw (hM.2.2.1 50 rfl) rfl rfl hf dX6_termOf_58 (fun S15 H locs hw hf => ?_)
        refine lv_iinc hx hb dX6_termOf_59 hl (k := 2) rfl (congrArg (HAdd.hAdd _) (show Int32.ofInt (1) = 1 by decide)) (by decide) (lv' := [(3, .int (x3 + 1)), (0, .ref (gg_o g 0)), (2, .int x2), (4, .int x4)]) rfl (fun ls hl => ?_)
        refine lv_goto hx hb dX6_termOf_62 (tgt := 159) rfl ?_
        refine lv_iinc hx hb dX6_termOf_159 hl (k := 3) rfl (congrArg (HAdd.hAdd _) (show Int32.ofInt (1) = 1 by decide)) (by decide) (lv' := [(4, .int (x4 + 1)), (3, .int (x3 + 1)), (0, .ref (gg_o g 0)), (2, .int x2)]) rfl (fun ls hl => ?_)
        refine lv_goto hx hb dX6_termOf_162 (tgt := 5) rfl ?_
        exact ih5 _ _ _ ((x3 + 1), (x4 + 1), S15) (lv_sub hl [2, 3, 1, 0] rfl) hw hf
      refine lv_iload hx hb dX6_termOf_5 (lv_at hl 3 rfl) ?_
      refine lv_iload_n hx hb dX6_termOf_7 rfl (lv_at hl 1 rfl) ?_
      refine lv_icmp_ge hx hb dX6_termOf_8 (tgt := 165) rfl (fun hc1 => ?_) (fun hc1 => ?_)
      · replace hf := h_pos hc1 hf
        exact hX5 _ _ _ z5.2.2 (lv_sub hl [0] rfl) hw hf
      replace hf := h_neg hc1 hf
      refine lv_aload_n hx hb dX6_termOf_11 rfl (lv_at hl 0 rfl) ?_
      refine gf_X6_107 cx hw hM dX6_termOf_12 ?_
      refine lv_iload hx hb dX6_termOf_15 (lv_at hl 3 rfl) ?_
      refine r_iald cx hw (hM.2.2.1 45 rfl) rfl rfl hf dX6_termOf_17 (fun hf => ?_)
      refine r_leti hf (fun u2 hf => ?_)
      refine lv_istore hx hb dX6_termOf_18 hl (by decide) (lv' := [(5, .int u2), (0, .ref (gg_o g 0)), (2, .int x2), (3, .int z5.1), (4, .int z5.2.1)]) rfl (fun ls hl => ?_)
      refine lv_iload hx hb dX6_termOf_20 (lv_at hl 0 rfl) ?_
      refine lv_iconst (v := 2) hx hb dX6_termOf_22 (by decide) ?_
      refine lv_icmp_ge hx hb dX6_termOf_23 (tgt := 65) rfl (fun hc3 => ?_) (fun hc3 => ?_)
      · replace hf := h_pos hc3 hf
        refine lv_iinc hx hb dX6_termOf_65 hl (k := 3) rfl (congrArg (HAdd.hAdd _) (show Int32.ofInt (-1) = -1 by decide)) (by decide) (lv' := [(3, .int (z5.1 + (-1))), (5, .int u2), (0, .ref (gg_o g 0)), (2, .int x2), (4, .int z5.2.1)]) rfl (fun ls hl => ?_)
        refine lv_aload_n hx hb dX6_termOf_68 rfl (lv_at hl 2 rfl) ?_
        refine gf_X6_119 cx hw hM dX6_termOf_69 ?_
        refine lv_iload_n hx hb dX6_termOf_72 rfl (lv_at hl 0 rfl) ?_
        refine lv_iconst (v := 1) hx hb dX6_termOf_73 (by decide) ?_
        refine lv_isub hx hb dX6_termOf_74 ?_
        refine r_iald cx hw (hM.2.2.1 50 rfl) rfl rfl hf dX6_termOf_75 (fun hf => ?_)
        refine r_leti hf (fun u4 hf => ?_)
        refine lv_istore hx hb dX6_termOf_76 hl (by decide) (lv' := [(6, .int u4), (3, .int (z5.1 + (-1))), (5, .int u2), (0, .ref (gg_o g 0)), (2, .int x2), (4, .int z5.2.1)]) rfl (fun ls hl => ?_)
        refine lv_aload_n hx hb dX6_termOf_78 rfl (lv_at hl 3 rfl) ?_
        refine gf_X6_119 cx hw hM dX6_termOf_79 ?_
        refine lv_iload_n hx hb dX6_termOf_82 rfl (lv_at hl 1 rfl) ?_
        refine r_iald cx hw (hM.2.2.1 50 rfl) rfl rfl hf dX6_termOf_83 (fun hf => ?_)
        refine r_leti hf (fun u5 hf => ?_)
        refine lv_istore hx hb dX6_termOf_84 hl (by decide) (lv' := [(7, .int u5), (6, .int u4), (3, .int (z5.1 + (-1))), (5, .int u2), (0, .ref (gg_o g 0)), (2, .int x2), (4, .int z5.2.1)]) rfl (fun ls hl => ?_)
        refine lv_iload hx hb dX6_termOf_86 (lv_at hl 3 rfl) ?_
        refine lv_iconst (v := 5) hx hb dX6_termOf_88 (by decide) ?_
        refine lv_icmp_ne hx hb dX6_termOf_89 (tgt := 104) rfl (fun hc6 => ?_) (fun hc6 => ?_)
        · replace hf := h_neg hc6 hf
          exact J104 _ _ _ z5.2.2 (z5.1 + (-1)) z5.2.1 u2 u4 u5 (lv_sub hl [4, 5, 2, 6, 3, 1, 0] rfl) hw hf
        replace hf := h_pos hc6 hf
        refine lv_iload hx hb dX6_termOf_92 (lv_at hl 0 rfl) ?_
        refine lv_if_ne hx hb dX6_termOf_94 (tgt := 104) rfl (fun hc12 => ?_) (fun hc12 => ?_)
        · replace hf := h_neg hc12 hf
          exact J104 _ _ _ z5.2.2 (z5.1 + (-1)) z5.2.1 u2 u4 u5 (lv_sub hl [4, 5, 2, 6, 3, 1, 0] rfl) hw hf
        replace hf := h_pos hc12 hf
        refine lv_aload_n hx hb dX6_termOf_97 rfl (lv_at hl 4 rfl) ?_
        refine lv_iconst (v := 1) hx hb dX6_termOf_98 (by decide) ?_
        refine pf_X6_337 cx hw hM (Or.inr rfl) hf dX6_termOf_99 (fun S13 H locs hw hf => ?_)
        refine lv_iconst (v := 0) hx hb dX6_termOf_102 (by decide) ?_
        replace hf := hR5 ((0 : Int32), S13) hf
        exact r_iretw cx hw hr hlk hf dX6_termOf_103
      replace hf := h_neg hc3 hf
      refine lv_aload_n hx hb dX6_termOf_26 rfl (lv_at hl 1 rfl) ?_
      refine gf_X6_119 cx hw hM dX6_termOf_27 ?_
      refine lv_iload_n hx hb dX6_termOf_30 rfl (lv_at hl 3 rfl) ?_
      refine lv_iload hx hb dX6_termOf_31 (lv_at hl 0 rfl) ?_
      refine lv_if_ne hx hb dX6_termOf_33 (tgt := 46) rfl (fun hc14 => ?_) (fun hc14 => ?_)
      · replace hf := h_neg hc14 hf
        refine lv_aload_n hx hb dX6_termOf_46 rfl (lv_at hl 1 rfl) ?_
        refine gf_X6_116 cx hw hM dX6_termOf_47 ?_
        refine lv_aload_n hx hb dX6_termOf_50 rfl (lv_at hl 1 rfl) ?_
        refine gf_X6_110 cx hw hM dX6_termOf_51 ?_
        refine lv_iload hx hb dX6_termOf_54 (lv_at hl 4 rfl) ?_
        refine r_iald cx hw (hM.2.2.1 46 rfl) rfl rfl hf dX6_termOf_56 (fun hf => ?_)
        refine r_iald cx hw (hM.2.2.1 49 rfl) rfl rfl hf dX6_termOf_57 (fun hf => ?_)
        exact J58 _ _ _ z5.2.2 z5.1 z5.2.1 (st_A z5.2.2 (ky 0 49) (st_A z5.2.2 (ky 0 46) z5.2.1.toNatClampNeg).toNatClampNeg) z5.1 (lv_sub hl [1, 2, 3, 4] rfl) hw hf
      replace hf := h_pos hc14 hf
      refine lv_aload_n hx hb dX6_termOf_36 rfl (lv_at hl 1 rfl) ?_
      refine gf_X6_110 cx hw hM dX6_termOf_37 ?_
      refine lv_iload hx hb dX6_termOf_40 (lv_at hl 4 rfl) ?_
      refine r_iald cx hw (hM.2.2.1 46 rfl) rfl rfl hf dX6_termOf_42 (fun hf => ?_)
      refine lv_goto hx hb dX6_termOf_43 (tgt := 58) rfl ?_
      exact J58 _ _ _ z5.2.2 z5.1 z5.2.1 (st_A z5.2.2 (ky 0 46) z5.2.1.toNatClampNeg) z5.1 (lv_sub hl [1, 2, 3, 4] rfl) hw hf
  refine L5 x2 _ (fun ls H locs S16 hl hw hf => ?_) (fun v h => h) FU _ _ _ ((0 : Int32), x1, S) (lv_sub hl [2, 4, 1, 0] rfl) hw (h_assoc hf)
  try dsimp only at hf
  refine lv_aload_n hx hb dX6_termOf_165 rfl (lv_at hl 0 rfl) ?_
  refine gf_X6_119 cx hw hM dX6_termOf_166 ?_
  refine lv_iconst (v := 0) hx hb dX6_termOf_169 (by decide) ?_
  refine r_iald cx hw (hM.2.2.1 50 rfl) rfl rfl hf dX6_termOf_170 (fun hf => ?_)
  exact r_iretw cx hw hr hlk hf dX6_termOf_171
theorem dX6_tells_0 : decode cX6_tells 0 = .ok (.bipush 7, 2) := by decide +kernel
theorem dX6_tells_2 : decode cX6_tells 2 = .ok (.aload_n 0, 1) := by decide +kernel
theorem dX6_tells_3 : decode cX6_tells 3 = .ok (.getfield 257, 3) := by decide +kernel
theorem dX6_tells_6 : decode cX6_tells 6 = .ok (.imul, 1) := by decide +kernel
theorem dX6_tells_7 : decode cX6_tells 7 = .ok (.iload_n 1, 1) := by decide +kernel
theorem dX6_tells_8 : decode cX6_tells 8 = .ok (.iadd, 1) := by decide +kernel
theorem dX6_tells_9 : decode cX6_tells 9 = .ok (.istore_n 3, 1) := by decide +kernel
theorem dX6_tells_10 : decode cX6_tells 10 = .ok (.aload_n 0, 1) := by decide +kernel
theorem dX6_tells_11 : decode cX6_tells 11 = .ok (.getfield 85, 3) := by decide +kernel
theorem dX6_tells_14 : decode cX6_tells 14 = .ok (.iload_n 3, 1) := by decide +kernel
theorem dX6_tells_15 : decode cX6_tells 15 = .ok (.iaload, 1) := by decide +kernel
theorem dX6_tells_16 : decode cX6_tells 16 = .ok (.aload_n 0, 1) := by decide +kernel
theorem dX6_tells_17 : decode cX6_tells 17 = .ok (.getfield 88, 3) := by decide +kernel
theorem dX6_tells_20 : decode cX6_tells 20 = .ok (.iload_n 3, 1) := by decide +kernel
theorem dX6_tells_21 : decode cX6_tells 21 = .ok (.iaload, 1) := by decide +kernel
theorem dX6_tells_22 : decode cX6_tells 22 = .ok (.if_icmp .ne 5, 3) := by decide +kernel
theorem dX6_tells_25 : decode cX6_tells 25 = .ok (.iload_n 2, 1) := by decide +kernel
theorem dX6_tells_26 : decode cX6_tells 26 = .ok (.ireturn, 1) := by decide +kernel
theorem dX6_tells_27 : decode cX6_tells 27 = .ok (.aload_n 0, 1) := by decide +kernel
theorem dX6_tells_28 : decode cX6_tells 28 = .ok (.iconst 0, 1) := by decide +kernel
theorem dX6_tells_29 : decode cX6_tells 29 = .ok (.putfield 337, 3) := by decide +kernel
theorem dX6_tells_32 : decode cX6_tells 32 = .ok (.aload_n 0, 1) := by decide +kernel
theorem dX6_tells_33 : decode cX6_tells 33 = .ok (.getfield 85, 3) := by decide +kernel
theorem dX6_tells_36 : decode cX6_tells 36 = .ok (.iload_n 3, 1) := by decide +kernel
theorem dX6_tells_37 : decode cX6_tells 37 = .ok (.iaload, 1) := by decide +kernel
theorem dX6_tells_38 : decode cX6_tells 38 = .ok (.istore 4, 2) := by decide +kernel
theorem dX6_tells_40 : decode cX6_tells 40 = .ok (.iload 4, 2) := by decide +kernel
theorem dX6_tells_42 : decode cX6_tells 42 = .ok (.aload_n 0, 1) := by decide +kernel
theorem dX6_tells_43 : decode cX6_tells 43 = .ok (.getfield 88, 3) := by decide +kernel
theorem dX6_tells_46 : decode cX6_tells 46 = .ok (.iload_n 3, 1) := by decide +kernel
theorem dX6_tells_47 : decode cX6_tells 47 = .ok (.iaload, 1) := by decide +kernel
theorem dX6_tells_48 : decode cX6_tells 48 = .ok (.if_icmp .ge 112, 3) := by decide +kernel
theorem dX6_tells_51 : decode cX6_tells 51 = .ok (.aload_n 0, 1) := by decide +kernel
theorem dX6_tells_52 : decode cX6_tells 52 = .ok (.getfield 91, 3) := by decide +kernel
theorem dX6_tells_55 : decode cX6_tells 55 = .ok (.iload 4, 2) := by decide +kernel
theorem dX6_tells_57 : decode cX6_tells 57 = .ok (.baload, 1) := by decide +kernel
theorem dX6_tells_58 : decode cX6_tells 58 = .ok (.ifCond .eq 62, 3) := by decide +kernel
theorem dX6_tells_61 : decode cX6_tells 61 = .ok (.aload_n 0, 1) := by decide +kernel
theorem dX6_tells_62 : decode cX6_tells 62 = .ok (.aload_n 0, 1) := by decide +kernel
theorem dX6_tells_63 : decode cX6_tells 63 = .ok (.getfield 95, 3) := by decide +kernel
theorem dX6_tells_66 : decode cX6_tells 66 = .ok (.iload 4, 2) := by decide +kernel
theorem dX6_tells_68 : decode cX6_tells 68 = .ok (.iaload, 1) := by decide +kernel
theorem dX6_tells_69 : decode cX6_tells 69 = .ok (.aload_n 0, 1) := by decide +kernel
theorem dX6_tells_70 : decode cX6_tells 70 = .ok (.getfield 98, 3) := by decide +kernel
theorem dX6_tells_73 : decode cX6_tells 73 = .ok (.iload 4, 2) := by decide +kernel
theorem dX6_tells_75 : decode cX6_tells 75 = .ok (.iaload, 1) := by decide +kernel
theorem dX6_tells_76 : decode cX6_tells 76 = .ok (.invokevirtual 360, 3) := by decide +kernel
theorem dX6_tells_79 : decode cX6_tells 79 = .ok (.istore 5, 2) := by decide +kernel
theorem dX6_tells_81 : decode cX6_tells 81 = .ok (.aload_n 0, 1) := by decide +kernel
theorem dX6_tells_82 : decode cX6_tells 82 = .ok (.aload_n 0, 1) := by decide +kernel
theorem dX6_tells_83 : decode cX6_tells 83 = .ok (.getfield 98, 3) := by decide +kernel
theorem dX6_tells_86 : decode cX6_tells 86 = .ok (.iload 4, 2) := by decide +kernel
theorem dX6_tells_88 : decode cX6_tells 88 = .ok (.iaload, 1) := by decide +kernel
theorem dX6_tells_89 : decode cX6_tells 89 = .ok (.aload_n 0, 1) := by decide +kernel
theorem dX6_tells_90 : decode cX6_tells 90 = .ok (.getfield 101, 3) := by decide +kernel
theorem dX6_tells_93 : decode cX6_tells 93 = .ok (.iload 4, 2) := by decide +kernel
theorem dX6_tells_95 : decode cX6_tells 95 = .ok (.iaload, 1) := by decide +kernel
theorem dX6_tells_96 : decode cX6_tells 96 = .ok (.invokevirtual 360, 3) := by decide +kernel
theorem dX6_tells_99 : decode cX6_tells 99 = .ok (.istore 6, 2) := by decide +kernel
theorem dX6_tells_101 : decode cX6_tells 101 = .ok (.aload_n 0, 1) := by decide +kernel
theorem dX6_tells_102 : decode cX6_tells 102 = .ok (.getfield 337, 3) := by decide +kernel
theorem dX6_tells_105 : decode cX6_tells 105 = .ok (.ifCond .eq 5, 3) := by decide +kernel
theorem dX6_tells_108 : decode cX6_tells 108 = .ok (.iconst 0, 1) := by decide +kernel
theorem dX6_tells_109 : decode cX6_tells 109 = .ok (.ireturn, 1) := by decide +kernel
theorem dX6_tells_110 : decode cX6_tells 110 = .ok (.iload 5, 2) := by decide +kernel
theorem dX6_tells_112 : decode cX6_tells 112 = .ok (.iload 6, 2) := by decide +kernel
theorem dX6_tells_114 : decode cX6_tells 114 = .ok (.if_icmp .lt 6, 3) := by decide +kernel
theorem dX6_tells_117 : decode cX6_tells 117 = .ok (.goto 37, 3) := by decide +kernel
theorem dX6_tells_120 : decode cX6_tells 120 = .ok (.aload_n 0, 1) := by decide +kernel
theorem dX6_tells_121 : decode cX6_tells 121 = .ok (.aload_n 0, 1) := by decide +kernel
theorem dX6_tells_122 : decode cX6_tells 122 = .ok (.getfield 101, 3) := by decide +kernel
theorem dX6_tells_125 : decode cX6_tells 125 = .ok (.iload 4, 2) := by decide +kernel
theorem dX6_tells_127 : decode cX6_tells 127 = .ok (.iaload, 1) := by decide +kernel
theorem dX6_tells_128 : decode cX6_tells 128 = .ok (.aload_n 0, 1) := by decide +kernel
theorem dX6_tells_129 : decode cX6_tells 129 = .ok (.getfield 104, 3) := by decide +kernel
theorem dX6_tells_132 : decode cX6_tells 132 = .ok (.iload 4, 2) := by decide +kernel
theorem dX6_tells_134 : decode cX6_tells 134 = .ok (.iaload, 1) := by decide +kernel
theorem dX6_tells_135 : decode cX6_tells 135 = .ok (.invokevirtual 360, 3) := by decide +kernel
theorem dX6_tells_138 : decode cX6_tells 138 = .ok (.istore 5, 2) := by decide +kernel
theorem dX6_tells_140 : decode cX6_tells 140 = .ok (.aload_n 0, 1) := by decide +kernel
theorem dX6_tells_141 : decode cX6_tells 141 = .ok (.getfield 337, 3) := by decide +kernel
theorem dX6_tells_144 : decode cX6_tells 144 = .ok (.ifCond .eq 7, 3) := by decide +kernel
theorem dX6_tells_147 : decode cX6_tells 147 = .ok (.iconst 0, 1) := by decide +kernel
theorem dX6_tells_148 : decode cX6_tells 148 = .ok (.goto 5, 3) := by decide +kernel
theorem dX6_tells_151 : decode cX6_tells 151 = .ok (.iload 5, 2) := by decide +kernel
theorem dX6_tells_153 : decode cX6_tells 153 = .ok (.ireturn, 1) := by decide +kernel
theorem dX6_tells_154 : decode cX6_tells 154 = .ok (.iinc 4 1, 3) := by decide +kernel
theorem dX6_tells_157 : decode cX6_tells 157 = .ok (.goto (-117), 3) := by decide +kernel
theorem dX6_tells_160 : decode cX6_tells 160 = .ok (.iconst 0, 1) := by decide +kernel
theorem dX6_tells_161 : decode cX6_tells 161 = .ok (.ireturn, 1) := by decide +kernel
abbrev rm_X6_tells : Room := { frames := 1, cells := 0, slots := 0, locals := 27 }
def f_X6_tells_L40 (x3 : Int32) (z40 : Int32 × St) : Option ((Int32 × St) ⊕ ((Int32 × St) ⊕ (Int32 × St))) :=
  chk (ib x3 14) (if (st_A z40.2 (ky 0 37) x3.toNatClampNeg) ≤ z40.1 then (some (.inr (.inr ((0 : Int32), z40.2)))) else (chk (ib z40.1 260) (if (st_A z40.2 (ky 0 39) z40.1.toNatClampNeg) = 0 then (some (.inr (.inl (z40.1, z40.2)))) else (chk (ib z40.1 260) (chk (ib z40.1 260) ((f_X6_termOf  z40.2 (st_A z40.2 (ky 0 40) z40.1.toNatClampNeg) (st_A z40.2 (ky 0 41) z40.1.toNatClampNeg)).bind (fun (q6 : Int32 × St) => chk (ib z40.1 260) (chk (ib z40.1 260) ((f_X6_termOf  q6.2 (st_A q6.2 (ky 0 41) z40.1.toNatClampNeg) (st_A q6.2 (ky 0 42) z40.1.toNatClampNeg)).bind (fun (q7 : Int32 × St) => if (st_I q7.2 (ky 0 51)) = 0 then (if q6.1 < q7.1 then (some (.inr (.inl (z40.1, q7.2)))) else (some (.inl ((z40.1 + 1), q7.2)))) else (some (.inr (.inr ((0 : Int32), q7.2))))))))))))))
def f_X6_tells_J120 (S : St) (x4 : Int32) : Option (Int32 × St) :=
  chk (ib x4 260) (chk (ib x4 260) ((f_X6_termOf  S (st_A S (ky 0 42) x4.toNatClampNeg) (st_A S (ky 0 43) x4.toNatClampNeg)).bind (fun (q12 : Int32 × St) => if (st_I q12.2 (ky 0 51)) = 0 then (some (q12.1, q12.2)) else (some ((0 : Int32), q12.2)))))
def f_X6_tells (S : St) (x1 : Int32) (x2 : Int32) : Option (Int32 × St) :=
  lt_v (((7 : Int32) * (st_I S (ky 0 18))) + x1) (fun (u1 : Int32) => chk (ib u1 14) (chk (ib u1 14) (if (st_A S (ky 0 36) u1.toNatClampNeg) = (st_A S (ky 0 37) u1.toNatClampNeg) then (some (x2, S)) else (lt_v (up_I S (ky 0 51) (0 : Int32)) (fun (S3 : St) => chk (ib u1 14) ((iter (f_X6_tells_L40   u1) FU ((st_A S3 (ky 0 36) u1.toNatClampNeg), S3)).bind fun z => match z with | .inl z => (fun (u14 : Int32 × St) => (fun (e10 : Int32) (S11 : St) => f_X6_tells_J120  S11 e10) u14.1 u14.2) z | .inr v15 => some v15))))))
set_option maxRecDepth 100000 in
set_option maxHeartbeats 4000000 in
theorem k_X6_tells (l : Launch) (g : GG) (hg : gd wd_M g)  (hM : hs wd_M g 0 6) (S : St) (x1 : Int32) (x2 : Int32) (q : Int32 × St) (hf : f_X6_tells  S x1 x2 = some q) : Met l yX6_tells (Cond.code yX6_tells cX6_tells 7 (some .int) :: gw_tbl) rm_X6_tells (va_Pc [.ref (gg_o g 0), .int x1, .int x2] (wI wd_M g S)) (qc_w wd_M g q) 0 0 (aw g) := by
  refine mt_start (own := RX6) hg (by decide) rfl (Nat.le_of_ble_eq_true rfl) (fun p e s m args below meth c ls H locs cx hw hr hlk hl => ?_)
  have hx := cx.1
  have hb := cx.2.1
  have hown := cx.2.2.2.1
  have hts := cx.2.2.2.2.1
  have hl : lv_has ls 7 [(0, .ref (gg_o g 0)), (1, .int x1), (2, .int x2)] := hl
  replace hf := h_top hf
  unfold f_X6_tells at hf
  have J120 : ∀ (ls : Array Slot) (H : Heap) (locs : List Loc) (S : St) (x4 : Int32), lv_has ls 7 [(0, .ref (gg_o g 0)), (4, .int x4)] → HH wd_M g s S H locs → (f_X6_tells_J120  S x4).bind some = some q → W p l e rm_X6_tells s m args below meth c H locs 0 0 (MQ below (qc_w wd_M g q) args s 0 0 (aw g)) (F0 m 120 ls []) := by
    intro ls H locs S x4 hl hw hf
    unfold f_X6_tells_J120 at hf
    refine lv_aload_n hx hb dX6_tells_120 rfl (lv_at hl 0 rfl) ?_
    refine lv_aload_n hx hb dX6_tells_121 rfl (lv_at hl 0 rfl) ?_
    refine gf_X6_101 cx hw hM dX6_tells_122 ?_
    refine lv_iload hx hb dX6_tells_125 (lv_at hl 1 rfl) ?_
    refine r_iald cx hw (hM.2.2.1 42 rfl) rfl rfl hf dX6_tells_127 (fun hf => ?_)
    refine lv_aload_n hx hb dX6_tells_128 rfl (lv_at hl 0 rfl) ?_
    refine gf_X6_104 cx hw hM dX6_tells_129 ?_
    refine lv_iload hx hb dX6_tells_132 (lv_at hl 1 rfl) ?_
    refine r_iald cx hw (hM.2.2.1 43 rfl) rfl rfl hf dX6_tells_134 (fun hf => ?_)
    refine r_V_w (As := [.int (st_A S (ky 0 42) x4.toNatClampNeg), .int (st_A S (ky 0 43) x4.toNatClampNeg)]) (rest := []) cx hw hf hM.2.1 (by rw [hM.1]; rfl) lk_X6_360 (fun q12 hq => k_X6_termOf l g hg  hM S (st_A S (ky 0 42) x4.toNatClampNeg) (st_A S (ky 0 43) x4.toNatClampNeg) q12 hq) ⟨⟨rfl, rfl⟩, Nat.le_of_ble_eq_true rfl, Nat.le_of_ble_eq_true rfl⟩ rfl hl.1 rfl (Nat.le_of_ble_eq_true rfl) dX6_tells_135 ⟨Nat.zero_le _, Nat.zero_le _⟩ (fun q12 H locs hw hf => ?_)
    refine lv_istore hx hb dX6_tells_138 hl (by decide) (lv' := [(5, .int q12.1), (0, .ref (gg_o g 0)), (4, .int x4)]) rfl (fun ls hl => ?_)
    refine lv_aload_n hx hb dX6_tells_140 rfl (lv_at hl 1 rfl) ?_
    refine gf_X6_337 cx hw hM dX6_tells_141 ?_
    refine lv_if_eq hx hb dX6_tells_144 (tgt := 151) rfl (fun hc13 => ?_) (fun hc13 => ?_)
    · replace hf := h_pos hc13 hf
      refine lv_iload hx hb dX6_tells_151 (lv_at hl 0 rfl) ?_
      exact r_iretw cx hw hr hlk hf dX6_tells_153
    replace hf := h_neg hc13 hf
    refine lv_iconst (v := 0) hx hb dX6_tells_147 (by decide) ?_
    refine lv_goto hx hb dX6_tells_148 (tgt := 153) rfl ?_
    exact r_iretw cx hw hr hlk hf dX6_tells_153
  refine lv_bipush (v := 7) hx hb dX6_tells_0 (by decide) ?_
  refine lv_aload_n hx hb dX6_tells_2 rfl (lv_at hl 0 rfl) ?_
  refine gf_X6_257 cx hw hM dX6_tells_3 ?_
  refine lv_imul hx hb dX6_tells_6 ?_
  refine lv_iload_n hx hb dX6_tells_7 rfl (lv_at hl 1 rfl) ?_
  refine lv_iadd hx hb dX6_tells_8 ?_
  refine r_leti hf (fun u1 hf => ?_)
  refine lv_istore_n hx hb dX6_tells_9 rfl hl (by decide) (lv' := [(3, .int u1), (0, .ref (gg_o g 0)), (1, .int x1), (2, .int x2)]) rfl (fun ls hl => ?_)
  refine lv_aload_n hx hb dX6_tells_10 rfl (lv_at hl 1 rfl) ?_
  refine gf_X6_85 cx hw hM dX6_tells_11 ?_
  refine lv_iload_n hx hb dX6_tells_14 rfl (lv_at hl 0 rfl) ?_
  refine r_iald cx hw (hM.2.2.1 36 rfl) rfl rfl hf dX6_tells_15 (fun hf => ?_)
  refine lv_aload_n hx hb dX6_tells_16 rfl (lv_at hl 1 rfl) ?_
  refine gf_X6_88 cx hw hM dX6_tells_17 ?_
  refine lv_iload_n hx hb dX6_tells_20 rfl (lv_at hl 0 rfl) ?_
  refine r_iald cx hw (hM.2.2.1 37 rfl) rfl rfl hf dX6_tells_21 (fun hf => ?_)
  refine lv_icmp_ne hx hb dX6_tells_22 (tgt := 27) rfl (fun hc2 => ?_) (fun hc2 => ?_)
  · replace hf := h_neg hc2 hf
    refine lv_aload_n hx hb dX6_tells_27 rfl (lv_at hl 1 rfl) ?_
    refine lv_iconst (v := 0) hx hb dX6_tells_28 (by decide) ?_
    refine pf_X6_337 cx hw hM (Or.inl rfl) hf dX6_tells_29 (fun S3 H locs hw hf => ?_)
    refine lv_aload_n hx hb dX6_tells_32 rfl (lv_at hl 1 rfl) ?_
    refine gf_X6_85 cx hw hM dX6_tells_33 ?_
    refine lv_iload_n hx hb dX6_tells_36 rfl (lv_at hl 0 rfl) ?_
    refine r_iald cx hw (hM.2.2.1 36 rfl) rfl rfl hf dX6_tells_37 (fun hf => ?_)
    refine lv_istore hx hb dX6_tells_38 hl (by decide) (lv' := [(4, .int (st_A S3 (ky 0 36) u1.toNatClampNeg)), (3, .int u1), (0, .ref (gg_o g 0)), (1, .int x1), (2, .int x2)]) rfl (fun ls hl => ?_)
    have L40 : ∀ (x3 : Int32) (aft40 : ((Int32 × St) ⊕ (Int32 × St)) → Option (Int32 × St)), (∀ (ls : Array Slot) (H : Heap) (locs : List Loc) (e4 : Int32) (S1 : St), lv_has ls 7 [(0, .ref (gg_o g 0)), (4, .int e4)] → HH wd_M g s S1 H locs → aft40 (.inl (e4, S1)) = some q → W p l e rm_X6_tells s m args below meth c H locs 0 0 (MQ below (qc_w wd_M g q) args s 0 0 (aw g)) (F0 m 120 ls [])) → (∀ v : Int32 × St, aft40 (.inr v) = some q → (some v : Option (Int32 × St)).bind some = some q) → ∀ (n40 : Nat) (ls : Array Slot) (H : Heap) (locs : List Loc) (z40 : Int32 × St), lv_has ls 7 [(0, .ref (gg_o g 0)), (3, .int x3), (4, .int z40.1)] → HH wd_M g s z40.2 H locs → (iter (f_X6_tells_L40   x3) n40 z40).bind aft40 = some q → W p l e rm_X6_tells s m args below meth c H locs 0 0 (MQ below (qc_w wd_M g q) args s 0 0 (aw g)) (F0 m 40 ls []) := by
      intro x3 aft40 hX40 hR40 n40
      induction n40 with
      | zero => intro ls H locs z40 hl hw hf; exact h_iter0 hf
      | succ n40 ih40 =>
        intro ls H locs z40 hl hw hf
        replace hf := h_iter hf
        unfold f_X6_tells_L40 at hf
        refine lv_iload hx hb dX6_tells_40 (lv_at hl 2 rfl) ?_
        refine lv_aload_n hx hb dX6_tells_42 rfl (lv_at hl 0 rfl) ?_
        refine gf_X6_88 cx hw hM dX6_tells_43 ?_
        refine lv_iload_n hx hb dX6_tells_46 rfl (lv_at hl 1 rfl) ?_
        refine r_iald cx hw (hM.2.2.1 37 rfl) rfl rfl hf dX6_tells_47 (fun hf => ?_)
        refine lv_icmp_ge hx hb dX6_tells_48 (tgt := 160) rfl (fun hc4 => ?_) (fun hc4 => ?_)
        · replace hf := h_pos hc4 hf
          refine lv_iconst (v := 0) hx hb dX6_tells_160 (by decide) ?_
          replace hf := hR40 ((0 : Int32), z40.2) hf
          exact r_iretw cx hw hr hlk hf dX6_tells_161
        replace hf := h_neg hc4 hf
        refine lv_aload_n hx hb dX6_tells_51 rfl (lv_at hl 0 rfl) ?_
        refine gf_X6_91 cx hw hM dX6_tells_52 ?_
        refine lv_iload hx hb dX6_tells_55 (lv_at hl 2 rfl) ?_
        refine r_zald cx hw (hM.2.2.1 39 rfl) rfl rfl hf dX6_tells_57 (fun hf => ?_)
        refine lv_if_eq hx hb dX6_tells_58 (tgt := 120) rfl (fun hc5 => ?_) (fun hc5 => ?_)
        · replace hf := h_pos hc5 hf
          exact hX40 _ _ _ z40.1 z40.2 (lv_sub hl [0, 2] rfl) hw hf
        replace hf := h_neg hc5 hf
        refine lv_aload_n hx hb dX6_tells_61 rfl (lv_at hl 0 rfl) ?_
        refine lv_aload_n hx hb dX6_tells_62 rfl (lv_at hl 0 rfl) ?_
        refine gf_X6_95 cx hw hM dX6_tells_63 ?_
        refine lv_iload hx hb dX6_tells_66 (lv_at hl 2 rfl) ?_
        refine r_iald cx hw (hM.2.2.1 40 rfl) rfl rfl hf dX6_tells_68 (fun hf => ?_)
        refine lv_aload_n hx hb dX6_tells_69 rfl (lv_at hl 0 rfl) ?_
        refine gf_X6_98 cx hw hM dX6_tells_70 ?_
        refine lv_iload hx hb dX6_tells_73 (lv_at hl 2 rfl) ?_
        refine r_iald cx hw (hM.2.2.1 41 rfl) rfl rfl hf dX6_tells_75 (fun hf => ?_)
        refine r_V_w (As := [.int (st_A z40.2 (ky 0 40) z40.1.toNatClampNeg), .int (st_A z40.2 (ky 0 41) z40.1.toNatClampNeg)]) (rest := []) cx hw hf hM.2.1 (by rw [hM.1]; rfl) lk_X6_360 (fun q6 hq => k_X6_termOf l g hg  hM z40.2 (st_A z40.2 (ky 0 40) z40.1.toNatClampNeg) (st_A z40.2 (ky 0 41) z40.1.toNatClampNeg) q6 hq) ⟨⟨rfl, rfl⟩, Nat.le_of_ble_eq_true rfl, Nat.le_of_ble_eq_true rfl⟩ rfl hl.1 rfl (Nat.le_of_ble_eq_true rfl) dX6_tells_76 ⟨Nat.zero_le _, Nat.zero_le _⟩ (fun q6 H locs hw hf => ?_)
        refine lv_istore hx hb dX6_tells_79 hl (by decide) (lv' := [(5, .int q6.1), (0, .ref (gg_o g 0)), (3, .int x3), (4, .int z40.1)]) rfl (fun ls hl => ?_)
        refine lv_aload_n hx hb dX6_tells_81 rfl (lv_at hl 1 rfl) ?_
        refine lv_aload_n hx hb dX6_tells_82 rfl (lv_at hl 1 rfl) ?_
        refine gf_X6_98 cx hw hM dX6_tells_83 ?_
        refine lv_iload hx hb dX6_tells_86 (lv_at hl 3 rfl) ?_
        refine r_iald cx hw (hM.2.2.1 41 rfl) rfl rfl hf dX6_tells_88 (fun hf => ?_)
        refine lv_aload_n hx hb dX6_tells_89 rfl (lv_at hl 1 rfl) ?_
        refine gf_X6_101 cx hw hM dX6_tells_90 ?_
        refine lv_iload hx hb dX6_tells_93 (lv_at hl 3 rfl) ?_
        refine r_iald cx hw (hM.2.2.1 42 rfl) rfl rfl hf dX6_tells_95 (fun hf => ?_)
        refine r_V_w (As := [.int (st_A q6.2 (ky 0 41) z40.1.toNatClampNeg), .int (st_A q6.2 (ky 0 42) z40.1.toNatClampNeg)]) (rest := []) cx hw hf hM.2.1 (by rw [hM.1]; rfl) lk_X6_360 (fun q7 hq => k_X6_termOf l g hg  hM q6.2 (st_A q6.2 (ky 0 41) z40.1.toNatClampNeg) (st_A q6.2 (ky 0 42) z40.1.toNatClampNeg) q7 hq) ⟨⟨rfl, rfl⟩, Nat.le_of_ble_eq_true rfl, Nat.le_of_ble_eq_true rfl⟩ rfl hl.1 rfl (Nat.le_of_ble_eq_true rfl) dX6_tells_96 ⟨Nat.zero_le _, Nat.zero_le _⟩ (fun q7 H locs hw hf => ?_)
        refine lv_istore hx hb dX6_tells_99 hl (by decide) (lv' := [(6, .int q7.1), (5, .int q6.1), (0, .ref (gg_o g 0)), (3, .int x3), (4, .int z40.1)]) rfl (fun ls hl => ?_)
        refine lv_aload_n hx hb dX6_tells_101 rfl (lv_at hl 2 rfl) ?_
        refine gf_X6_337 cx hw hM dX6_tells_102 ?_
        refine lv_if_eq hx hb dX6_tells_105 (tgt := 110) rfl (fun hc8 => ?_) (fun hc8 => ?_)
        · replace hf := h_pos hc8 hf
          refine lv_iload hx hb dX6_tells_110 (lv_at hl 1 rfl) ?_
          refine lv_iload hx hb dX6_tells_112 (lv_at hl 0 rfl) ?_
          refine lv_icmp_lt hx hb dX6_tells_114 (tgt := 120) rfl (fun hc9 => ?_) (fun hc9 => ?_)
          · replace hf := h_pos hc9 hf
            exact hX40 _ _ _ z40.1 q7.2 (lv_sub hl [2, 4] rfl) hw hf
          replace hf := h_neg hc9 hf
          refine lv_goto hx hb dX6_tells_117 (tgt := 154) rfl ?_
          refine lv_iinc hx hb dX6_tells_154 hl (k := 4) rfl (congrArg (HAdd.hAdd _) (show Int32.ofInt (1) = 1 by decide)) (by decide) (lv' := [(4, .int (z40.1 + 1)), (6, .int q7.1), (5, .int q6.1), (0, .ref (gg_o g 0)), (3, .int x3)]) rfl (fun ls hl => ?_)
          refine lv_goto hx hb dX6_tells_157 (tgt := 40) rfl ?_
          exact ih40 _ _ _ ((z40.1 + 1), q7.2) (lv_sub hl [3, 4, 0] rfl) hw hf
        replace hf := h_neg hc8 hf
        refine lv_iconst (v := 0) hx hb dX6_tells_108 (by decide) ?_
        replace hf := hR40 ((0 : Int32), q7.2) hf
        exact r_iretw cx hw hr hlk hf dX6_tells_109
    refine L40 u1 _ (fun ls H locs e10 S11 hl hw hf => ?_) (fun v h => h) FU _ _ _ ((st_A S3 (ky 0 36) u1.toNatClampNeg), S3) (lv_sub hl [2, 1, 0] rfl) hw (h_assoc hf)
    try dsimp only at hf
    exact J120 _ _ _ S11 e10 (lv_sub hl [0, 1] rfl) hw hf
  replace hf := h_pos hc2 hf
  refine lv_iload_n hx hb dX6_tells_25 rfl (lv_at hl 3 rfl) ?_
  exact r_iretw cx hw hr hlk hf dX6_tells_26
theorem dX6_lateBy_0 : decode cX6_lateBy 0 = .ok (.aload_n 0, 1) := by decide +kernel
theorem dX6_lateBy_1 : decode cX6_lateBy 1 = .ok (.getfield 131, 3) := by decide +kernel
theorem dX6_lateBy_4 : decode cX6_lateBy 4 = .ok (.bipush 36, 2) := by decide +kernel
theorem dX6_lateBy_6 : decode cX6_lateBy 6 = .ok (.aload_n 0, 1) := by decide +kernel
theorem dX6_lateBy_7 : decode cX6_lateBy 7 = .ok (.getfield 348, 3) := by decide +kernel
theorem dX6_lateBy_10 : decode cX6_lateBy 10 = .ok (.imul, 1) := by decide +kernel
theorem dX6_lateBy_11 : decode cX6_lateBy 11 = .ok (.bipush 12, 2) := by decide +kernel
theorem dX6_lateBy_13 : decode cX6_lateBy 13 = .ok (.iadd, 1) := by decide +kernel
theorem dX6_lateBy_14 : decode cX6_lateBy 14 = .ok (.iload_n 1, 1) := by decide +kernel
theorem dX6_lateBy_15 : decode cX6_lateBy 15 = .ok (.iadd, 1) := by decide +kernel
theorem dX6_lateBy_16 : decode cX6_lateBy 16 = .ok (.iaload, 1) := by decide +kernel
theorem dX6_lateBy_17 : decode cX6_lateBy 17 = .ok (.istore_n 3, 1) := by decide +kernel
theorem dX6_lateBy_18 : decode cX6_lateBy 18 = .ok (.aload_n 0, 1) := by decide +kernel
theorem dX6_lateBy_19 : decode cX6_lateBy 19 = .ok (.getfield 116, 3) := by decide +kernel
theorem dX6_lateBy_22 : decode cX6_lateBy 22 = .ok (.iconst 0, 1) := by decide +kernel
theorem dX6_lateBy_23 : decode cX6_lateBy 23 = .ok (.aload_n 0, 1) := by decide +kernel
theorem dX6_lateBy_24 : decode cX6_lateBy 24 = .ok (.getfield 348, 3) := by decide +kernel
theorem dX6_lateBy_27 : decode cX6_lateBy 27 = .ok (.iastore, 1) := by decide +kernel
theorem dX6_lateBy_28 : decode cX6_lateBy 28 = .ok (.aload_n 0, 1) := by decide +kernel
theorem dX6_lateBy_29 : decode cX6_lateBy 29 = .ok (.getfield 116, 3) := by decide +kernel
theorem dX6_lateBy_32 : decode cX6_lateBy 32 = .ok (.iconst 1, 1) := by decide +kernel
theorem dX6_lateBy_33 : decode cX6_lateBy 33 = .ok (.iload_n 3, 1) := by decide +kernel
theorem dX6_lateBy_34 : decode cX6_lateBy 34 = .ok (.iastore, 1) := by decide +kernel
theorem dX6_lateBy_35 : decode cX6_lateBy 35 = .ok (.aload_n 0, 1) := by decide +kernel
theorem dX6_lateBy_36 : decode cX6_lateBy 36 = .ok (.getfield 116, 3) := by decide +kernel
theorem dX6_lateBy_39 : decode cX6_lateBy 39 = .ok (.iconst 2, 1) := by decide +kernel
theorem dX6_lateBy_40 : decode cX6_lateBy 40 = .ok (.iload_n 2, 1) := by decide +kernel
theorem dX6_lateBy_41 : decode cX6_lateBy 41 = .ok (.iastore, 1) := by decide +kernel
theorem dX6_lateBy_42 : decode cX6_lateBy 42 = .ok (.aload_n 0, 1) := by decide +kernel
theorem dX6_lateBy_43 : decode cX6_lateBy 43 = .ok (.getfield 116, 3) := by decide +kernel
theorem dX6_lateBy_46 : decode cX6_lateBy 46 = .ok (.iconst 3, 1) := by decide +kernel
theorem dX6_lateBy_47 : decode cX6_lateBy 47 = .ok (.iload_n 1, 1) := by decide +kernel
theorem dX6_lateBy_48 : decode cX6_lateBy 48 = .ok (.iastore, 1) := by decide +kernel
theorem dX6_lateBy_49 : decode cX6_lateBy 49 = .ok (.aload_n 0, 1) := by decide +kernel
theorem dX6_lateBy_50 : decode cX6_lateBy 50 = .ok (.getfield 116, 3) := by decide +kernel
theorem dX6_lateBy_53 : decode cX6_lateBy 53 = .ok (.iconst 4, 1) := by decide +kernel
theorem dX6_lateBy_54 : decode cX6_lateBy 54 = .ok (.aload_n 0, 1) := by decide +kernel
theorem dX6_lateBy_55 : decode cX6_lateBy 55 = .ok (.iload_n 3, 1) := by decide +kernel
theorem dX6_lateBy_56 : decode cX6_lateBy 56 = .ok (.invokevirtual 363, 3) := by decide +kernel
theorem dX6_lateBy_59 : decode cX6_lateBy 59 = .ok (.iastore, 1) := by decide +kernel
theorem dX6_lateBy_60 : decode cX6_lateBy 60 = .ok (.aload_n 0, 1) := by decide +kernel
theorem dX6_lateBy_61 : decode cX6_lateBy 61 = .ok (.getfield 116, 3) := by decide +kernel
theorem dX6_lateBy_64 : decode cX6_lateBy 64 = .ok (.iconst 5, 1) := by decide +kernel
theorem dX6_lateBy_65 : decode cX6_lateBy 65 = .ok (.aload_n 0, 1) := by decide +kernel
theorem dX6_lateBy_66 : decode cX6_lateBy 66 = .ok (.iload_n 3, 1) := by decide +kernel
theorem dX6_lateBy_67 : decode cX6_lateBy 67 = .ok (.aload_n 0, 1) := by decide +kernel
theorem dX6_lateBy_68 : decode cX6_lateBy 68 = .ok (.getfield 348, 3) := by decide +kernel
theorem dX6_lateBy_71 : decode cX6_lateBy 71 = .ok (.invokevirtual 366, 3) := by decide +kernel
theorem dX6_lateBy_74 : decode cX6_lateBy 74 = .ok (.invokestatic 369, 3) := by decide +kernel
theorem dX6_lateBy_77 : decode cX6_lateBy 77 = .ok (.iastore, 1) := by decide +kernel
theorem dX6_lateBy_78 : decode cX6_lateBy 78 = .ok (.aload_n 0, 1) := by decide +kernel
theorem dX6_lateBy_79 : decode cX6_lateBy 79 = .ok (.bipush 6, 2) := by decide +kernel
theorem dX6_lateBy_81 : decode cX6_lateBy 81 = .ok (.iload_n 2, 1) := by decide +kernel
theorem dX6_lateBy_82 : decode cX6_lateBy 82 = .ok (.invokevirtual 372, 3) := by decide +kernel
theorem dX6_lateBy_85 : decode cX6_lateBy 85 = .ok (.istore 4, 2) := by decide +kernel
theorem dX6_lateBy_87 : decode cX6_lateBy 87 = .ok (.iload 4, 2) := by decide +kernel
theorem dX6_lateBy_89 : decode cX6_lateBy 89 = .ok (.ifCond .ge 7, 3) := by decide +kernel
theorem dX6_lateBy_92 : decode cX6_lateBy 92 = .ok (.iconst 0, 1) := by decide +kernel
theorem dX6_lateBy_93 : decode cX6_lateBy 93 = .ok (.goto 19, 3) := by decide +kernel
theorem dX6_lateBy_96 : decode cX6_lateBy 96 = .ok (.iload 4, 2) := by decide +kernel
theorem dX6_lateBy_98 : decode cX6_lateBy 98 = .ok (.sipush 240, 3) := by decide +kernel
theorem dX6_lateBy_101 : decode cX6_lateBy 101 = .ok (.if_icmp .le 9, 3) := by decide +kernel
theorem dX6_lateBy_104 : decode cX6_lateBy 104 = .ok (.sipush 240, 3) := by decide +kernel
theorem dX6_lateBy_107 : decode cX6_lateBy 107 = .ok (.goto 5, 3) := by decide +kernel
theorem dX6_lateBy_110 : decode cX6_lateBy 110 = .ok (.iload 4, 2) := by decide +kernel
theorem dX6_lateBy_112 : decode cX6_lateBy 112 = .ok (.ireturn, 1) := by decide +kernel
abbrev rm_X6_lateBy : Room := { frames := 2, cells := 0, slots := 0, locals := 53 }
def f_X6_lateBy (S : St) (x1 : Int32) (x2 : Int32) : Option (Int32 × St) :=
  chk (ib ((((36 : Int32) * (st_I S (ky 0 57))) + (12 : Int32)) + x1) 10800) (lt_v (st_A S (ky 0 56) ((((36 : Int32) * (st_I S (ky 0 57))) + (12 : Int32)) + x1).toNatClampNeg) (fun (u1 : Int32) => chk (ib (0 : Int32) 6) (lt_v (up_A S (ky 0 49) (upd (st_A S (ky 0 49)) (0 : Int32).toNatClampNeg (st_I S (ky 0 57)))) (fun (S2 : St) => chk (ib (1 : Int32) 6) (lt_v (up_A S2 (ky 0 49) (upd (st_A S2 (ky 0 49)) (1 : Int32).toNatClampNeg u1)) (fun (S3 : St) => chk (ib (2 : Int32) 6) (lt_v (up_A S3 (ky 0 49) (upd (st_A S3 (ky 0 49)) (2 : Int32).toNatClampNeg x2)) (fun (S4 : St) => chk (ib (3 : Int32) 6) (lt_v (up_A S4 (ky 0 49) (upd (st_A S4 (ky 0 49)) (3 : Int32).toNatClampNeg x1)) (fun (S5 : St) => (f_X6_waysOf  S5 u1).bind (fun (q6 : Int32) => chk (ib (4 : Int32) 6) (lt_v (up_A S5 (ky 0 49) (upd (st_A S5 (ky 0 49)) (4 : Int32).toNatClampNeg q6)) (fun (S7 : St) => (f_X6_menIn  S7 u1 (st_I S7 (ky 0 57))).bind (fun (q8 : Int32) => (f_X6_bits   q8).bind (fun (q9 : Int32) => chk (ib (5 : Int32) 6) (lt_v (up_A S7 (ky 0 49) (upd (st_A S7 (ky 0 49)) (5 : Int32).toNatClampNeg q9)) (fun (S10 : St) => (f_X6_tells  S10 (6 : Int32) x2).bind (fun (q11 : Int32 × St) => if 0 ≤ q11.1 then (if q11.1 ≤ (240 : Int32) then (some (q11.1, q11.2)) else (some ((240 : Int32), q11.2))) else (some ((0 : Int32), q11.2))))))))))))))))))))
set_option maxRecDepth 100000 in
set_option maxHeartbeats 4000000 in
theorem k_X6_lateBy (l : Launch) (g : GG) (hg : gd wd_M g)  (hM : hs wd_M g 0 6) (S : St) (x1 : Int32) (x2 : Int32) (q : Int32 × St) (hf : f_X6_lateBy  S x1 x2 = some q) : Met l yX6_lateBy (Cond.code yX6_lateBy cX6_lateBy 5 (some .int) :: gw_tbl) rm_X6_lateBy (va_Pc [.ref (gg_o g 0), .int x1, .int x2] (wI wd_M g S)) (qc_w wd_M g q) 0 0 (aw g) := by
  refine mt_start (own := RX6) hg (by decide) rfl (Nat.le_of_ble_eq_true rfl) (fun p e s m args below meth c ls H locs cx hw hr hlk hl => ?_)
  have hx := cx.1
  have hb := cx.2.1
  have hown := cx.2.2.2.1
  have hts := cx.2.2.2.2.1
  have hl : lv_has ls 5 [(0, .ref (gg_o g 0)), (1, .int x1), (2, .int x2)] := hl
  replace hf := h_top hf
  unfold f_X6_lateBy at hf
  refine lv_aload_n hx hb dX6_lateBy_0 rfl (lv_at hl 0 rfl) ?_
  refine gf_X6_131 cx hw hM dX6_lateBy_1 ?_
  refine lv_bipush (v := 36) hx hb dX6_lateBy_4 (by decide) ?_
  refine lv_aload_n hx hb dX6_lateBy_6 rfl (lv_at hl 0 rfl) ?_
  refine gf_X6_348 cx hw hM dX6_lateBy_7 ?_
  refine lv_imul hx hb dX6_lateBy_10 ?_
  refine lv_bipush (v := 12) hx hb dX6_lateBy_11 (by decide) ?_
  refine lv_iadd hx hb dX6_lateBy_13 ?_
  refine lv_iload_n hx hb dX6_lateBy_14 rfl (lv_at hl 1 rfl) ?_
  refine lv_iadd hx hb dX6_lateBy_15 ?_
  refine r_iald cx hw (hM.2.2.1 56 rfl) rfl rfl hf dX6_lateBy_16 (fun hf => ?_)
  refine r_leti hf (fun u1 hf => ?_)
  refine lv_istore_n hx hb dX6_lateBy_17 rfl hl (by decide) (lv' := [(3, .int u1), (0, .ref (gg_o g 0)), (1, .int x1), (2, .int x2)]) rfl (fun ls hl => ?_)
  refine lv_aload_n hx hb dX6_lateBy_18 rfl (lv_at hl 1 rfl) ?_
  refine gf_X6_116 cx hw hM dX6_lateBy_19 ?_
  refine lv_iconst (v := 0) hx hb dX6_lateBy_22 (by decide) ?_
  refine lv_aload_n hx hb dX6_lateBy_23 rfl (lv_at hl 1 rfl) ?_
  refine gf_X6_348 cx hw hM dX6_lateBy_24 ?_
  refine r_iast cx hw (hM.2.2.1 49 rfl) rfl rfl hf dX6_lateBy_27 (fun S2 H locs hw hf => ?_)
  refine lv_aload_n hx hb dX6_lateBy_28 rfl (lv_at hl 1 rfl) ?_
  refine gf_X6_116 cx hw hM dX6_lateBy_29 ?_
  refine lv_iconst (v := 1) hx hb dX6_lateBy_32 (by decide) ?_
  refine lv_iload_n hx hb dX6_lateBy_33 rfl (lv_at hl 0 rfl) ?_
  refine r_iast cx hw (hM.2.2.1 49 rfl) rfl rfl hf dX6_lateBy_34 (fun S3 H locs hw hf => ?_)
  refine lv_aload_n hx hb dX6_lateBy_35 rfl (lv_at hl 1 rfl) ?_
  refine gf_X6_116 cx hw hM dX6_lateBy_36 ?_
  refine lv_iconst (v := 2) hx hb dX6_lateBy_39 (by decide) ?_
  refine lv_iload_n hx hb dX6_lateBy_40 rfl (lv_at hl 3 rfl) ?_
  refine r_iast cx hw (hM.2.2.1 49 rfl) rfl rfl hf dX6_lateBy_41 (fun S4 H locs hw hf => ?_)
  refine lv_aload_n hx hb dX6_lateBy_42 rfl (lv_at hl 1 rfl) ?_
  refine gf_X6_116 cx hw hM dX6_lateBy_43 ?_
  refine lv_iconst (v := 3) hx hb dX6_lateBy_46 (by decide) ?_
  refine lv_iload_n hx hb dX6_lateBy_47 rfl (lv_at hl 2 rfl) ?_
  refine r_iast cx hw (hM.2.2.1 49 rfl) rfl rfl hf dX6_lateBy_48 (fun S5 H locs hw hf => ?_)
  refine lv_aload_n hx hb dX6_lateBy_49 rfl (lv_at hl 1 rfl) ?_
  refine gf_X6_116 cx hw hM dX6_lateBy_50 ?_
  refine lv_iconst (v := 4) hx hb dX6_lateBy_53 (by decide) ?_
  refine lv_aload_n hx hb dX6_lateBy_54 rfl (lv_at hl 1 rfl) ?_
  refine lv_iload_n hx hb dX6_lateBy_55 rfl (lv_at hl 0 rfl) ?_
  refine r_V_i (As := [.int u1]) (rest := [.int (4 : Int32), .ref (gg_a g (ky 0 49))]) cx hw hf hM.2.1 (by rw [hM.1]; rfl) lk_X6_363 (fun q6 hq => k_X6_waysOf l g hg  hM S5 u1 q6 hq) ⟨⟨rfl, rfl⟩, Nat.le_of_ble_eq_true rfl, Nat.le_of_ble_eq_true rfl⟩ rfl hl.1 rfl (Nat.le_of_ble_eq_true rfl) dX6_lateBy_56 ⟨Nat.zero_le _, Nat.zero_le _⟩ (fun q6 H locs hw hf => ?_)
  refine r_iast cx hw (hM.2.2.1 49 rfl) rfl rfl hf dX6_lateBy_59 (fun S7 H locs hw hf => ?_)
  refine lv_aload_n hx hb dX6_lateBy_60 rfl (lv_at hl 1 rfl) ?_
  refine gf_X6_116 cx hw hM dX6_lateBy_61 ?_
  refine lv_iconst (v := 5) hx hb dX6_lateBy_64 (by decide) ?_
  refine lv_aload_n hx hb dX6_lateBy_65 rfl (lv_at hl 1 rfl) ?_
  refine lv_iload_n hx hb dX6_lateBy_66 rfl (lv_at hl 0 rfl) ?_
  refine lv_aload_n hx hb dX6_lateBy_67 rfl (lv_at hl 1 rfl) ?_
  refine gf_X6_348 cx hw hM dX6_lateBy_68 ?_
  refine r_V_i (As := [.int u1, .int (st_I S7 (ky 0 57))]) (rest := [.int (5 : Int32), .ref (gg_a g (ky 0 49))]) cx hw hf hM.2.1 (by rw [hM.1]; rfl) lk_X6_366 (fun q8 hq => k_X6_menIn l g hg  hM S7 u1 (st_I S7 (ky 0 57)) q8 hq) ⟨⟨rfl, rfl⟩, Nat.le_of_ble_eq_true rfl, Nat.le_of_ble_eq_true rfl⟩ rfl hl.1 rfl (Nat.le_of_ble_eq_true rfl) dX6_lateBy_71 ⟨Nat.zero_le _, Nat.zero_le _⟩ (fun q8 H locs hw hf => ?_)
  refine r_S_i (As := [.int q8]) (rest := [.int (5 : Int32), .ref (gg_a g (ky 0 49))]) cx hw hf lk_X6_369 (fun q9 hq => k_X6_bits l g hg   S7 q8 q9 hq) ⟨⟨rfl, rfl⟩, Nat.le_of_ble_eq_true rfl, Nat.le_of_ble_eq_true rfl⟩ rfl hl.1 rfl (Nat.le_of_ble_eq_true rfl) dX6_lateBy_74 ⟨Nat.zero_le _, Nat.zero_le _⟩ (fun q9 H locs hw hf => ?_)
  refine r_iast cx hw (hM.2.2.1 49 rfl) rfl rfl hf dX6_lateBy_77 (fun S10 H locs hw hf => ?_)
  refine lv_aload_n hx hb dX6_lateBy_78 rfl (lv_at hl 1 rfl) ?_
  refine lv_bipush (v := 6) hx hb dX6_lateBy_79 (by decide) ?_
  refine lv_iload_n hx hb dX6_lateBy_81 rfl (lv_at hl 3 rfl) ?_
  refine r_V_w (As := [.int (6 : Int32), .int x2]) (rest := []) cx hw hf hM.2.1 (by rw [hM.1]; rfl) lk_X6_372 (fun q11 hq => k_X6_tells l g hg  hM S10 (6 : Int32) x2 q11 hq) ⟨⟨rfl, rfl⟩, Nat.le_of_ble_eq_true rfl, Nat.le_of_ble_eq_true rfl⟩ rfl hl.1 rfl (Nat.le_of_ble_eq_true rfl) dX6_lateBy_82 ⟨Nat.zero_le _, Nat.zero_le _⟩ (fun q11 H locs hw hf => ?_)
  refine lv_istore hx hb dX6_lateBy_85 hl (by decide) (lv' := [(4, .int q11.1), (3, .int u1), (0, .ref (gg_o g 0)), (1, .int x1), (2, .int x2)]) rfl (fun ls hl => ?_)
  refine lv_iload hx hb dX6_lateBy_87 (lv_at hl 0 rfl) ?_
  refine lv_if_ge hx hb dX6_lateBy_89 (tgt := 96) rfl (fun hc12 => ?_) (fun hc12 => ?_)
  · replace hf := h_pos hc12 hf
    refine lv_iload hx hb dX6_lateBy_96 (lv_at hl 0 rfl) ?_
    refine lv_sipush (v := 240) hx hb dX6_lateBy_98 (by decide) ?_
    refine lv_icmp_le hx hb dX6_lateBy_101 (tgt := 110) rfl (fun hc13 => ?_) (fun hc13 => ?_)
    · replace hf := h_pos hc13 hf
      refine lv_iload hx hb dX6_lateBy_110 (lv_at hl 0 rfl) ?_
      exact r_iretw cx hw hr hlk hf dX6_lateBy_112
    replace hf := h_neg hc13 hf
    refine lv_sipush (v := 240) hx hb dX6_lateBy_104 (by decide) ?_
    refine lv_goto hx hb dX6_lateBy_107 (tgt := 112) rfl ?_
    exact r_iretw cx hw hr hlk hf dX6_lateBy_112
  replace hf := h_neg hc12 hf
  refine lv_iconst (v := 0) hx hb dX6_lateBy_92 (by decide) ?_
  refine lv_goto hx hb dX6_lateBy_93 (tgt := 112) rfl ?_
  exact r_iretw cx hw hr hlk hf dX6_lateBy_112
theorem dX6_fillsLate_0 : decode cX6_fillsLate 0 = .ok (.iconst 0, 1) := by decide +kernel
theorem dX6_fillsLate_1 : decode cX6_fillsLate 1 = .ok (.istore_n 1, 1) := by decide +kernel
theorem dX6_fillsLate_2 : decode cX6_fillsLate 2 = .ok (.iload_n 1, 1) := by decide +kernel
theorem dX6_fillsLate_3 : decode cX6_fillsLate 3 = .ok (.aload_n 0, 1) := by decide +kernel
theorem dX6_fillsLate_4 : decode cX6_fillsLate 4 = .ok (.getfield 70, 3) := by decide +kernel
theorem dX6_fillsLate_7 : decode cX6_fillsLate 7 = .ok (.aload_n 0, 1) := by decide +kernel
theorem dX6_fillsLate_8 : decode cX6_fillsLate 8 = .ok (.getfield 257, 3) := by decide +kernel
theorem dX6_fillsLate_11 : decode cX6_fillsLate 11 = .ok (.iaload, 1) := by decide +kernel
theorem dX6_fillsLate_12 : decode cX6_fillsLate 12 = .ok (.if_icmp .ge 36, 3) := by decide +kernel
theorem dX6_fillsLate_15 : decode cX6_fillsLate 15 = .ok (.aload_n 0, 1) := by decide +kernel
theorem dX6_fillsLate_16 : decode cX6_fillsLate 16 = .ok (.getfield 131, 3) := by decide +kernel
theorem dX6_fillsLate_19 : decode cX6_fillsLate 19 = .ok (.bipush 36, 2) := by decide +kernel
theorem dX6_fillsLate_21 : decode cX6_fillsLate 21 = .ok (.aload_n 0, 1) := by decide +kernel
theorem dX6_fillsLate_22 : decode cX6_fillsLate 22 = .ok (.getfield 348, 3) := by decide +kernel
theorem dX6_fillsLate_25 : decode cX6_fillsLate 25 = .ok (.imul, 1) := by decide +kernel
theorem dX6_fillsLate_26 : decode cX6_fillsLate 26 = .ok (.bipush 28, 2) := by decide +kernel
theorem dX6_fillsLate_28 : decode cX6_fillsLate 28 = .ok (.iadd, 1) := by decide +kernel
theorem dX6_fillsLate_29 : decode cX6_fillsLate 29 = .ok (.iload_n 1, 1) := by decide +kernel
theorem dX6_fillsLate_30 : decode cX6_fillsLate 30 = .ok (.iadd, 1) := by decide +kernel
theorem dX6_fillsLate_31 : decode cX6_fillsLate 31 = .ok (.aload_n 0, 1) := by decide +kernel
theorem dX6_fillsLate_32 : decode cX6_fillsLate 32 = .ok (.iload_n 1, 1) := by decide +kernel
theorem dX6_fillsLate_33 : decode cX6_fillsLate 33 = .ok (.aload_n 0, 1) := by decide +kernel
theorem dX6_fillsLate_34 : decode cX6_fillsLate 34 = .ok (.iload_n 1, 1) := by decide +kernel
theorem dX6_fillsLate_35 : decode cX6_fillsLate 35 = .ok (.invokevirtual 375, 3) := by decide +kernel
theorem dX6_fillsLate_38 : decode cX6_fillsLate 38 = .ok (.invokevirtual 378, 3) := by decide +kernel
theorem dX6_fillsLate_41 : decode cX6_fillsLate 41 = .ok (.iastore, 1) := by decide +kernel
theorem dX6_fillsLate_42 : decode cX6_fillsLate 42 = .ok (.iinc 1 1, 3) := by decide +kernel
theorem dX6_fillsLate_45 : decode cX6_fillsLate 45 = .ok (.goto (-43), 3) := by decide +kernel
theorem dX6_fillsLate_48 : decode cX6_fillsLate 48 = .ok (.return_, 1) := by decide +kernel
abbrev rm_X6_fillsLate : Room := { frames := 3, cells := 0, slots := 0, locals := 77 }
def f_X6_fillsLate_L2  (z2 : Int32 × St) : Option ((Int32 × St) ⊕ (St)) :=
  chk (ib (st_I z2.2 (ky 0 18)) 2) (if (st_A z2.2 (ky 0 31) (st_I z2.2 (ky 0 18)).toNatClampNeg) ≤ z2.1 then (some (.inr z2.2)) else ((f_X6_rankOfOwner  z2.2 z2.1).bind (fun (q2 : Int32) => (f_X6_lateBy  z2.2 z2.1 q2).bind (fun (q3 : Int32 × St) => chk (ib ((((36 : Int32) * (st_I z2.2 (ky 0 57))) + (28 : Int32)) + z2.1) 10800) (lt_v (up_A q3.2 (ky 0 56) (upd (st_A q3.2 (ky 0 56)) ((((36 : Int32) * (st_I z2.2 (ky 0 57))) + (28 : Int32)) + z2.1).toNatClampNeg q3.1)) (fun (S4 : St) => some (.inl ((z2.1 + 1), S4))))))))
def f_X6_fillsLate (S : St)  : Option (St) :=
  iter (f_X6_fillsLate_L2   ) FU ((0 : Int32), S)
set_option maxRecDepth 100000 in
set_option maxHeartbeats 4000000 in
theorem k_X6_fillsLate (l : Launch) (g : GG) (hg : gd wd_M g)  (hM : hs wd_M g 0 6) (S : St)  (q : St) (hf : f_X6_fillsLate  S  = some q) : Met l yX6_fillsLate (Cond.code yX6_fillsLate cX6_fillsLate 2 none :: gw_tbl) rm_X6_fillsLate (va_Pc [.ref (gg_o g 0)] (wI wd_M g S)) (qc_v wd_M g q) 0 0 (aw g) := by
  refine mt_start (own := RX6) hg (by decide) rfl (Nat.le_of_ble_eq_true rfl) (fun p e s m args below meth c ls H locs cx hw hr hlk hl => ?_)
  have hx := cx.1
  have hb := cx.2.1
  have hown := cx.2.2.2.1
  have hts := cx.2.2.2.2.1
  have hl : lv_has ls 2 [(0, .ref (gg_o g 0))] := hl
  replace hf := h_top hf
  unfold f_X6_fillsLate at hf
  refine lv_iconst (v := 0) hx hb dX6_fillsLate_0 (by decide) ?_
  refine lv_istore_n hx hb dX6_fillsLate_1 rfl hl (by decide) (lv' := [(1, .int (0 : Int32)), (0, .ref (gg_o g 0))]) rfl (fun ls hl => ?_)
  have L2 : ∀  (aft2 : St → Option (St)), (∀ v : St, aft2 v = some q → (some v : Option (St)).bind some = some q) → ∀ (n2 : Nat) (ls : Array Slot) (H : Heap) (locs : List Loc) (z2 : Int32 × St), lv_has ls 2 [(0, .ref (gg_o g 0)), (1, .int z2.1)] → HH wd_M g s z2.2 H locs → (iter (f_X6_fillsLate_L2   ) n2 z2).bind aft2 = some q → W p l e rm_X6_fillsLate s m args below meth c H locs 0 0 (MQ below (qc_v wd_M g q) args s 0 0 (aw g)) (F0 m 2 ls []) := by
    intro aft2 hR2 n2
    induction n2 with
    | zero => intro ls H locs z2 hl hw hf; exact h_iter0 hf
    | succ n2 ih2 =>
      intro ls H locs z2 hl hw hf
      replace hf := h_iter hf
      unfold f_X6_fillsLate_L2 at hf
      refine lv_iload_n hx hb dX6_fillsLate_2 rfl (lv_at hl 1 rfl) ?_
      refine lv_aload_n hx hb dX6_fillsLate_3 rfl (lv_at hl 0 rfl) ?_
      refine gf_X6_70 cx hw hM dX6_fillsLate_4 ?_
      refine lv_aload_n hx hb dX6_fillsLate_7 rfl (lv_at hl 0 rfl) ?_
      refine gf_X6_257 cx hw hM dX6_fillsLate_8 ?_
      refine r_iald cx hw (hM.2.2.1 31 rfl) rfl rfl hf dX6_fillsLate_11 (fun hf => ?_)
      refine lv_icmp_ge hx hb dX6_fillsLate_12 (tgt := 48) rfl (fun hc1 => ?_) (fun hc1 => ?_)
      · replace hf := h_pos hc1 hf
        replace hf := hR2 z2.2 hf
        exact r_vret cx hw hr hlk hf dX6_fillsLate_48
      replace hf := h_neg hc1 hf
      refine lv_aload_n hx hb dX6_fillsLate_15 rfl (lv_at hl 0 rfl) ?_
      refine gf_X6_131 cx hw hM dX6_fillsLate_16 ?_
      refine lv_bipush (v := 36) hx hb dX6_fillsLate_19 (by decide) ?_
      refine lv_aload_n hx hb dX6_fillsLate_21 rfl (lv_at hl 0 rfl) ?_
      refine gf_X6_348 cx hw hM dX6_fillsLate_22 ?_
      refine lv_imul hx hb dX6_fillsLate_25 ?_
      refine lv_bipush (v := 28) hx hb dX6_fillsLate_26 (by decide) ?_
      refine lv_iadd hx hb dX6_fillsLate_28 ?_
      refine lv_iload_n hx hb dX6_fillsLate_29 rfl (lv_at hl 1 rfl) ?_
      refine lv_iadd hx hb dX6_fillsLate_30 ?_
      refine lv_aload_n hx hb dX6_fillsLate_31 rfl (lv_at hl 0 rfl) ?_
      refine lv_iload_n hx hb dX6_fillsLate_32 rfl (lv_at hl 1 rfl) ?_
      refine lv_aload_n hx hb dX6_fillsLate_33 rfl (lv_at hl 0 rfl) ?_
      refine lv_iload_n hx hb dX6_fillsLate_34 rfl (lv_at hl 1 rfl) ?_
      refine r_V_i (As := [.int z2.1]) (rest := [.int z2.1, .ref (gg_o g 0), .int ((((36 : Int32) * (st_I z2.2 (ky 0 57))) + (28 : Int32)) + z2.1), .ref (gg_a g (ky 0 56))]) cx hw hf hM.2.1 (by rw [hM.1]; rfl) lk_X6_375 (fun q2 hq => k_X6_rankOfOwner l g hg  hM z2.2 z2.1 q2 hq) ⟨⟨rfl, rfl⟩, Nat.le_of_ble_eq_true rfl, Nat.le_of_ble_eq_true rfl⟩ rfl hl.1 rfl (Nat.le_of_ble_eq_true rfl) dX6_fillsLate_35 ⟨Nat.zero_le _, Nat.zero_le _⟩ (fun q2 H locs hw hf => ?_)
      refine r_V_w (As := [.int z2.1, .int q2]) (rest := [.int ((((36 : Int32) * (st_I z2.2 (ky 0 57))) + (28 : Int32)) + z2.1), .ref (gg_a g (ky 0 56))]) cx hw hf hM.2.1 (by rw [hM.1]; rfl) lk_X6_378 (fun q3 hq => k_X6_lateBy l g hg  hM z2.2 z2.1 q2 q3 hq) ⟨⟨rfl, rfl⟩, Nat.le_of_ble_eq_true rfl, Nat.le_of_ble_eq_true rfl⟩ rfl hl.1 rfl (Nat.le_of_ble_eq_true rfl) dX6_fillsLate_38 ⟨Nat.zero_le _, Nat.zero_le _⟩ (fun q3 H locs hw hf => ?_)
      refine r_iast cx hw (hM.2.2.1 56 rfl) rfl rfl hf dX6_fillsLate_41 (fun S4 H locs hw hf => ?_)
      refine lv_iinc hx hb dX6_fillsLate_42 hl (k := 1) rfl (congrArg (HAdd.hAdd _) (show Int32.ofInt (1) = 1 by decide)) (by decide) (lv' := [(1, .int (z2.1 + 1)), (0, .ref (gg_o g 0))]) rfl (fun ls hl => ?_)
      refine lv_goto hx hb dX6_fillsLate_45 (tgt := 2) rfl ?_
      exact ih2 _ _ _ ((z2.1 + 1), S4) (lv_sub hl [1, 0] rfl) hw hf
  exact L2 some (fun v h => h) FU _ _ _ ((0 : Int32), S) (lv_sub hl [1, 0] rfl) hw hf
theorem dX6_beginsWith_0 : decode cX6_beginsWith 0 = .ok (.aload_n 0, 1) := by decide +kernel
theorem dX6_beginsWith_1 : decode cX6_beginsWith 1 = .ok (.iconst 0, 1) := by decide +kernel
theorem dX6_beginsWith_2 : decode cX6_beginsWith 2 = .ok (.putfield 348, 3) := by decide +kernel
theorem dX6_beginsWith_5 : decode cX6_beginsWith 5 = .ok (.iconst 0, 1) := by decide +kernel
theorem dX6_beginsWith_6 : decode cX6_beginsWith 6 = .ok (.istore_n 3, 1) := by decide +kernel
theorem dX6_beginsWith_7 : decode cX6_beginsWith 7 = .ok (.iload_n 3, 1) := by decide +kernel
theorem dX6_beginsWith_8 : decode cX6_beginsWith 8 = .ok (.bipush 36, 2) := by decide +kernel
theorem dX6_beginsWith_10 : decode cX6_beginsWith 10 = .ok (.if_icmp .ge 16, 3) := by decide +kernel
theorem dX6_beginsWith_13 : decode cX6_beginsWith 13 = .ok (.aload_n 0, 1) := by decide +kernel
theorem dX6_beginsWith_14 : decode cX6_beginsWith 14 = .ok (.getfield 131, 3) := by decide +kernel
theorem dX6_beginsWith_17 : decode cX6_beginsWith 17 = .ok (.iload_n 3, 1) := by decide +kernel
theorem dX6_beginsWith_18 : decode cX6_beginsWith 18 = .ok (.iconst 0, 1) := by decide +kernel
theorem dX6_beginsWith_19 : decode cX6_beginsWith 19 = .ok (.iastore, 1) := by decide +kernel
theorem dX6_beginsWith_20 : decode cX6_beginsWith 20 = .ok (.iinc 3 1, 3) := by decide +kernel
theorem dX6_beginsWith_23 : decode cX6_beginsWith 23 = .ok (.goto (-16), 3) := by decide +kernel
theorem dX6_beginsWith_26 : decode cX6_beginsWith 26 = .ok (.iconst 0, 1) := by decide +kernel
theorem dX6_beginsWith_27 : decode cX6_beginsWith 27 = .ok (.istore_n 3, 1) := by decide +kernel
theorem dX6_beginsWith_28 : decode cX6_beginsWith 28 = .ok (.iload_n 3, 1) := by decide +kernel
theorem dX6_beginsWith_29 : decode cX6_beginsWith 29 = .ok (.aload_n 0, 1) := by decide +kernel
theorem dX6_beginsWith_30 : decode cX6_beginsWith 30 = .ok (.getfield 61, 3) := by decide +kernel
theorem dX6_beginsWith_33 : decode cX6_beginsWith 33 = .ok (.aload_n 0, 1) := by decide +kernel
theorem dX6_beginsWith_34 : decode cX6_beginsWith 34 = .ok (.getfield 257, 3) := by decide +kernel
theorem dX6_beginsWith_37 : decode cX6_beginsWith 37 = .ok (.iaload, 1) := by decide +kernel
theorem dX6_beginsWith_38 : decode cX6_beginsWith 38 = .ok (.if_icmp .ge 61, 3) := by decide +kernel
theorem dX6_beginsWith_41 : decode cX6_beginsWith 41 = .ok (.aload_n 0, 1) := by decide +kernel
theorem dX6_beginsWith_42 : decode cX6_beginsWith 42 = .ok (.getfield 131, 3) := by decide +kernel
theorem dX6_beginsWith_45 : decode cX6_beginsWith 45 = .ok (.iload_n 3, 1) := by decide +kernel
theorem dX6_beginsWith_46 : decode cX6_beginsWith 46 = .ok (.iload_n 3, 1) := by decide +kernel
theorem dX6_beginsWith_47 : decode cX6_beginsWith 47 = .ok (.iload_n 1, 1) := by decide +kernel
theorem dX6_beginsWith_48 : decode cX6_beginsWith 48 = .ok (.if_icmp .ne 7, 3) := by decide +kernel
theorem dX6_beginsWith_51 : decode cX6_beginsWith 51 = .ok (.iload_n 2, 1) := by decide +kernel
theorem dX6_beginsWith_52 : decode cX6_beginsWith 52 = .ok (.goto 17, 3) := by decide +kernel
theorem dX6_beginsWith_55 : decode cX6_beginsWith 55 = .ok (.aload_n 0, 1) := by decide +kernel
theorem dX6_beginsWith_56 : decode cX6_beginsWith 56 = .ok (.getfield 67, 3) := by decide +kernel
theorem dX6_beginsWith_59 : decode cX6_beginsWith 59 = .ok (.bipush 6, 2) := by decide +kernel
theorem dX6_beginsWith_61 : decode cX6_beginsWith 61 = .ok (.aload_n 0, 1) := by decide +kernel
theorem dX6_beginsWith_62 : decode cX6_beginsWith 62 = .ok (.getfield 257, 3) := by decide +kernel
theorem dX6_beginsWith_65 : decode cX6_beginsWith 65 = .ok (.imul, 1) := by decide +kernel
theorem dX6_beginsWith_66 : decode cX6_beginsWith 66 = .ok (.iload_n 3, 1) := by decide +kernel
theorem dX6_beginsWith_67 : decode cX6_beginsWith 67 = .ok (.iadd, 1) := by decide +kernel
theorem dX6_beginsWith_68 : decode cX6_beginsWith 68 = .ok (.iaload, 1) := by decide +kernel
theorem dX6_beginsWith_69 : decode cX6_beginsWith 69 = .ok (.iastore, 1) := by decide +kernel
theorem dX6_beginsWith_70 : decode cX6_beginsWith 70 = .ok (.aload_n 0, 1) := by decide +kernel
theorem dX6_beginsWith_71 : decode cX6_beginsWith 71 = .ok (.getfield 131, 3) := by decide +kernel
theorem dX6_beginsWith_74 : decode cX6_beginsWith 74 = .ok (.bipush 6, 2) := by decide +kernel
theorem dX6_beginsWith_76 : decode cX6_beginsWith 76 = .ok (.iload_n 3, 1) := by decide +kernel
theorem dX6_beginsWith_77 : decode cX6_beginsWith 77 = .ok (.iadd, 1) := by decide +kernel
theorem dX6_beginsWith_78 : decode cX6_beginsWith 78 = .ok (.aload_n 0, 1) := by decide +kernel
theorem dX6_beginsWith_79 : decode cX6_beginsWith 79 = .ok (.getfield 64, 3) := by decide +kernel
theorem dX6_beginsWith_82 : decode cX6_beginsWith 82 = .ok (.bipush 6, 2) := by decide +kernel
theorem dX6_beginsWith_84 : decode cX6_beginsWith 84 = .ok (.aload_n 0, 1) := by decide +kernel
theorem dX6_beginsWith_85 : decode cX6_beginsWith 85 = .ok (.getfield 257, 3) := by decide +kernel
theorem dX6_beginsWith_88 : decode cX6_beginsWith 88 = .ok (.imul, 1) := by decide +kernel
theorem dX6_beginsWith_89 : decode cX6_beginsWith 89 = .ok (.iload_n 3, 1) := by decide +kernel
theorem dX6_beginsWith_90 : decode cX6_beginsWith 90 = .ok (.iadd, 1) := by decide +kernel
theorem dX6_beginsWith_91 : decode cX6_beginsWith 91 = .ok (.iaload, 1) := by decide +kernel
theorem dX6_beginsWith_92 : decode cX6_beginsWith 92 = .ok (.iastore, 1) := by decide +kernel
theorem dX6_beginsWith_93 : decode cX6_beginsWith 93 = .ok (.iinc 3 1, 3) := by decide +kernel
theorem dX6_beginsWith_96 : decode cX6_beginsWith 96 = .ok (.goto (-68), 3) := by decide +kernel
theorem dX6_beginsWith_99 : decode cX6_beginsWith 99 = .ok (.iconst 0, 1) := by decide +kernel
theorem dX6_beginsWith_100 : decode cX6_beginsWith 100 = .ok (.istore_n 3, 1) := by decide +kernel
theorem dX6_beginsWith_101 : decode cX6_beginsWith 101 = .ok (.iload_n 3, 1) := by decide +kernel
theorem dX6_beginsWith_102 : decode cX6_beginsWith 102 = .ok (.bipush 8, 2) := by decide +kernel
theorem dX6_beginsWith_104 : decode cX6_beginsWith 104 = .ok (.if_icmp .ge 47, 3) := by decide +kernel
theorem dX6_beginsWith_107 : decode cX6_beginsWith 107 = .ok (.aload_n 0, 1) := by decide +kernel
theorem dX6_beginsWith_108 : decode cX6_beginsWith 108 = .ok (.getfield 131, 3) := by decide +kernel
theorem dX6_beginsWith_111 : decode cX6_beginsWith 111 = .ok (.bipush 12, 2) := by decide +kernel
theorem dX6_beginsWith_113 : decode cX6_beginsWith 113 = .ok (.iload_n 3, 1) := by decide +kernel
theorem dX6_beginsWith_114 : decode cX6_beginsWith 114 = .ok (.iadd, 1) := by decide +kernel
theorem dX6_beginsWith_115 : decode cX6_beginsWith 115 = .ok (.aload_n 0, 1) := by decide +kernel
theorem dX6_beginsWith_116 : decode cX6_beginsWith 116 = .ok (.getfield 73, 3) := by decide +kernel
theorem dX6_beginsWith_119 : decode cX6_beginsWith 119 = .ok (.bipush 8, 2) := by decide +kernel
theorem dX6_beginsWith_121 : decode cX6_beginsWith 121 = .ok (.aload_n 0, 1) := by decide +kernel
theorem dX6_beginsWith_122 : decode cX6_beginsWith 122 = .ok (.getfield 257, 3) := by decide +kernel
theorem dX6_beginsWith_125 : decode cX6_beginsWith 125 = .ok (.imul, 1) := by decide +kernel
theorem dX6_beginsWith_126 : decode cX6_beginsWith 126 = .ok (.iload_n 3, 1) := by decide +kernel
theorem dX6_beginsWith_127 : decode cX6_beginsWith 127 = .ok (.iadd, 1) := by decide +kernel
theorem dX6_beginsWith_128 : decode cX6_beginsWith 128 = .ok (.iaload, 1) := by decide +kernel
theorem dX6_beginsWith_129 : decode cX6_beginsWith 129 = .ok (.iastore, 1) := by decide +kernel
theorem dX6_beginsWith_130 : decode cX6_beginsWith 130 = .ok (.aload_n 0, 1) := by decide +kernel
theorem dX6_beginsWith_131 : decode cX6_beginsWith 131 = .ok (.getfield 134, 3) := by decide +kernel
theorem dX6_beginsWith_134 : decode cX6_beginsWith 134 = .ok (.iload_n 3, 1) := by decide +kernel
theorem dX6_beginsWith_135 : decode cX6_beginsWith 135 = .ok (.iconst (-1), 1) := by decide +kernel
theorem dX6_beginsWith_136 : decode cX6_beginsWith 136 = .ok (.iastore, 1) := by decide +kernel
theorem dX6_beginsWith_137 : decode cX6_beginsWith 137 = .ok (.aload_n 0, 1) := by decide +kernel
theorem dX6_beginsWith_138 : decode cX6_beginsWith 138 = .ok (.getfield 137, 3) := by decide +kernel
theorem dX6_beginsWith_141 : decode cX6_beginsWith 141 = .ok (.iload_n 3, 1) := by decide +kernel
theorem dX6_beginsWith_142 : decode cX6_beginsWith 142 = .ok (.bipush (-2), 2) := by decide +kernel
theorem dX6_beginsWith_144 : decode cX6_beginsWith 144 = .ok (.iastore, 1) := by decide +kernel
theorem dX6_beginsWith_145 : decode cX6_beginsWith 145 = .ok (.iinc 3 1, 3) := by decide +kernel
theorem dX6_beginsWith_148 : decode cX6_beginsWith 148 = .ok (.goto (-47), 3) := by decide +kernel
theorem dX6_beginsWith_151 : decode cX6_beginsWith 151 = .ok (.aload_n 0, 1) := by decide +kernel
theorem dX6_beginsWith_152 : decode cX6_beginsWith 152 = .ok (.aload_n 0, 1) := by decide +kernel
theorem dX6_beginsWith_153 : decode cX6_beginsWith 153 = .ok (.getfield 82, 3) := by decide +kernel
theorem dX6_beginsWith_156 : decode cX6_beginsWith 156 = .ok (.aload_n 0, 1) := by decide +kernel
theorem dX6_beginsWith_157 : decode cX6_beginsWith 157 = .ok (.getfield 257, 3) := by decide +kernel
theorem dX6_beginsWith_160 : decode cX6_beginsWith 160 = .ok (.iaload, 1) := by decide +kernel
theorem dX6_beginsWith_161 : decode cX6_beginsWith 161 = .ok (.putfield 351, 3) := by decide +kernel
theorem dX6_beginsWith_164 : decode cX6_beginsWith 164 = .ok (.aload_n 0, 1) := by decide +kernel
theorem dX6_beginsWith_165 : decode cX6_beginsWith 165 = .ok (.invokevirtual 354, 3) := by decide +kernel
theorem dX6_beginsWith_168 : decode cX6_beginsWith 168 = .ok (.return_, 1) := by decide +kernel
abbrev rm_X6_beginsWith : Room := { frames := 4, cells := 0, slots := 0, locals := 98 }
def f_X6_beginsWith_L7 (x1 : Int32) (x2 : Int32) (z7 : Int32 × St) : Option ((Int32 × St) ⊕ (St)) :=
  if (36 : Int32) ≤ z7.1 then (some (.inr z7.2)) else (chk (ib z7.1 10800) (lt_v (up_A z7.2 (ky 0 56) (upd (st_A z7.2 (ky 0 56)) z7.1.toNatClampNeg (0 : Int32))) (fun (S3 : St) => some (.inl ((z7.1 + 1), S3)))))
def f_X6_beginsWith_J69 (S : St) (x1 : Int32) (x2 : Int32) (x3 : Int32) (y0 : Int32) (y1 : Int32) : Option ((Int32 × St) ⊕ (St)) :=
  chk (ib y1 10800) (lt_v (up_A S (ky 0 56) (upd (st_A S (ky 0 56)) y1.toNatClampNeg y0)) (fun (S7 : St) => chk (ib (((6 : Int32) * (st_I S7 (ky 0 18))) + x3) 12) (chk (ib ((6 : Int32) + x3) 10800) (lt_v (up_A S7 (ky 0 56) (upd (st_A S7 (ky 0 56)) ((6 : Int32) + x3).toNatClampNeg (st_A S7 (ky 0 29) (((6 : Int32) * (st_I S7 (ky 0 18))) + x3).toNatClampNeg))) (fun (S8 : St) => some (.inl ((x3 + 1), S8)))))))
def f_X6_beginsWith_L28 (x1 : Int32) (x2 : Int32) (z28 : Int32 × St) : Option ((Int32 × St) ⊕ (St)) :=
  chk (ib (st_I z28.2 (ky 0 18)) 2) (if (st_A z28.2 (ky 0 28) (st_I z28.2 (ky 0 18)).toNatClampNeg) ≤ z28.1 then (some (.inr z28.2)) else (if z28.1 = x1 then (f_X6_beginsWith_J69  z28.2 x1 x2 z28.1 x2 z28.1) else (chk (ib (((6 : Int32) * (st_I z28.2 (ky 0 18))) + z28.1) 12) (f_X6_beginsWith_J69  z28.2 x1 x2 z28.1 (st_A z28.2 (ky 0 30) (((6 : Int32) * (st_I z28.2 (ky 0 18))) + z28.1).toNatClampNeg) z28.1))))
def f_X6_beginsWith_L101  (z101 : Int32 × St) : Option ((Int32 × St) ⊕ (St)) :=
  if (8 : Int32) ≤ z101.1 then (some (.inr z101.2)) else (chk (ib (((8 : Int32) * (st_I z101.2 (ky 0 18))) + z101.1) 16) (chk (ib ((12 : Int32) + z101.1) 10800) (lt_v (up_A z101.2 (ky 0 56) (upd (st_A z101.2 (ky 0 56)) ((12 : Int32) + z101.1).toNatClampNeg (st_A z101.2 (ky 0 32) (((8 : Int32) * (st_I z101.2 (ky 0 18))) + z101.1).toNatClampNeg))) (fun (S11 : St) => chk (ib z101.1 8) (lt_v (up_A S11 (ky 0 58) (upd (st_A S11 (ky 0 58)) z101.1.toNatClampNeg (-1 : Int32))) (fun (S12 : St) => chk (ib z101.1 8) (lt_v (up_A S12 (ky 0 59) (upd (st_A S12 (ky 0 59)) z101.1.toNatClampNeg (-2 : Int32))) (fun (S13 : St) => some (.inl ((z101.1 + 1), S13))))))))))
def f_X6_beginsWith (S : St) (x1 : Int32) (x2 : Int32) : Option (St) :=
  lt_v (up_I S (ky 0 57) (0 : Int32)) (fun (S1 : St) => (iter (f_X6_beginsWith_L7   x1 x2) FU ((0 : Int32), S1)).bind (fun (S4 : St) => (iter (f_X6_beginsWith_L28   x1 x2) FU ((0 : Int32), S4)).bind (fun (S9 : St) => (iter (f_X6_beginsWith_L101   ) FU ((0 : Int32), S9)).bind (fun (S14 : St) => chk (ib (st_I S14 (ky 0 18)) 2) (lt_v (up_I S14 (ky 0 60) (st_A S14 (ky 0 35) (st_I S14 (ky 0 18)).toNatClampNeg)) (fun (S15 : St) => (f_X6_fillsLate  S15 ).bind (fun (q16 : St) => some q16)))))))
set_option maxRecDepth 100000 in
set_option maxHeartbeats 4000000 in
theorem k_X6_beginsWith (l : Launch) (g : GG) (hg : gd wd_M g)  (hM : hs wd_M g 0 6) (S : St) (x1 : Int32) (x2 : Int32) (q : St) (hf : f_X6_beginsWith  S x1 x2 = some q) : Met l yX6_beginsWith (Cond.code yX6_beginsWith cX6_beginsWith 4 none :: gw_tbl) rm_X6_beginsWith (va_Pc [.ref (gg_o g 0), .int x1, .int x2] (wI wd_M g S)) (qc_v wd_M g q) 0 0 (aw g) := by
  refine mt_start (own := RX6) hg (by decide) rfl (Nat.le_of_ble_eq_true rfl) (fun p e s m args below meth c ls H locs cx hw hr hlk hl => ?_)
  have hx := cx.1
  have hb := cx.2.1
  have hown := cx.2.2.2.1
  have hts := cx.2.2.2.2.1
  have hl : lv_has ls 4 [(0, .ref (gg_o g 0)), (1, .int x1), (2, .int x2)] := hl
  replace hf := h_top hf
  unfold f_X6_beginsWith at hf
  refine lv_aload_n hx hb dX6_beginsWith_0 rfl (lv_at hl 0 rfl) ?_
  refine lv_iconst (v := 0) hx hb dX6_beginsWith_1 (by decide) ?_
  refine pf_X6_348 cx hw hM hf dX6_beginsWith_2 (fun S1 H locs hw hf => ?_)
  refine lv_iconst (v := 0) hx hb dX6_beginsWith_5 (by decide) ?_
  refine lv_istore_n hx hb dX6_beginsWith_6 rfl hl (by decide) (lv' := [(3, .int (0 : Int32)), (0, .ref (gg_o g 0)), (1, .int x1), (2, .int x2)]) rfl (fun ls hl => ?_)
  have L7 : ∀ (x1 : Int32) (x2 : Int32) (aft7 : St → Option (St)), (∀ (ls : Array Slot) (H : Heap) (locs : List Loc) (S1 : St), lv_has ls 4 [(0, .ref (gg_o g 0)), (1, .int x1), (2, .int x2)] → HH wd_M g s S1 H locs → aft7 S1 = some q → W p l e rm_X6_beginsWith s m args below meth c H locs 0 0 (MQ below (qc_v wd_M g q) args s 0 0 (aw g)) (F0 m 26 ls [])) → ∀ (n7 : Nat) (ls : Array Slot) (H : Heap) (locs : List Loc) (z7 : Int32 × St), lv_has ls 4 [(0, .ref (gg_o g 0)), (1, .int x1), (2, .int x2), (3, .int z7.1)] → HH wd_M g s z7.2 H locs → (iter (f_X6_beginsWith_L7   x1 x2) n7 z7).bind aft7 = some q → W p l e rm_X6_beginsWith s m args below meth c H locs 0 0 (MQ below (qc_v wd_M g q) args s 0 0 (aw g)) (F0 m 7 ls []) := by
    intro x1 x2 aft7 hX7 n7
    induction n7 with
    | zero => intro ls H locs z7 hl hw hf; exact h_iter0 hf
    | succ n7 ih7 =>
      intro ls H locs z7 hl hw hf
      replace hf := h_iter hf
      unfold f_X6_beginsWith_L7 at hf
      refine lv_iload_n hx hb dX6_beginsWith_7 rfl (lv_at hl 3 rfl) ?_
      refine lv_bipush (v := 36) hx hb dX6_beginsWith_8 (by decide) ?_
      refine lv_icmp_ge hx hb dX6_beginsWith_10 (tgt := 26) rfl (fun hc2 => ?_) (fun hc2 => ?_)
      · replace hf := h_pos hc2 hf
        exact hX7 _ _ _ z7.2 (lv_sub hl [0, 1, 2] rfl) hw hf
      replace hf := h_neg hc2 hf
      refine lv_aload_n hx hb dX6_beginsWith_13 rfl (lv_at hl 0 rfl) ?_
      refine gf_X6_131 cx hw hM dX6_beginsWith_14 ?_
      refine lv_iload_n hx hb dX6_beginsWith_17 rfl (lv_at hl 3 rfl) ?_
      refine lv_iconst (v := 0) hx hb dX6_beginsWith_18 (by decide) ?_
      refine r_iast cx hw (hM.2.2.1 56 rfl) rfl rfl hf dX6_beginsWith_19 (fun S3 H locs hw hf => ?_)
      refine lv_iinc hx hb dX6_beginsWith_20 hl (k := 3) rfl (congrArg (HAdd.hAdd _) (show Int32.ofInt (1) = 1 by decide)) (by decide) (lv' := [(3, .int (z7.1 + 1)), (0, .ref (gg_o g 0)), (1, .int x1), (2, .int x2)]) rfl (fun ls hl => ?_)
      refine lv_goto hx hb dX6_beginsWith_23 (tgt := 7) rfl ?_
      exact ih7 _ _ _ ((z7.1 + 1), S3) (lv_sub hl [1, 2, 3, 0] rfl) hw hf
  refine L7 x1 x2 _ (fun ls H locs S4 hl hw hf => ?_) FU _ _ _ ((0 : Int32), S1) (lv_sub hl [1, 2, 3, 0] rfl) hw (h_assoc hf)
  try dsimp only at hf
  refine lv_iconst (v := 0) hx hb dX6_beginsWith_26 (by decide) ?_
  refine lv_istore_n hx hb dX6_beginsWith_27 rfl hl (by decide) (lv' := [(3, .int (0 : Int32)), (0, .ref (gg_o g 0)), (1, .int x1), (2, .int x2)]) rfl (fun ls hl => ?_)
  have L28 : ∀ (x1 : Int32) (x2 : Int32) (aft28 : St → Option (St)), (∀ (ls : Array Slot) (H : Heap) (locs : List Loc) (S1 : St), lv_has ls 4 [(0, .ref (gg_o g 0))] → HH wd_M g s S1 H locs → aft28 S1 = some q → W p l e rm_X6_beginsWith s m args below meth c H locs 0 0 (MQ below (qc_v wd_M g q) args s 0 0 (aw g)) (F0 m 99 ls [])) → ∀ (n28 : Nat) (ls : Array Slot) (H : Heap) (locs : List Loc) (z28 : Int32 × St), lv_has ls 4 [(0, .ref (gg_o g 0)), (1, .int x1), (2, .int x2), (3, .int z28.1)] → HH wd_M g s z28.2 H locs → (iter (f_X6_beginsWith_L28   x1 x2) n28 z28).bind aft28 = some q → W p l e rm_X6_beginsWith s m args below meth c H locs 0 0 (MQ below (qc_v wd_M g q) args s 0 0 (aw g)) (F0 m 28 ls []) := by
    intro x1 x2 aft28 hX28 n28
    induction n28 with
    | zero => intro ls H locs z28 hl hw hf; exact h_iter0 hf
    | succ n28 ih28 =>
      intro ls H locs z28 hl hw hf
      replace hf := h_iter hf
      unfold f_X6_beginsWith_L28 at hf
      have J69 : ∀ (ls : Array Slot) (H : Heap) (locs : List Loc) (S : St) (x3 : Int32) (y0 : Int32) (y1 : Int32), lv_has ls 4 [(0, .ref (gg_o g 0)), (1, .int x1), (2, .int x2), (3, .int x3)] → HH wd_M g s S H locs → (f_X6_beginsWith_J69  S x1 x2 x3 y0 y1).bind (it_K (f_X6_beginsWith_L28   x1 x2) n28 aft28) = some q → W p l e rm_X6_beginsWith s m args below meth c H locs 0 0 (MQ below (qc_v wd_M g q) args s 0 0 (aw g)) (F0 m 69 ls [.int y0, .int y1, .ref (gg_a g (ky 0 56))]) := by
        intro ls H locs S x3 y0 y1 hl hw hf
        unfold f_X6_beginsWith_J69 at hf
        refine r_iast cx hw (hM.2.2.1 56 rfl) rfl rfl hf dX6_beginsWith_69 (fun S7 H locs hw hf => ?_)
        refine lv_aload_n hx hb dX6_beginsWith_70 rfl (lv_at hl 0 rfl) ?_
        refine gf_X6_131 cx hw hM dX6_beginsWith_71 ?_
        refine lv_bipush (v := 6) hx hb dX6_beginsWith_74 (by decide) ?_
        refine lv_iload_n hx hb dX6_beginsWith_76 rfl (lv_at hl 3 rfl) ?_
        refine lv_iadd hx hb dX6_beginsWith_77 ?_
        refine lv_aload_n hx hb dX6_beginsWith_78 rfl (lv_at hl 0 rfl) ?_
        refine gf_X6_64 cx hw hM dX6_beginsWith_79 ?_
        refine lv_bipush (v := 6) hx hb dX6_beginsWith_82 (by decide) ?_
        refine lv_aload_n hx hb dX6_beginsWith_84 rfl (lv_at hl 0 rfl) ?_
        refine gf_X6_257 cx hw hM dX6_beginsWith_85 ?_
        refine lv_imul hx hb dX6_beginsWith_88 ?_
        refine lv_iload_n hx hb dX6_beginsWith_89 rfl (lv_at hl 3 rfl) ?_
        refine lv_iadd hx hb dX6_beginsWith_90 ?_
        refine r_iald cx hw (hM.2.2.1 29 rfl) rfl rfl hf dX6_beginsWith_91 (fun hf => ?_)
        refine r_iast cx hw (hM.2.2.1 56 rfl) rfl rfl hf dX6_beginsWith_92 (fun S8 H locs hw hf => ?_)
        refine lv_iinc hx hb dX6_beginsWith_93 hl (k := 3) rfl (congrArg (HAdd.hAdd _) (show Int32.ofInt (1) = 1 by decide)) (by decide) (lv' := [(3, .int (x3 + 1)), (0, .ref (gg_o g 0)), (1, .int x1), (2, .int x2)]) rfl (fun ls hl => ?_)
        refine lv_goto hx hb dX6_beginsWith_96 (tgt := 28) rfl ?_
        exact ih28 _ _ _ ((x3 + 1), S8) (lv_sub hl [1, 2, 3, 0] rfl) hw hf
      refine lv_iload_n hx hb dX6_beginsWith_28 rfl (lv_at hl 3 rfl) ?_
      refine lv_aload_n hx hb dX6_beginsWith_29 rfl (lv_at hl 0 rfl) ?_
      refine gf_X6_61 cx hw hM dX6_beginsWith_30 ?_
      refine lv_aload_n hx hb dX6_beginsWith_33 rfl (lv_at hl 0 rfl) ?_
      refine gf_X6_257 cx hw hM dX6_beginsWith_34 ?_
      refine r_iald cx hw (hM.2.2.1 28 rfl) rfl rfl hf dX6_beginsWith_37 (fun hf => ?_)
      refine lv_icmp_ge hx hb dX6_beginsWith_38 (tgt := 99) rfl (fun hc5 => ?_) (fun hc5 => ?_)
      · replace hf := h_pos hc5 hf
        exact hX28 _ _ _ z28.2 (lv_sub hl [0] rfl) hw hf
      replace hf := h_neg hc5 hf
      refine lv_aload_n hx hb dX6_beginsWith_41 rfl (lv_at hl 0 rfl) ?_
      refine gf_X6_131 cx hw hM dX6_beginsWith_42 ?_
      refine lv_iload_n hx hb dX6_beginsWith_45 rfl (lv_at hl 3 rfl) ?_
      refine lv_iload_n hx hb dX6_beginsWith_46 rfl (lv_at hl 3 rfl) ?_
      refine lv_iload_n hx hb dX6_beginsWith_47 rfl (lv_at hl 1 rfl) ?_
      refine lv_icmp_ne hx hb dX6_beginsWith_48 (tgt := 55) rfl (fun hc6 => ?_) (fun hc6 => ?_)
      · replace hf := h_neg hc6 hf
        refine lv_aload_n hx hb dX6_beginsWith_55 rfl (lv_at hl 0 rfl) ?_
        refine gf_X6_67 cx hw hM dX6_beginsWith_56 ?_
        refine lv_bipush (v := 6) hx hb dX6_beginsWith_59 (by decide) ?_
        refine lv_aload_n hx hb dX6_beginsWith_61 rfl (lv_at hl 0 rfl) ?_
        refine gf_X6_257 cx hw hM dX6_beginsWith_62 ?_
        refine lv_imul hx hb dX6_beginsWith_65 ?_
        refine lv_iload_n hx hb dX6_beginsWith_66 rfl (lv_at hl 3 rfl) ?_
        refine lv_iadd hx hb dX6_beginsWith_67 ?_
        refine r_iald cx hw (hM.2.2.1 30 rfl) rfl rfl hf dX6_beginsWith_68 (fun hf => ?_)
        exact J69 _ _ _ z28.2 z28.1 (st_A z28.2 (ky 0 30) (((6 : Int32) * (st_I z28.2 (ky 0 18))) + z28.1).toNatClampNeg) z28.1 (lv_sub hl [0, 1, 2, 3] rfl) hw hf
      replace hf := h_pos hc6 hf
      refine lv_iload_n hx hb dX6_beginsWith_51 rfl (lv_at hl 2 rfl) ?_
      refine lv_goto hx hb dX6_beginsWith_52 (tgt := 69) rfl ?_
      exact J69 _ _ _ z28.2 z28.1 x2 z28.1 (lv_sub hl [0, 1, 2, 3] rfl) hw hf
  refine L28 x1 x2 _ (fun ls H locs S9 hl hw hf => ?_) FU _ _ _ ((0 : Int32), S4) (lv_sub hl [1, 2, 3, 0] rfl) hw (h_assoc hf)
  try dsimp only at hf
  refine lv_iconst (v := 0) hx hb dX6_beginsWith_99 (by decide) ?_
  refine lv_istore_n hx hb dX6_beginsWith_100 rfl hl (by decide) (lv' := [(3, .int (0 : Int32)), (0, .ref (gg_o g 0))]) rfl (fun ls hl => ?_)
  have L101 : ∀  (aft101 : St → Option (St)), (∀ (ls : Array Slot) (H : Heap) (locs : List Loc) (S1 : St), lv_has ls 4 [(0, .ref (gg_o g 0))] → HH wd_M g s S1 H locs → aft101 S1 = some q → W p l e rm_X6_beginsWith s m args below meth c H locs 0 0 (MQ below (qc_v wd_M g q) args s 0 0 (aw g)) (F0 m 151 ls [])) → ∀ (n101 : Nat) (ls : Array Slot) (H : Heap) (locs : List Loc) (z101 : Int32 × St), lv_has ls 4 [(0, .ref (gg_o g 0)), (3, .int z101.1)] → HH wd_M g s z101.2 H locs → (iter (f_X6_beginsWith_L101   ) n101 z101).bind aft101 = some q → W p l e rm_X6_beginsWith s m args below meth c H locs 0 0 (MQ below (qc_v wd_M g q) args s 0 0 (aw g)) (F0 m 101 ls []) := by
    intro aft101 hX101 n101
    induction n101 with
    | zero => intro ls H locs z101 hl hw hf; exact h_iter0 hf
    | succ n101 ih101 =>
      intro ls H locs z101 hl hw hf
      replace hf := h_iter hf
      unfold f_X6_beginsWith_L101 at hf
      refine lv_iload_n hx hb dX6_beginsWith_101 rfl (lv_at hl 1 rfl) ?_
      refine lv_bipush (v := 8) hx hb dX6_beginsWith_102 (by decide) ?_
      refine lv_icmp_ge hx hb dX6_beginsWith_104 (tgt := 151) rfl (fun hc10 => ?_) (fun hc10 => ?_)
      · replace hf := h_pos hc10 hf
        exact hX101 _ _ _ z101.2 (lv_sub hl [0] rfl) hw hf
      replace hf := h_neg hc10 hf
      refine lv_aload_n hx hb dX6_beginsWith_107 rfl (lv_at hl 0 rfl) ?_
      refine gf_X6_131 cx hw hM dX6_beginsWith_108 ?_
      refine lv_bipush (v := 12) hx hb dX6_beginsWith_111 (by decide) ?_
      refine lv_iload_n hx hb dX6_beginsWith_113 rfl (lv_at hl 1 rfl) ?_
      refine lv_iadd hx hb dX6_beginsWith_114 ?_
      refine lv_aload_n hx hb dX6_beginsWith_115 rfl (lv_at hl 0 rfl) ?_
      refine gf_X6_73 cx hw hM dX6_beginsWith_116 ?_
      refine lv_bipush (v := 8) hx hb dX6_beginsWith_119 (by decide) ?_
      refine lv_aload_n hx hb dX6_beginsWith_121 rfl (lv_at hl 0 rfl) ?_
      refine gf_X6_257 cx hw hM dX6_beginsWith_122 ?_
      refine lv_imul hx hb dX6_beginsWith_125 ?_
      refine lv_iload_n hx hb dX6_beginsWith_126 rfl (lv_at hl 1 rfl) ?_
      refine lv_iadd hx hb dX6_beginsWith_127 ?_
      refine r_iald cx hw (hM.2.2.1 32 rfl) rfl rfl hf dX6_beginsWith_128 (fun hf => ?_)
      refine r_iast cx hw (hM.2.2.1 56 rfl) rfl rfl hf dX6_beginsWith_129 (fun S11 H locs hw hf => ?_)
      refine lv_aload_n hx hb dX6_beginsWith_130 rfl (lv_at hl 0 rfl) ?_
      refine gf_X6_134 cx hw hM dX6_beginsWith_131 ?_
      refine lv_iload_n hx hb dX6_beginsWith_134 rfl (lv_at hl 1 rfl) ?_
      refine lv_iconst (v := -1) hx hb dX6_beginsWith_135 (by decide) ?_
      refine r_iast cx hw (hM.2.2.1 58 rfl) rfl rfl hf dX6_beginsWith_136 (fun S12 H locs hw hf => ?_)
      refine lv_aload_n hx hb dX6_beginsWith_137 rfl (lv_at hl 0 rfl) ?_
      refine gf_X6_137 cx hw hM dX6_beginsWith_138 ?_
      refine lv_iload_n hx hb dX6_beginsWith_141 rfl (lv_at hl 1 rfl) ?_
      refine lv_bipush (v := -2) hx hb dX6_beginsWith_142 (by decide) ?_
      refine r_iast cx hw (hM.2.2.1 59 rfl) rfl rfl hf dX6_beginsWith_144 (fun S13 H locs hw hf => ?_)
      refine lv_iinc hx hb dX6_beginsWith_145 hl (k := 1) rfl (congrArg (HAdd.hAdd _) (show Int32.ofInt (1) = 1 by decide)) (by decide) (lv' := [(3, .int (z101.1 + 1)), (0, .ref (gg_o g 0))]) rfl (fun ls hl => ?_)
      refine lv_goto hx hb dX6_beginsWith_148 (tgt := 101) rfl ?_
      exact ih101 _ _ _ ((z101.1 + 1), S13) (lv_sub hl [1, 0] rfl) hw hf
  refine L101 _ (fun ls H locs S14 hl hw hf => ?_) FU _ _ _ ((0 : Int32), S9) (lv_sub hl [1, 0] rfl) hw (h_assoc hf)
  try dsimp only at hf
  refine lv_aload_n hx hb dX6_beginsWith_151 rfl (lv_at hl 0 rfl) ?_
  refine lv_aload_n hx hb dX6_beginsWith_152 rfl (lv_at hl 0 rfl) ?_
  refine gf_X6_82 cx hw hM dX6_beginsWith_153 ?_
  refine lv_aload_n hx hb dX6_beginsWith_156 rfl (lv_at hl 0 rfl) ?_
  refine gf_X6_257 cx hw hM dX6_beginsWith_157 ?_
  refine r_iald cx hw (hM.2.2.1 35 rfl) rfl rfl hf dX6_beginsWith_160 (fun hf => ?_)
  refine pf_X6_351 cx hw hM hf dX6_beginsWith_161 (fun S15 H locs hw hf => ?_)
  refine lv_aload_n hx hb dX6_beginsWith_164 rfl (lv_at hl 0 rfl) ?_
  refine r_V_v (As := []) (rest := []) cx hw hf hM.2.1 (by rw [hM.1]; rfl) lk_X6_354 (fun q16 hq => k_X6_fillsLate l g hg  hM S15  q16 hq) ⟨⟨rfl, rfl⟩, Nat.le_of_ble_eq_true rfl, Nat.le_of_ble_eq_true rfl⟩ rfl hl.1 rfl (Nat.le_of_ble_eq_true rfl) dX6_beginsWith_165 ⟨Nat.zero_le _, Nat.zero_le _⟩ (fun q16 H locs hw hf => ?_)
  exact r_vret cx hw hr hlk hf dX6_beginsWith_168
theorem dX6_begins_0 : decode cX6_begins 0 = .ok (.aload_n 0, 1) := by decide +kernel
theorem dX6_begins_1 : decode cX6_begins 1 = .ok (.iconst (-1), 1) := by decide +kernel
theorem dX6_begins_2 : decode cX6_begins 2 = .ok (.iconst (-1), 1) := by decide +kernel
theorem dX6_begins_3 : decode cX6_begins 3 = .ok (.invokevirtual 357, 3) := by decide +kernel
theorem dX6_begins_6 : decode cX6_begins 6 = .ok (.return_, 1) := by decide +kernel
abbrev rm_X6_begins : Room := { frames := 5, cells := 0, slots := 0, locals := 121 }
def f_X6_begins (S : St)  : Option (St) :=
  (f_X6_beginsWith  S (-1 : Int32) (-1 : Int32)).bind (fun (q1 : St) => some q1)
set_option maxRecDepth 100000 in
set_option maxHeartbeats 4000000 in
theorem k_X6_begins (l : Launch) (g : GG) (hg : gd wd_M g)  (hM : hs wd_M g 0 6) (S : St)  (q : St) (hf : f_X6_begins  S  = some q) : Met l yX6_begins (Cond.code yX6_begins cX6_begins 1 none :: gw_tbl) rm_X6_begins (va_Pc [.ref (gg_o g 0)] (wI wd_M g S)) (qc_v wd_M g q) 0 0 (aw g) := by
  refine mt_start (own := RX6) hg (by decide) rfl (Nat.le_of_ble_eq_true rfl) (fun p e s m args below meth c ls H locs cx hw hr hlk hl => ?_)
  have hx := cx.1
  have hb := cx.2.1
  have hown := cx.2.2.2.1
  have hts := cx.2.2.2.2.1
  have hl : lv_has ls 1 [(0, .ref (gg_o g 0))] := hl
  replace hf := h_top hf
  unfold f_X6_begins at hf
  refine lv_aload_n hx hb dX6_begins_0 rfl (lv_at hl 0 rfl) ?_
  refine lv_iconst (v := -1) hx hb dX6_begins_1 (by decide) ?_
  refine lv_iconst (v := -1) hx hb dX6_begins_2 (by decide) ?_
  refine r_V_v (As := [.int (-1 : Int32), .int (-1 : Int32)]) (rest := []) cx hw hf hM.2.1 (by rw [hM.1]; rfl) lk_X6_357 (fun q1 hq => k_X6_beginsWith l g hg  hM S (-1 : Int32) (-1 : Int32) q1 hq) ⟨⟨rfl, rfl⟩, Nat.le_of_ble_eq_true rfl, Nat.le_of_ble_eq_true rfl⟩ rfl hl.1 rfl (Nat.le_of_ble_eq_true rfl) dX6_begins_3 ⟨Nat.zero_le _, Nat.zero_le _⟩ (fun q1 H locs hw hf => ?_)
  exact r_vret cx hw hr hlk hf dX6_begins_6
theorem dX6_keepsRows_0 : decode cX6_keepsRows 0 = .ok (.bipush 36, 2) := by decide +kernel
theorem dX6_keepsRows_2 : decode cX6_keepsRows 2 = .ok (.iload_n 1, 1) := by decide +kernel
theorem dX6_keepsRows_3 : decode cX6_keepsRows 3 = .ok (.imul, 1) := by decide +kernel
theorem dX6_keepsRows_4 : decode cX6_keepsRows 4 = .ok (.istore_n 2, 1) := by decide +kernel
theorem dX6_keepsRows_5 : decode cX6_keepsRows 5 = .ok (.iload_n 2, 1) := by decide +kernel
theorem dX6_keepsRows_6 : decode cX6_keepsRows 6 = .ok (.bipush 36, 2) := by decide +kernel
theorem dX6_keepsRows_8 : decode cX6_keepsRows 8 = .ok (.aload_n 0, 1) := by decide +kernel
theorem dX6_keepsRows_9 : decode cX6_keepsRows 9 = .ok (.getfield 348, 3) := by decide +kernel
theorem dX6_keepsRows_12 : decode cX6_keepsRows 12 = .ok (.imul, 1) := by decide +kernel
theorem dX6_keepsRows_13 : decode cX6_keepsRows 13 = .ok (.bipush 36, 2) := by decide +kernel
theorem dX6_keepsRows_15 : decode cX6_keepsRows 15 = .ok (.iadd, 1) := by decide +kernel
theorem dX6_keepsRows_16 : decode cX6_keepsRows 16 = .ok (.if_icmp .ge 21, 3) := by decide +kernel
theorem dX6_keepsRows_19 : decode cX6_keepsRows 19 = .ok (.aload_n 0, 1) := by decide +kernel
theorem dX6_keepsRows_20 : decode cX6_keepsRows 20 = .ok (.getfield 122, 3) := by decide +kernel
theorem dX6_keepsRows_23 : decode cX6_keepsRows 23 = .ok (.iload_n 2, 1) := by decide +kernel
theorem dX6_keepsRows_24 : decode cX6_keepsRows 24 = .ok (.aload_n 0, 1) := by decide +kernel
theorem dX6_keepsRows_25 : decode cX6_keepsRows 25 = .ok (.getfield 131, 3) := by decide +kernel
theorem dX6_keepsRows_28 : decode cX6_keepsRows 28 = .ok (.iload_n 2, 1) := by decide +kernel
theorem dX6_keepsRows_29 : decode cX6_keepsRows 29 = .ok (.iaload, 1) := by decide +kernel
theorem dX6_keepsRows_30 : decode cX6_keepsRows 30 = .ok (.iastore, 1) := by decide +kernel
theorem dX6_keepsRows_31 : decode cX6_keepsRows 31 = .ok (.iinc 2 1, 3) := by decide +kernel
theorem dX6_keepsRows_34 : decode cX6_keepsRows 34 = .ok (.goto (-29), 3) := by decide +kernel
theorem dX6_keepsRows_37 : decode cX6_keepsRows 37 = .ok (.aload_n 0, 1) := by decide +kernel
theorem dX6_keepsRows_38 : decode cX6_keepsRows 38 = .ok (.aload_n 0, 1) := by decide +kernel
theorem dX6_keepsRows_39 : decode cX6_keepsRows 39 = .ok (.getfield 348, 3) := by decide +kernel
theorem dX6_keepsRows_42 : decode cX6_keepsRows 42 = .ok (.putfield 345, 3) := by decide +kernel
theorem dX6_keepsRows_45 : decode cX6_keepsRows 45 = .ok (.iconst 0, 1) := by decide +kernel
theorem dX6_keepsRows_46 : decode cX6_keepsRows 46 = .ok (.istore_n 2, 1) := by decide +kernel
theorem dX6_keepsRows_47 : decode cX6_keepsRows 47 = .ok (.iload_n 2, 1) := by decide +kernel
theorem dX6_keepsRows_48 : decode cX6_keepsRows 48 = .ok (.bipush 8, 2) := by decide +kernel
theorem dX6_keepsRows_50 : decode cX6_keepsRows 50 = .ok (.if_icmp .ge 33, 3) := by decide +kernel
theorem dX6_keepsRows_53 : decode cX6_keepsRows 53 = .ok (.aload_n 0, 1) := by decide +kernel
theorem dX6_keepsRows_54 : decode cX6_keepsRows 54 = .ok (.getfield 125, 3) := by decide +kernel
theorem dX6_keepsRows_57 : decode cX6_keepsRows 57 = .ok (.iload_n 2, 1) := by decide +kernel
theorem dX6_keepsRows_58 : decode cX6_keepsRows 58 = .ok (.aload_n 0, 1) := by decide +kernel
theorem dX6_keepsRows_59 : decode cX6_keepsRows 59 = .ok (.getfield 134, 3) := by decide +kernel
theorem dX6_keepsRows_62 : decode cX6_keepsRows 62 = .ok (.iload_n 2, 1) := by decide +kernel
theorem dX6_keepsRows_63 : decode cX6_keepsRows 63 = .ok (.iaload, 1) := by decide +kernel
theorem dX6_keepsRows_64 : decode cX6_keepsRows 64 = .ok (.iastore, 1) := by decide +kernel
theorem dX6_keepsRows_65 : decode cX6_keepsRows 65 = .ok (.aload_n 0, 1) := by decide +kernel
theorem dX6_keepsRows_66 : decode cX6_keepsRows 66 = .ok (.getfield 128, 3) := by decide +kernel
theorem dX6_keepsRows_69 : decode cX6_keepsRows 69 = .ok (.iload_n 2, 1) := by decide +kernel
theorem dX6_keepsRows_70 : decode cX6_keepsRows 70 = .ok (.aload_n 0, 1) := by decide +kernel
theorem dX6_keepsRows_71 : decode cX6_keepsRows 71 = .ok (.getfield 137, 3) := by decide +kernel
theorem dX6_keepsRows_74 : decode cX6_keepsRows 74 = .ok (.iload_n 2, 1) := by decide +kernel
theorem dX6_keepsRows_75 : decode cX6_keepsRows 75 = .ok (.iaload, 1) := by decide +kernel
theorem dX6_keepsRows_76 : decode cX6_keepsRows 76 = .ok (.iastore, 1) := by decide +kernel
theorem dX6_keepsRows_77 : decode cX6_keepsRows 77 = .ok (.iinc 2 1, 3) := by decide +kernel
theorem dX6_keepsRows_80 : decode cX6_keepsRows 80 = .ok (.goto (-33), 3) := by decide +kernel
theorem dX6_keepsRows_83 : decode cX6_keepsRows 83 = .ok (.return_, 1) := by decide +kernel
abbrev rm_X6_keepsRows : Room := { frames := 0, cells := 0, slots := 0, locals := 0 }
def f_X6_keepsRows_L5  (z5 : Int32 × St) : Option ((Int32 × St) ⊕ (St)) :=
  if (((36 : Int32) * (st_I z5.2 (ky 0 57))) + (36 : Int32)) ≤ z5.1 then (some (.inr z5.2)) else (chk (ib z5.1 10800) (chk (ib z5.1 10800) (lt_v (up_A z5.2 (ky 0 52) (upd (st_A z5.2 (ky 0 52)) z5.1.toNatClampNeg (st_A z5.2 (ky 0 56) z5.1.toNatClampNeg))) (fun (S2 : St) => some (.inl ((z5.1 + 1), S2))))))
def f_X6_keepsRows_L47  (z47 : Int32 × St) : Option ((Int32 × St) ⊕ (St)) :=
  if (8 : Int32) ≤ z47.1 then (some (.inr z47.2)) else (chk (ib z47.1 8) (chk (ib z47.1 8) (lt_v (up_A z47.2 (ky 0 54) (upd (st_A z47.2 (ky 0 54)) z47.1.toNatClampNeg (st_A z47.2 (ky 0 58) z47.1.toNatClampNeg))) (fun (S6 : St) => chk (ib z47.1 8) (chk (ib z47.1 8) (lt_v (up_A S6 (ky 0 55) (upd (st_A S6 (ky 0 55)) z47.1.toNatClampNeg (st_A S6 (ky 0 59) z47.1.toNatClampNeg))) (fun (S7 : St) => some (.inl ((z47.1 + 1), S7)))))))))
def f_X6_keepsRows (S : St) (x1 : Int32) : Option (St) :=
  (iter (f_X6_keepsRows_L5   ) FU (((36 : Int32) * x1), S)).bind (fun (S3 : St) => lt_v (up_I S3 (ky 0 53) (st_I S3 (ky 0 57))) (fun (S4 : St) => iter (f_X6_keepsRows_L47   ) FU ((0 : Int32), S4)))
set_option maxRecDepth 100000 in
set_option maxHeartbeats 4000000 in
theorem k_X6_keepsRows (l : Launch) (g : GG) (hg : gd wd_M g)  (hM : hs wd_M g 0 6) (S : St) (x1 : Int32) (q : St) (hf : f_X6_keepsRows  S x1 = some q) : Met l yX6_keepsRows (Cond.code yX6_keepsRows cX6_keepsRows 3 none :: gw_tbl) rm_X6_keepsRows (va_Pc [.ref (gg_o g 0), .int x1] (wI wd_M g S)) (qc_v wd_M g q) 0 0 (aw g) := by
  refine mt_start (own := RX6) hg (by decide) rfl (Nat.le_of_ble_eq_true rfl) (fun p e s m args below meth c ls H locs cx hw hr hlk hl => ?_)
  have hx := cx.1
  have hb := cx.2.1
  have hown := cx.2.2.2.1
  have hts := cx.2.2.2.2.1
  have hl : lv_has ls 3 [(0, .ref (gg_o g 0)), (1, .int x1)] := hl
  replace hf := h_top hf
  unfold f_X6_keepsRows at hf
  refine lv_bipush (v := 36) hx hb dX6_keepsRows_0 (by decide) ?_
  refine lv_iload_n hx hb dX6_keepsRows_2 rfl (lv_at hl 1 rfl) ?_
  refine lv_imul hx hb dX6_keepsRows_3 ?_
  refine lv_istore_n hx hb dX6_keepsRows_4 rfl hl (by decide) (lv' := [(2, .int ((36 : Int32) * x1)), (0, .ref (gg_o g 0)), (1, .int x1)]) rfl (fun ls hl => ?_)
  have L5 : ∀  (aft5 : St → Option (St)), (∀ (ls : Array Slot) (H : Heap) (locs : List Loc) (S1 : St), lv_has ls 3 [(0, .ref (gg_o g 0))] → HH wd_M g s S1 H locs → aft5 S1 = some q → W p l e rm_X6_keepsRows s m args below meth c H locs 0 0 (MQ below (qc_v wd_M g q) args s 0 0 (aw g)) (F0 m 37 ls [])) → ∀ (n5 : Nat) (ls : Array Slot) (H : Heap) (locs : List Loc) (z5 : Int32 × St), lv_has ls 3 [(0, .ref (gg_o g 0)), (2, .int z5.1)] → HH wd_M g s z5.2 H locs → (iter (f_X6_keepsRows_L5   ) n5 z5).bind aft5 = some q → W p l e rm_X6_keepsRows s m args below meth c H locs 0 0 (MQ below (qc_v wd_M g q) args s 0 0 (aw g)) (F0 m 5 ls []) := by
    intro aft5 hX5 n5
    induction n5 with
    | zero => intro ls H locs z5 hl hw hf; exact h_iter0 hf
    | succ n5 ih5 =>
      intro ls H locs z5 hl hw hf
      replace hf := h_iter hf
      unfold f_X6_keepsRows_L5 at hf
      refine lv_iload_n hx hb dX6_keepsRows_5 rfl (lv_at hl 1 rfl) ?_
      refine lv_bipush (v := 36) hx hb dX6_keepsRows_6 (by decide) ?_
      refine lv_aload_n hx hb dX6_keepsRows_8 rfl (lv_at hl 0 rfl) ?_
      refine gf_X6_348 cx hw hM dX6_keepsRows_9 ?_
      refine lv_imul hx hb dX6_keepsRows_12 ?_
      refine lv_bipush (v := 36) hx hb dX6_keepsRows_13 (by decide) ?_
      refine lv_iadd hx hb dX6_keepsRows_15 ?_
      refine lv_icmp_ge hx hb dX6_keepsRows_16 (tgt := 37) rfl (fun hc1 => ?_) (fun hc1 => ?_)
      · replace hf := h_pos hc1 hf
        exact hX5 _ _ _ z5.2 (lv_sub hl [0] rfl) hw hf
      replace hf := h_neg hc1 hf
      refine lv_aload_n hx hb dX6_keepsRows_19 rfl (lv_at hl 0 rfl) ?_
      refine gf_X6_122 cx hw hM dX6_keepsRows_20 ?_
      refine lv_iload_n hx hb dX6_keepsRows_23 rfl (lv_at hl 1 rfl) ?_
      refine lv_aload_n hx hb dX6_keepsRows_24 rfl (lv_at hl 0 rfl) ?_
      refine gf_X6_131 cx hw hM dX6_keepsRows_25 ?_
      refine lv_iload_n hx hb dX6_keepsRows_28 rfl (lv_at hl 1 rfl) ?_
      refine r_iald cx hw (hM.2.2.1 56 rfl) rfl rfl hf dX6_keepsRows_29 (fun hf => ?_)
      refine r_iast cx hw (hM.2.2.1 52 rfl) rfl rfl hf dX6_keepsRows_30 (fun S2 H locs hw hf => ?_)
      refine lv_iinc hx hb dX6_keepsRows_31 hl (k := 1) rfl (congrArg (HAdd.hAdd _) (show Int32.ofInt (1) = 1 by decide)) (by decide) (lv' := [(2, .int (z5.1 + 1)), (0, .ref (gg_o g 0))]) rfl (fun ls hl => ?_)
      refine lv_goto hx hb dX6_keepsRows_34 (tgt := 5) rfl ?_
      exact ih5 _ _ _ ((z5.1 + 1), S2) (lv_sub hl [1, 0] rfl) hw hf
  refine L5 _ (fun ls H locs S3 hl hw hf => ?_) FU _ _ _ (((36 : Int32) * x1), S) (lv_sub hl [1, 0] rfl) hw (h_assoc hf)
  try dsimp only at hf
  refine lv_aload_n hx hb dX6_keepsRows_37 rfl (lv_at hl 0 rfl) ?_
  refine lv_aload_n hx hb dX6_keepsRows_38 rfl (lv_at hl 0 rfl) ?_
  refine gf_X6_348 cx hw hM dX6_keepsRows_39 ?_
  refine pf_X6_345 cx hw hM hf dX6_keepsRows_42 (fun S4 H locs hw hf => ?_)
  refine lv_iconst (v := 0) hx hb dX6_keepsRows_45 (by decide) ?_
  refine lv_istore_n hx hb dX6_keepsRows_46 rfl hl (by decide) (lv' := [(2, .int (0 : Int32)), (0, .ref (gg_o g 0))]) rfl (fun ls hl => ?_)
  have L47 : ∀  (aft47 : St → Option (St)), (∀ v : St, aft47 v = some q → (some v : Option (St)).bind some = some q) → ∀ (n47 : Nat) (ls : Array Slot) (H : Heap) (locs : List Loc) (z47 : Int32 × St), lv_has ls 3 [(0, .ref (gg_o g 0)), (2, .int z47.1)] → HH wd_M g s z47.2 H locs → (iter (f_X6_keepsRows_L47   ) n47 z47).bind aft47 = some q → W p l e rm_X6_keepsRows s m args below meth c H locs 0 0 (MQ below (qc_v wd_M g q) args s 0 0 (aw g)) (F0 m 47 ls []) := by
    intro aft47 hR47 n47
    induction n47 with
    | zero => intro ls H locs z47 hl hw hf; exact h_iter0 hf
    | succ n47 ih47 =>
      intro ls H locs z47 hl hw hf
      replace hf := h_iter hf
      unfold f_X6_keepsRows_L47 at hf
      refine lv_iload_n hx hb dX6_keepsRows_47 rfl (lv_at hl 1 rfl) ?_
      refine lv_bipush (v := 8) hx hb dX6_keepsRows_48 (by decide) ?_
      refine lv_icmp_ge hx hb dX6_keepsRows_50 (tgt := 83) rfl (fun hc5 => ?_) (fun hc5 => ?_)
      · replace hf := h_pos hc5 hf
        replace hf := hR47 z47.2 hf
        exact r_vret cx hw hr hlk hf dX6_keepsRows_83
      replace hf := h_neg hc5 hf
      refine lv_aload_n hx hb dX6_keepsRows_53 rfl (lv_at hl 0 rfl) ?_
      refine gf_X6_125 cx hw hM dX6_keepsRows_54 ?_
      refine lv_iload_n hx hb dX6_keepsRows_57 rfl (lv_at hl 1 rfl) ?_
      refine lv_aload_n hx hb dX6_keepsRows_58 rfl (lv_at hl 0 rfl) ?_
      refine gf_X6_134 cx hw hM dX6_keepsRows_59 ?_
      refine lv_iload_n hx hb dX6_keepsRows_62 rfl (lv_at hl 1 rfl) ?_
      refine r_iald cx hw (hM.2.2.1 58 rfl) rfl rfl hf dX6_keepsRows_63 (fun hf => ?_)
      refine r_iast cx hw (hM.2.2.1 54 rfl) rfl rfl hf dX6_keepsRows_64 (fun S6 H locs hw hf => ?_)
      refine lv_aload_n hx hb dX6_keepsRows_65 rfl (lv_at hl 0 rfl) ?_
      refine gf_X6_128 cx hw hM dX6_keepsRows_66 ?_
      refine lv_iload_n hx hb dX6_keepsRows_69 rfl (lv_at hl 1 rfl) ?_
      refine lv_aload_n hx hb dX6_keepsRows_70 rfl (lv_at hl 0 rfl) ?_
      refine gf_X6_137 cx hw hM dX6_keepsRows_71 ?_
      refine lv_iload_n hx hb dX6_keepsRows_74 rfl (lv_at hl 1 rfl) ?_
      refine r_iald cx hw (hM.2.2.1 59 rfl) rfl rfl hf dX6_keepsRows_75 (fun hf => ?_)
      refine r_iast cx hw (hM.2.2.1 55 rfl) rfl rfl hf dX6_keepsRows_76 (fun S7 H locs hw hf => ?_)
      refine lv_iinc hx hb dX6_keepsRows_77 hl (k := 1) rfl (congrArg (HAdd.hAdd _) (show Int32.ofInt (1) = 1 by decide)) (by decide) (lv' := [(2, .int (z47.1 + 1)), (0, .ref (gg_o g 0))]) rfl (fun ls hl => ?_)
      refine lv_goto hx hb dX6_keepsRows_80 (tgt := 47) rfl ?_
      exact ih47 _ _ _ ((z47.1 + 1), S7) (lv_sub hl [1, 0] rfl) hw hf
  exact L47 some (fun v h => h) FU _ _ _ ((0 : Int32), S4) (lv_sub hl [1, 0] rfl) hw hf
theorem dX6_read_0 : decode cX6_read 0 = .ok (.aload_n 0, 1) := by decide +kernel
theorem dX6_read_1 : decode cX6_read 1 = .ok (.aload_n 0, 1) := by decide +kernel
theorem dX6_read_2 : decode cX6_read 2 = .ok (.getfield 190, 3) := by decide +kernel
theorem dX6_read_5 : decode cX6_read 5 = .ok (.putfield 196, 3) := by decide +kernel
theorem dX6_read_8 : decode cX6_read 8 = .ok (.iconst 0, 1) := by decide +kernel
theorem dX6_read_9 : decode cX6_read 9 = .ok (.istore_n 1, 1) := by decide +kernel
theorem dX6_read_10 : decode cX6_read 10 = .ok (.iload_n 1, 1) := by decide +kernel
theorem dX6_read_11 : decode cX6_read 11 = .ok (.aload_n 0, 1) := by decide +kernel
theorem dX6_read_12 : decode cX6_read 12 = .ok (.getfield 196, 3) := by decide +kernel
theorem dX6_read_15 : decode cX6_read 15 = .ok (.if_icmp .ge 21, 3) := by decide +kernel
theorem dX6_read_18 : decode cX6_read 18 = .ok (.aload_n 0, 1) := by decide +kernel
theorem dX6_read_19 : decode cX6_read 19 = .ok (.getfield 17, 3) := by decide +kernel
theorem dX6_read_22 : decode cX6_read 22 = .ok (.iload_n 1, 1) := by decide +kernel
theorem dX6_read_23 : decode cX6_read 23 = .ok (.aload_n 0, 1) := by decide +kernel
theorem dX6_read_24 : decode cX6_read 24 = .ok (.getfield 13, 3) := by decide +kernel
theorem dX6_read_27 : decode cX6_read 27 = .ok (.iload_n 1, 1) := by decide +kernel
theorem dX6_read_28 : decode cX6_read 28 = .ok (.baload, 1) := by decide +kernel
theorem dX6_read_29 : decode cX6_read 29 = .ok (.bastore, 1) := by decide +kernel
theorem dX6_read_30 : decode cX6_read 30 = .ok (.iinc 1 1, 3) := by decide +kernel
theorem dX6_read_33 : decode cX6_read 33 = .ok (.goto (-23), 3) := by decide +kernel
theorem dX6_read_36 : decode cX6_read 36 = .ok (.aload_n 0, 1) := by decide +kernel
theorem dX6_read_37 : decode cX6_read 37 = .ok (.iconst 0, 1) := by decide +kernel
theorem dX6_read_38 : decode cX6_read 38 = .ok (.putfield 190, 3) := by decide +kernel
theorem dX6_read_41 : decode cX6_read 41 = .ok (.aload_n 0, 1) := by decide +kernel
theorem dX6_read_42 : decode cX6_read 42 = .ok (.invokevirtual 251, 3) := by decide +kernel
theorem dX6_read_45 : decode cX6_read 45 = .ok (.aload_n 0, 1) := by decide +kernel
theorem dX6_read_46 : decode cX6_read 46 = .ok (.iconst 0, 1) := by decide +kernel
theorem dX6_read_47 : decode cX6_read 47 = .ok (.putfield 230, 3) := by decide +kernel
theorem dX6_read_50 : decode cX6_read 50 = .ok (.aload_n 0, 1) := by decide +kernel
theorem dX6_read_51 : decode cX6_read 51 = .ok (.iconst 0, 1) := by decide +kernel
theorem dX6_read_52 : decode cX6_read 52 = .ok (.putfield 254, 3) := by decide +kernel
theorem dX6_read_55 : decode cX6_read 55 = .ok (.aload_n 0, 1) := by decide +kernel
theorem dX6_read_56 : decode cX6_read 56 = .ok (.iconst 0, 1) := by decide +kernel
theorem dX6_read_57 : decode cX6_read 57 = .ok (.putfield 227, 3) := by decide +kernel
theorem dX6_read_60 : decode cX6_read 60 = .ok (.aload_n 0, 1) := by decide +kernel
theorem dX6_read_61 : decode cX6_read 61 = .ok (.iconst 0, 1) := by decide +kernel
theorem dX6_read_62 : decode cX6_read 62 = .ok (.putfield 236, 3) := by decide +kernel
theorem dX6_read_65 : decode cX6_read 65 = .ok (.aload_n 0, 1) := by decide +kernel
theorem dX6_read_66 : decode cX6_read 66 = .ok (.iconst 1, 1) := by decide +kernel
theorem dX6_read_67 : decode cX6_read 67 = .ok (.aload_n 0, 1) := by decide +kernel
theorem dX6_read_68 : decode cX6_read 68 = .ok (.getfield 257, 3) := by decide +kernel
theorem dX6_read_71 : decode cX6_read 71 = .ok (.isub, 1) := by decide +kernel
theorem dX6_read_72 : decode cX6_read 72 = .ok (.putfield 260, 3) := by decide +kernel
theorem dX6_read_75 : decode cX6_read 75 = .ok (.aload_n 0, 1) := by decide +kernel
theorem dX6_read_76 : decode cX6_read 76 = .ok (.iconst 0, 1) := by decide +kernel
theorem dX6_read_77 : decode cX6_read 77 = .ok (.putfield 263, 3) := by decide +kernel
theorem dX6_read_80 : decode cX6_read 80 = .ok (.aload_n 0, 1) := by decide +kernel
theorem dX6_read_81 : decode cX6_read 81 = .ok (.aload_n 0, 1) := by decide +kernel
theorem dX6_read_82 : decode cX6_read 82 = .ok (.getfield 260, 3) := by decide +kernel
theorem dX6_read_85 : decode cX6_read 85 = .ok (.invokevirtual 176, 3) := by decide +kernel
theorem dX6_read_88 : decode cX6_read 88 = .ok (.aload_n 0, 1) := by decide +kernel
theorem dX6_read_89 : decode cX6_read 89 = .ok (.sipush 130, 3) := by decide +kernel
theorem dX6_read_92 : decode cX6_read 92 = .ok (.aload_n 0, 1) := by decide +kernel
theorem dX6_read_93 : decode cX6_read 93 = .ok (.getfield 260, 3) := by decide +kernel
theorem dX6_read_96 : decode cX6_read 96 = .ok (.imul, 1) := by decide +kernel
theorem dX6_read_97 : decode cX6_read 97 = .ok (.putfield 266, 3) := by decide +kernel
theorem dX6_read_100 : decode cX6_read 100 = .ok (.aload_n 0, 1) := by decide +kernel
theorem dX6_read_101 : decode cX6_read 101 = .ok (.sipush 420, 3) := by decide +kernel
theorem dX6_read_104 : decode cX6_read 104 = .ok (.aload_n 0, 1) := by decide +kernel
theorem dX6_read_105 : decode cX6_read 105 = .ok (.getfield 260, 3) := by decide +kernel
theorem dX6_read_108 : decode cX6_read 108 = .ok (.imul, 1) := by decide +kernel
theorem dX6_read_109 : decode cX6_read 109 = .ok (.putfield 269, 3) := by decide +kernel
theorem dX6_read_112 : decode cX6_read 112 = .ok (.aload_n 0, 1) := by decide +kernel
theorem dX6_read_113 : decode cX6_read 113 = .ok (.getfield 227, 3) := by decide +kernel
theorem dX6_read_116 : decode cX6_read 116 = .ok (.ifCond .ne 18, 3) := by decide +kernel
theorem dX6_read_119 : decode cX6_read 119 = .ok (.aload_n 0, 1) := by decide +kernel
theorem dX6_read_120 : decode cX6_read 120 = .ok (.iconst 0, 1) := by decide +kernel
theorem dX6_read_121 : decode cX6_read 121 = .ok (.invokevirtual 245, 3) := by decide +kernel
theorem dX6_read_124 : decode cX6_read 124 = .ok (.ifCond .ne 10, 3) := by decide +kernel
theorem dX6_read_127 : decode cX6_read 127 = .ok (.aload_n 0, 1) := by decide +kernel
theorem dX6_read_128 : decode cX6_read 128 = .ok (.invokevirtual 272, 3) := by decide +kernel
theorem dX6_read_131 : decode cX6_read 131 = .ok (.goto (-19), 3) := by decide +kernel
theorem dX6_read_134 : decode cX6_read 134 = .ok (.aload_n 0, 1) := by decide +kernel
theorem dX6_read_135 : decode cX6_read 135 = .ok (.aload_n 0, 1) := by decide +kernel
theorem dX6_read_136 : decode cX6_read 136 = .ok (.getfield 227, 3) := by decide +kernel
theorem dX6_read_139 : decode cX6_read 139 = .ok (.ifCond .le 10, 3) := by decide +kernel
theorem dX6_read_142 : decode cX6_read 142 = .ok (.aload_n 0, 1) := by decide +kernel
theorem dX6_read_143 : decode cX6_read 143 = .ok (.getfield 233, 3) := by decide +kernel
theorem dX6_read_146 : decode cX6_read 146 = .ok (.goto 18, 3) := by decide +kernel
theorem dX6_read_149 : decode cX6_read 149 = .ok (.aload_n 0, 1) := by decide +kernel
theorem dX6_read_150 : decode cX6_read 150 = .ok (.getfield 236, 3) := by decide +kernel
theorem dX6_read_153 : decode cX6_read 153 = .ok (.ifCond .le 10, 3) := by decide +kernel
theorem dX6_read_156 : decode cX6_read 156 = .ok (.aload_n 0, 1) := by decide +kernel
theorem dX6_read_157 : decode cX6_read 157 = .ok (.getfield 239, 3) := by decide +kernel
theorem dX6_read_160 : decode cX6_read 160 = .ok (.goto 4, 3) := by decide +kernel
theorem dX6_read_163 : decode cX6_read 163 = .ok (.iconst (-1), 1) := by decide +kernel
theorem dX6_read_164 : decode cX6_read 164 = .ok (.putfield 37, 3) := by decide +kernel
theorem dX6_read_167 : decode cX6_read 167 = .ok (.aload_n 0, 1) := by decide +kernel
theorem dX6_read_168 : decode cX6_read 168 = .ok (.getfield 227, 3) := by decide +kernel
theorem dX6_read_171 : decode cX6_read 171 = .ok (.ifCond .le 8, 3) := by decide +kernel
theorem dX6_read_174 : decode cX6_read 174 = .ok (.aload_n 0, 1) := by decide +kernel
theorem dX6_read_175 : decode cX6_read 175 = .ok (.getfield 227, 3) := by decide +kernel
theorem dX6_read_178 : decode cX6_read 178 = .ok (.ireturn, 1) := by decide +kernel
theorem dX6_read_179 : decode cX6_read 179 = .ok (.aload_n 0, 1) := by decide +kernel
theorem dX6_read_180 : decode cX6_read 180 = .ok (.getfield 236, 3) := by decide +kernel
theorem dX6_read_183 : decode cX6_read 183 = .ok (.ifCond .le 8, 3) := by decide +kernel
theorem dX6_read_186 : decode cX6_read 186 = .ok (.aload_n 0, 1) := by decide +kernel
theorem dX6_read_187 : decode cX6_read 187 = .ok (.getfield 236, 3) := by decide +kernel
theorem dX6_read_190 : decode cX6_read 190 = .ok (.ireturn, 1) := by decide +kernel
theorem dX6_read_191 : decode cX6_read 191 = .ok (.aload_n 0, 1) := by decide +kernel
theorem dX6_read_192 : decode cX6_read 192 = .ok (.aload_n 0, 1) := by decide +kernel
theorem dX6_read_193 : decode cX6_read 193 = .ok (.getfield 260, 3) := by decide +kernel
theorem dX6_read_196 : decode cX6_read 196 = .ok (.putfield 257, 3) := by decide +kernel
theorem dX6_read_199 : decode cX6_read 199 = .ok (.aload_n 0, 1) := by decide +kernel
theorem dX6_read_200 : decode cX6_read 200 = .ok (.invokevirtual 184, 3) := by decide +kernel
theorem dX6_read_203 : decode cX6_read 203 = .ok (.aload_n 0, 1) := by decide +kernel
theorem dX6_read_204 : decode cX6_read 204 = .ok (.iconst 0, 1) := by decide +kernel
theorem dX6_read_205 : decode cX6_read 205 = .ok (.invokevirtual 187, 3) := by decide +kernel
theorem dX6_read_208 : decode cX6_read 208 = .ok (.aload_n 0, 1) := by decide +kernel
theorem dX6_read_209 : decode cX6_read 209 = .ok (.iconst 0, 1) := by decide +kernel
theorem dX6_read_210 : decode cX6_read 210 = .ok (.putfield 275, 3) := by decide +kernel
theorem dX6_read_213 : decode cX6_read 213 = .ok (.aload_n 0, 1) := by decide +kernel
theorem dX6_read_214 : decode cX6_read 214 = .ok (.iconst 0, 1) := by decide +kernel
theorem dX6_read_215 : decode cX6_read 215 = .ok (.putfield 278, 3) := by decide +kernel
theorem dX6_read_218 : decode cX6_read 218 = .ok (.iconst 0, 1) := by decide +kernel
theorem dX6_read_219 : decode cX6_read 219 = .ok (.istore_n 1, 1) := by decide +kernel
theorem dX6_read_220 : decode cX6_read 220 = .ok (.iload_n 1, 1) := by decide +kernel
theorem dX6_read_221 : decode cX6_read 221 = .ok (.iconst 3, 1) := by decide +kernel
theorem dX6_read_222 : decode cX6_read 222 = .ok (.if_icmp .ge 16, 3) := by decide +kernel
theorem dX6_read_225 : decode cX6_read 225 = .ok (.aload_n 0, 1) := by decide +kernel
theorem dX6_read_226 : decode cX6_read 226 = .ok (.getfield 167, 3) := by decide +kernel
theorem dX6_read_229 : decode cX6_read 229 = .ok (.iload_n 1, 1) := by decide +kernel
theorem dX6_read_230 : decode cX6_read 230 = .ok (.iconst 0, 1) := by decide +kernel
theorem dX6_read_231 : decode cX6_read 231 = .ok (.bastore, 1) := by decide +kernel
theorem dX6_read_232 : decode cX6_read 232 = .ok (.iinc 1 1, 3) := by decide +kernel
theorem dX6_read_235 : decode cX6_read 235 = .ok (.goto (-15), 3) := by decide +kernel
theorem dX6_read_238 : decode cX6_read 238 = .ok (.iconst 0, 1) := by decide +kernel
theorem dX6_read_239 : decode cX6_read 239 = .ok (.ireturn, 1) := by decide +kernel
abbrev rm_X6_read : Room := { frames := 7, cells := 0, slots := 0, locals := 147 }
def f_X6_read_L10  (z10 : Int32 × St) : Option ((Int32 × St) ⊕ (St)) :=
  if (st_I z10.2 (ky 0 4)) ≤ z10.1 then (some (.inr z10.2)) else (chk (ib z10.1 2000) (chk (ib z10.1 2000) (lt_v (up_A z10.2 (ky 0 3) (upd (st_A z10.2 (ky 0 3)) z10.1.toNatClampNeg (vp_nar .byte (st_A z10.2 (ky 0 1) z10.1.toNatClampNeg)))) (fun (S3 : St) => some (.inl ((z10.1 + 1), S3))))))
def f_X6_read_L112  (z112 : St) : Option ((St) ⊕ (St)) :=
  if (st_I z112 (ky 0 13)) = 0 then ((f_X6_is  z112 (0 : Int32)).bind (fun (q17 : Int32) => if q17 = 0 then ((f_X6_tellOne  z112 ).bind (fun (q19 : St) => some (.inl q19))) else (some (.inr z112)))) else (some (.inr z112))
def f_X6_read_L220  (z220 : Int32 × St) : Option ((Int32 × St) ⊕ (Int32 × St)) :=
  if (3 : Int32) ≤ z220.1 then (some (.inr ((0 : Int32), z220.2))) else (chk (ib z220.1 3) (lt_v (up_A z220.2 (ky 0 72) (upd (st_A z220.2 (ky 0 72)) z220.1.toNatClampNeg (vp_nar .boolean (0 : Int32)))) (fun (S32 : St) => some (.inl ((z220.1 + 1), S32)))))
def f_X6_read_J164 (S : St) (y0 : Int32) : Option (Int32 × St) :=
  lt_v (up_I S (ky 0 17) y0) (fun (S23 : St) => if (st_I S23 (ky 0 13)) ≤ 0 then (if (st_I S23 (ky 0 15)) ≤ 0 then (lt_v (up_I S23 (ky 0 18) (st_I S23 (ky 0 19))) (fun (S26 : St) => (f_X6_begins  S26 ).bind (fun (q27 : St) => (f_X6_keepsRows  q27 (0 : Int32)).bind (fun (q28 : St) => lt_v (up_I q28 (ky 0 61) (0 : Int32)) (fun (S29 : St) => lt_v (up_I S29 (ky 0 67) (0 : Int32)) (fun (S30 : St) => iter (f_X6_read_L220   ) FU ((0 : Int32), S30))))))) else (some ((st_I S23 (ky 0 15)), S23))) else (some ((st_I S23 (ky 0 13)), S23)))
def f_X6_read_J134 (S : St)  : Option (Int32 × St) :=
  if (st_I S (ky 0 13)) ≤ 0 then (if (st_I S (ky 0 15)) ≤ 0 then (f_X6_read_J164  S (-1 : Int32)) else (f_X6_read_J164  S (st_I S (ky 0 16)))) else (f_X6_read_J164  S (st_I S (ky 0 14)))
def f_X6_read (S : St)  : Option (Int32 × St) :=
  lt_v (up_I S (ky 0 4) (st_I S (ky 0 2))) (fun (S1 : St) => (iter (f_X6_read_L10   ) FU ((0 : Int32), S1)).bind (fun (S4 : St) => lt_v (up_I S4 (ky 0 2) (0 : Int32)) (fun (S5 : St) => (f_X6_cut  S5 ).bind (fun (q6 : St) => lt_v (up_I q6 (ky 0 11) (0 : Int32)) (fun (S7 : St) => lt_v (up_I S7 (ky 0 12) (0 : Int32)) (fun (S8 : St) => lt_v (up_I S8 (ky 0 13) (0 : Int32)) (fun (S9 : St) => lt_v (up_I S9 (ky 0 15) (0 : Int32)) (fun (S10 : St) => lt_v (up_I S10 (ky 0 19) ((1 : Int32) - (st_I S10 (ky 0 18)))) (fun (S11 : St) => lt_v (up_I S11 (ky 0 20) (0 : Int32)) (fun (S12 : St) => (f_X6_plain  S12 (st_I S12 (ky 0 19))).bind (fun (q13 : St) => lt_v (up_I q13 (ky 0 38) ((130 : Int32) * (st_I q13 (ky 0 19)))) (fun (S14 : St) => lt_v (up_I S14 (ky 0 44) ((420 : Int32) * (st_I S14 (ky 0 19)))) (fun (S15 : St) => (iter (f_X6_read_L112   ) FU S15).bind (fun (S20 : St) => f_X6_read_J134  S20 ))))))))))))))
set_option maxRecDepth 100000 in
set_option maxHeartbeats 4000000 in
theorem k_X6_read (l : Launch) (g : GG) (hg : gd wd_M g)  (hM : hs wd_M g 0 6) (S : St)  (q : Int32 × St) (hf : f_X6_read  S  = some q) : Met l yX6_read (Cond.code yX6_read cX6_read 2 (some .int) :: gw_tbl) rm_X6_read (va_Pc [.ref (gg_o g 0)] (wI wd_M g S)) (qc_w wd_M g q) 0 0 (aw g) := by
  refine mt_start (own := RX6) hg (by decide) rfl (Nat.le_of_ble_eq_true rfl) (fun p e s m args below meth c ls H locs cx hw hr hlk hl => ?_)
  have hx := cx.1
  have hb := cx.2.1
  have hown := cx.2.2.2.1
  have hts := cx.2.2.2.2.1
  have hl : lv_has ls 2 [(0, .ref (gg_o g 0))] := hl
  replace hf := h_top hf
  unfold f_X6_read at hf
  have J164 : ∀ (ls : Array Slot) (H : Heap) (locs : List Loc) (S : St) (y0 : Int32), lv_has ls 2 [(0, .ref (gg_o g 0))] → HH wd_M g s S H locs → (f_X6_read_J164  S y0).bind some = some q → W p l e rm_X6_read s m args below meth c H locs 0 0 (MQ below (qc_w wd_M g q) args s 0 0 (aw g)) (F0 m 164 ls [.int y0, .ref (gg_o g 0)]) := by
    intro ls H locs S y0 hl hw hf
    unfold f_X6_read_J164 at hf
    refine pf_X6_37 cx hw hM hf dX6_read_164 (fun S23 H locs hw hf => ?_)
    refine lv_aload_n hx hb dX6_read_167 rfl (lv_at hl 0 rfl) ?_
    refine gf_X6_227 cx hw hM dX6_read_168 ?_
    refine lv_if_le hx hb dX6_read_171 (tgt := 179) rfl (fun hc24 => ?_) (fun hc24 => ?_)
    · replace hf := h_pos hc24 hf
      refine lv_aload_n hx hb dX6_read_179 rfl (lv_at hl 0 rfl) ?_
      refine gf_X6_236 cx hw hM dX6_read_180 ?_
      refine lv_if_le hx hb dX6_read_183 (tgt := 191) rfl (fun hc25 => ?_) (fun hc25 => ?_)
      · replace hf := h_pos hc25 hf
        refine lv_aload_n hx hb dX6_read_191 rfl (lv_at hl 0 rfl) ?_
        refine lv_aload_n hx hb dX6_read_192 rfl (lv_at hl 0 rfl) ?_
        refine gf_X6_260 cx hw hM dX6_read_193 ?_
        refine pf_X6_257 cx hw hM hf dX6_read_196 (fun S26 H locs hw hf => ?_)
        refine lv_aload_n hx hb dX6_read_199 rfl (lv_at hl 0 rfl) ?_
        refine r_V_v (As := []) (rest := []) cx hw hf hM.2.1 (by rw [hM.1]; rfl) lk_X6_184 (fun q27 hq => k_X6_begins l g hg  hM S26  q27 hq) ⟨⟨rfl, rfl⟩, Nat.le_of_ble_eq_true rfl, Nat.le_of_ble_eq_true rfl⟩ rfl hl.1 rfl (Nat.le_of_ble_eq_true rfl) dX6_read_200 ⟨Nat.zero_le _, Nat.zero_le _⟩ (fun q27 H locs hw hf => ?_)
        refine lv_aload_n hx hb dX6_read_203 rfl (lv_at hl 0 rfl) ?_
        refine lv_iconst (v := 0) hx hb dX6_read_204 (by decide) ?_
        refine r_V_v (As := [.int (0 : Int32)]) (rest := []) cx hw hf hM.2.1 (by rw [hM.1]; rfl) lk_X6_187 (fun q28 hq => k_X6_keepsRows l g hg  hM q27 (0 : Int32) q28 hq) ⟨⟨rfl, rfl⟩, Nat.le_of_ble_eq_true rfl, Nat.le_of_ble_eq_true rfl⟩ rfl hl.1 rfl (Nat.le_of_ble_eq_true rfl) dX6_read_205 ⟨Nat.zero_le _, Nat.zero_le _⟩ (fun q28 H locs hw hf => ?_)
        refine lv_aload_n hx hb dX6_read_208 rfl (lv_at hl 0 rfl) ?_
        refine lv_iconst (v := 0) hx hb dX6_read_209 (by decide) ?_
        refine pf_X6_275 cx hw hM hf dX6_read_210 (fun S29 H locs hw hf => ?_)
        refine lv_aload_n hx hb dX6_read_213 rfl (lv_at hl 0 rfl) ?_
        refine lv_iconst (v := 0) hx hb dX6_read_214 (by decide) ?_
        refine pf_X6_278 cx hw hM hf dX6_read_215 (fun S30 H locs hw hf => ?_)
        refine lv_iconst (v := 0) hx hb dX6_read_218 (by decide) ?_
        refine lv_istore_n hx hb dX6_read_219 rfl hl (by decide) (lv' := [(1, .int (0 : Int32)), (0, .ref (gg_o g 0))]) rfl (fun ls hl => ?_)
        have L220 : ∀  (aft220 : (Int32 × St) → Option (Int32 × St)), (∀ v : Int32 × St, aft220 v = some q → (some v : Option (Int32 × St)).bind some = some q) → ∀ (n220 : Nat) (ls : Array Slot) (H : Heap) (locs : List Loc) (z220 : Int32 × St), lv_has ls 2 [(0, .ref (gg_o g 0)), (1, .int z220.1)] → HH wd_M g s z220.2 H locs → (iter (f_X6_read_L220   ) n220 z220).bind aft220 = some q → W p l e rm_X6_read s m args below meth c H locs 0 0 (MQ below (qc_w wd_M g q) args s 0 0 (aw g)) (F0 m 220 ls []) := by
          intro aft220 hR220 n220
          induction n220 with
          | zero => intro ls H locs z220 hl hw hf; exact h_iter0 hf
          | succ n220 ih220 =>
            intro ls H locs z220 hl hw hf
            replace hf := h_iter hf
            unfold f_X6_read_L220 at hf
            refine lv_iload_n hx hb dX6_read_220 rfl (lv_at hl 1 rfl) ?_
            refine lv_iconst (v := 3) hx hb dX6_read_221 (by decide) ?_
            refine lv_icmp_ge hx hb dX6_read_222 (tgt := 238) rfl (fun hc31 => ?_) (fun hc31 => ?_)
            · replace hf := h_pos hc31 hf
              refine lv_iconst (v := 0) hx hb dX6_read_238 (by decide) ?_
              replace hf := hR220 ((0 : Int32), z220.2) hf
              exact r_iretw cx hw hr hlk hf dX6_read_239
            replace hf := h_neg hc31 hf
            refine lv_aload_n hx hb dX6_read_225 rfl (lv_at hl 0 rfl) ?_
            refine gf_X6_167 cx hw hM dX6_read_226 ?_
            refine lv_iload_n hx hb dX6_read_229 rfl (lv_at hl 1 rfl) ?_
            refine lv_iconst (v := 0) hx hb dX6_read_230 (by decide) ?_
            refine r_zast cx hw (hM.2.2.1 72 rfl) rfl rfl hf dX6_read_231 (fun S32 H locs hw hf => ?_)
            refine lv_iinc hx hb dX6_read_232 hl (k := 1) rfl (congrArg (HAdd.hAdd _) (show Int32.ofInt (1) = 1 by decide)) (by decide) (lv' := [(1, .int (z220.1 + 1)), (0, .ref (gg_o g 0))]) rfl (fun ls hl => ?_)
            refine lv_goto hx hb dX6_read_235 (tgt := 220) rfl ?_
            exact ih220 _ _ _ ((z220.1 + 1), S32) (lv_sub hl [1, 0] rfl) hw hf
        exact L220 some (fun v h => h) FU _ _ _ ((0 : Int32), S30) (lv_sub hl [1, 0] rfl) hw hf
      replace hf := h_neg hc25 hf
      refine lv_aload_n hx hb dX6_read_186 rfl (lv_at hl 0 rfl) ?_
      refine gf_X6_236 cx hw hM dX6_read_187 ?_
      exact r_iretw cx hw hr hlk hf dX6_read_190
    replace hf := h_neg hc24 hf
    refine lv_aload_n hx hb dX6_read_174 rfl (lv_at hl 0 rfl) ?_
    refine gf_X6_227 cx hw hM dX6_read_175 ?_
    exact r_iretw cx hw hr hlk hf dX6_read_178
  have J134 : ∀ (ls : Array Slot) (H : Heap) (locs : List Loc) (S : St) , lv_has ls 2 [(0, .ref (gg_o g 0))] → HH wd_M g s S H locs → (f_X6_read_J134  S ).bind some = some q → W p l e rm_X6_read s m args below meth c H locs 0 0 (MQ below (qc_w wd_M g q) args s 0 0 (aw g)) (F0 m 134 ls []) := by
    intro ls H locs S  hl hw hf
    unfold f_X6_read_J134 at hf
    refine lv_aload_n hx hb dX6_read_134 rfl (lv_at hl 0 rfl) ?_
    refine lv_aload_n hx hb dX6_read_135 rfl (lv_at hl 0 rfl) ?_
    refine gf_X6_227 cx hw hM dX6_read_136 ?_
    refine lv_if_le hx hb dX6_read_139 (tgt := 149) rfl (fun hc21 => ?_) (fun hc21 => ?_)
    · replace hf := h_pos hc21 hf
      refine lv_aload_n hx hb dX6_read_149 rfl (lv_at hl 0 rfl) ?_
      refine gf_X6_236 cx hw hM dX6_read_150 ?_
      refine lv_if_le hx hb dX6_read_153 (tgt := 163) rfl (fun hc22 => ?_) (fun hc22 => ?_)
      · replace hf := h_pos hc22 hf
        refine lv_iconst (v := -1) hx hb dX6_read_163 (by decide) ?_
        exact J164 _ _ _ S (-1 : Int32) (lv_sub hl [0] rfl) hw hf
      replace hf := h_neg hc22 hf
      refine lv_aload_n hx hb dX6_read_156 rfl (lv_at hl 0 rfl) ?_
      refine gf_X6_239 cx hw hM dX6_read_157 ?_
      refine lv_goto hx hb dX6_read_160 (tgt := 164) rfl ?_
      exact J164 _ _ _ S (st_I S (ky 0 16)) (lv_sub hl [0] rfl) hw hf
    replace hf := h_neg hc21 hf
    refine lv_aload_n hx hb dX6_read_142 rfl (lv_at hl 0 rfl) ?_
    refine gf_X6_233 cx hw hM dX6_read_143 ?_
    refine lv_goto hx hb dX6_read_146 (tgt := 164) rfl ?_
    exact J164 _ _ _ S (st_I S (ky 0 14)) (lv_sub hl [0] rfl) hw hf
  refine lv_aload_n hx hb dX6_read_0 rfl (lv_at hl 0 rfl) ?_
  refine lv_aload_n hx hb dX6_read_1 rfl (lv_at hl 0 rfl) ?_
  refine gf_X6_190 cx hw hM dX6_read_2 ?_
  refine pf_X6_196 cx hw hM hf dX6_read_5 (fun S1 H locs hw hf => ?_)
  refine lv_iconst (v := 0) hx hb dX6_read_8 (by decide) ?_
  refine lv_istore_n hx hb dX6_read_9 rfl hl (by decide) (lv' := [(1, .int (0 : Int32)), (0, .ref (gg_o g 0))]) rfl (fun ls hl => ?_)
  have L10 : ∀  (aft10 : St → Option (Int32 × St)), (∀ (ls : Array Slot) (H : Heap) (locs : List Loc) (S1 : St), lv_has ls 2 [(0, .ref (gg_o g 0))] → HH wd_M g s S1 H locs → aft10 S1 = some q → W p l e rm_X6_read s m args below meth c H locs 0 0 (MQ below (qc_w wd_M g q) args s 0 0 (aw g)) (F0 m 36 ls [])) → ∀ (n10 : Nat) (ls : Array Slot) (H : Heap) (locs : List Loc) (z10 : Int32 × St), lv_has ls 2 [(0, .ref (gg_o g 0)), (1, .int z10.1)] → HH wd_M g s z10.2 H locs → (iter (f_X6_read_L10   ) n10 z10).bind aft10 = some q → W p l e rm_X6_read s m args below meth c H locs 0 0 (MQ below (qc_w wd_M g q) args s 0 0 (aw g)) (F0 m 10 ls []) := by
    intro aft10 hX10 n10
    induction n10 with
    | zero => intro ls H locs z10 hl hw hf; exact h_iter0 hf
    | succ n10 ih10 =>
      intro ls H locs z10 hl hw hf
      replace hf := h_iter hf
      unfold f_X6_read_L10 at hf
      refine lv_iload_n hx hb dX6_read_10 rfl (lv_at hl 1 rfl) ?_
      refine lv_aload_n hx hb dX6_read_11 rfl (lv_at hl 0 rfl) ?_
      refine gf_X6_196 cx hw hM dX6_read_12 ?_
      refine lv_icmp_ge hx hb dX6_read_15 (tgt := 36) rfl (fun hc2 => ?_) (fun hc2 => ?_)
      · replace hf := h_pos hc2 hf
        exact hX10 _ _ _ z10.2 (lv_sub hl [0] rfl) hw hf
      replace hf := h_neg hc2 hf
      refine lv_aload_n hx hb dX6_read_18 rfl (lv_at hl 0 rfl) ?_
      refine gf_X6_17 cx hw hM dX6_read_19 ?_
      refine lv_iload_n hx hb dX6_read_22 rfl (lv_at hl 1 rfl) ?_
      refine lv_aload_n hx hb dX6_read_23 rfl (lv_at hl 0 rfl) ?_
      refine gf_X6_13 cx hw hM dX6_read_24 ?_
      refine lv_iload_n hx hb dX6_read_27 rfl (lv_at hl 1 rfl) ?_
      refine r_bald cx hw (hM.2.2.1 1 rfl) rfl rfl hf dX6_read_28 (fun hf => ?_)
      refine r_bast cx hw (hM.2.2.1 3 rfl) rfl rfl hf dX6_read_29 (fun S3 H locs hw hf => ?_)
      refine lv_iinc hx hb dX6_read_30 hl (k := 1) rfl (congrArg (HAdd.hAdd _) (show Int32.ofInt (1) = 1 by decide)) (by decide) (lv' := [(1, .int (z10.1 + 1)), (0, .ref (gg_o g 0))]) rfl (fun ls hl => ?_)
      refine lv_goto hx hb dX6_read_33 (tgt := 10) rfl ?_
      exact ih10 _ _ _ ((z10.1 + 1), S3) (lv_sub hl [1, 0] rfl) hw hf
  refine L10 _ (fun ls H locs S4 hl hw hf => ?_) FU _ _ _ ((0 : Int32), S1) (lv_sub hl [1, 0] rfl) hw (h_assoc hf)
  try dsimp only at hf
  refine lv_aload_n hx hb dX6_read_36 rfl (lv_at hl 0 rfl) ?_
  refine lv_iconst (v := 0) hx hb dX6_read_37 (by decide) ?_
  refine pf_X6_190 cx hw hM hf dX6_read_38 (fun S5 H locs hw hf => ?_)
  refine lv_aload_n hx hb dX6_read_41 rfl (lv_at hl 0 rfl) ?_
  refine r_V_v (As := []) (rest := []) cx hw hf hM.2.1 (by rw [hM.1]; rfl) lk_X6_251 (fun q6 hq => k_X6_cut l g hg  hM S5  q6 hq) ⟨⟨rfl, rfl⟩, Nat.le_of_ble_eq_true rfl, Nat.le_of_ble_eq_true rfl⟩ rfl hl.1 rfl (Nat.le_of_ble_eq_true rfl) dX6_read_42 ⟨Nat.zero_le _, Nat.zero_le _⟩ (fun q6 H locs hw hf => ?_)
  refine lv_aload_n hx hb dX6_read_45 rfl (lv_at hl 0 rfl) ?_
  refine lv_iconst (v := 0) hx hb dX6_read_46 (by decide) ?_
  refine pf_X6_230 cx hw hM hf dX6_read_47 (fun S7 H locs hw hf => ?_)
  refine lv_aload_n hx hb dX6_read_50 rfl (lv_at hl 0 rfl) ?_
  refine lv_iconst (v := 0) hx hb dX6_read_51 (by decide) ?_
  refine pf_X6_254 cx hw hM hf dX6_read_52 (fun S8 H locs hw hf => ?_)
  refine lv_aload_n hx hb dX6_read_55 rfl (lv_at hl 0 rfl) ?_
  refine lv_iconst (v := 0) hx hb dX6_read_56 (by decide) ?_
  refine pf_X6_227 cx hw hM hf dX6_read_57 (fun S9 H locs hw hf => ?_)
  refine lv_aload_n hx hb dX6_read_60 rfl (lv_at hl 0 rfl) ?_
  refine lv_iconst (v := 0) hx hb dX6_read_61 (by decide) ?_
  refine pf_X6_236 cx hw hM hf dX6_read_62 (fun S10 H locs hw hf => ?_)
  refine lv_aload_n hx hb dX6_read_65 rfl (lv_at hl 0 rfl) ?_
  refine lv_iconst (v := 1) hx hb dX6_read_66 (by decide) ?_
  refine lv_aload_n hx hb dX6_read_67 rfl (lv_at hl 0 rfl) ?_
  refine gf_X6_257 cx hw hM dX6_read_68 ?_
  refine lv_isub hx hb dX6_read_71 ?_
  refine pf_X6_260 cx hw hM hf dX6_read_72 (fun S11 H locs hw hf => ?_)
  refine lv_aload_n hx hb dX6_read_75 rfl (lv_at hl 0 rfl) ?_
  refine lv_iconst (v := 0) hx hb dX6_read_76 (by decide) ?_
  refine pf_X6_263 cx hw hM hf dX6_read_77 (fun S12 H locs hw hf => ?_)
  refine lv_aload_n hx hb dX6_read_80 rfl (lv_at hl 0 rfl) ?_
  refine lv_aload_n hx hb dX6_read_81 rfl (lv_at hl 0 rfl) ?_
  refine gf_X6_260 cx hw hM dX6_read_82 ?_
  refine r_V_v (As := [.int (st_I S12 (ky 0 19))]) (rest := []) cx hw hf hM.2.1 (by rw [hM.1]; rfl) lk_X6_176 (fun q13 hq => k_X6_plain l g hg  hM S12 (st_I S12 (ky 0 19)) q13 hq) ⟨⟨rfl, rfl⟩, Nat.le_of_ble_eq_true rfl, Nat.le_of_ble_eq_true rfl⟩ rfl hl.1 rfl (Nat.le_of_ble_eq_true rfl) dX6_read_85 ⟨Nat.zero_le _, Nat.zero_le _⟩ (fun q13 H locs hw hf => ?_)
  refine lv_aload_n hx hb dX6_read_88 rfl (lv_at hl 0 rfl) ?_
  refine lv_sipush (v := 130) hx hb dX6_read_89 (by decide) ?_
  refine lv_aload_n hx hb dX6_read_92 rfl (lv_at hl 0 rfl) ?_
  refine gf_X6_260 cx hw hM dX6_read_93 ?_
  refine lv_imul hx hb dX6_read_96 ?_
  refine pf_X6_266 cx hw hM hf dX6_read_97 (fun S14 H locs hw hf => ?_)
  refine lv_aload_n hx hb dX6_read_100 rfl (lv_at hl 0 rfl) ?_
  refine lv_sipush (v := 420) hx hb dX6_read_101 (by decide) ?_
  refine lv_aload_n hx hb dX6_read_104 rfl (lv_at hl 0 rfl) ?_
  refine gf_X6_260 cx hw hM dX6_read_105 ?_
  refine lv_imul hx hb dX6_read_108 ?_
  refine pf_X6_269 cx hw hM hf dX6_read_109 (fun S15 H locs hw hf => ?_)
  have L112 : ∀  (aft112 : St → Option (Int32 × St)), (∀ (ls : Array Slot) (H : Heap) (locs : List Loc) (S1 : St), lv_has ls 2 [(0, .ref (gg_o g 0))] → HH wd_M g s S1 H locs → aft112 S1 = some q → W p l e rm_X6_read s m args below meth c H locs 0 0 (MQ below (qc_w wd_M g q) args s 0 0 (aw g)) (F0 m 134 ls [])) → ∀ (n112 : Nat) (ls : Array Slot) (H : Heap) (locs : List Loc) (z112 : St), lv_has ls 2 [(0, .ref (gg_o g 0))] → HH wd_M g s z112 H locs → (iter (f_X6_read_L112   ) n112 z112).bind aft112 = some q → W p l e rm_X6_read s m args below meth c H locs 0 0 (MQ below (qc_w wd_M g q) args s 0 0 (aw g)) (F0 m 112 ls []) := by
    intro aft112 hX112 n112
    induction n112 with
    | zero => intro ls H locs z112 hl hw hf; exact h_iter0 hf
    | succ n112 ih112 =>
      intro ls H locs z112 hl hw hf
      replace hf := h_iter hf
      unfold f_X6_read_L112 at hf
      refine lv_aload_n hx hb dX6_read_112 rfl (lv_at hl 0 rfl) ?_
      refine gf_X6_227 cx hw hM dX6_read_113 ?_
      refine lv_if_ne hx hb dX6_read_116 (tgt := 134) rfl (fun hc16 => ?_) (fun hc16 => ?_)
      · replace hf := h_neg hc16 hf
        exact hX112 _ _ _ z112 (lv_sub hl [0] rfl) hw hf
      replace hf := h_pos hc16 hf
      refine lv_aload_n hx hb dX6_read_119 rfl (lv_at hl 0 rfl) ?_
      refine lv_iconst (v := 0) hx hb dX6_read_120 (by decide) ?_
      refine r_V_i (As := [.int (0 : Int32)]) (rest := []) cx hw hf hM.2.1 (by rw [hM.1]; rfl) lk_X6_245 (fun q17 hq => k_X6_is l g hg  hM z112 (0 : Int32) q17 hq) ⟨⟨rfl, rfl⟩, Nat.le_of_ble_eq_true rfl, Nat.le_of_ble_eq_true rfl⟩ rfl hl.1 rfl (Nat.le_of_ble_eq_true rfl) dX6_read_121 ⟨Nat.zero_le _, Nat.zero_le _⟩ (fun q17 H locs hw hf => ?_)
      refine lv_if_ne hx hb dX6_read_124 (tgt := 134) rfl (fun hc18 => ?_) (fun hc18 => ?_)
      · replace hf := h_neg hc18 hf
        exact hX112 _ _ _ z112 (lv_sub hl [0] rfl) hw hf
      replace hf := h_pos hc18 hf
      refine lv_aload_n hx hb dX6_read_127 rfl (lv_at hl 0 rfl) ?_
      refine r_V_v (As := []) (rest := []) cx hw hf hM.2.1 (by rw [hM.1]; rfl) lk_X6_272 (fun q19 hq => k_X6_tellOne l g hg  hM z112  q19 hq) ⟨⟨rfl, rfl⟩, Nat.le_of_ble_eq_true rfl, Nat.le_of_ble_eq_true rfl⟩ rfl hl.1 rfl (Nat.le_of_ble_eq_true rfl) dX6_read_128 ⟨Nat.zero_le _, Nat.zero_le _⟩ (fun q19 H locs hw hf => ?_)
      refine lv_goto hx hb dX6_read_131 (tgt := 112) rfl ?_
      exact ih112 _ _ _ q19 (lv_sub hl [0] rfl) hw hf
  refine L112 _ (fun ls H locs S20 hl hw hf => ?_) FU _ _ _ S15 (lv_sub hl [0] rfl) hw (h_assoc hf)
  try dsimp only at hf
  exact J134 _ _ _ S20 (lv_sub hl [0] rfl) hw hf
theorem dX6_place_0 : decode cX6_place 0 = .ok (.aload_n 0, 1) := by decide +kernel
theorem dX6_place_1 : decode cX6_place 1 = .ok (.getfield 37, 3) := by decide +kernel
theorem dX6_place_4 : decode cX6_place 4 = .ok (.ireturn, 1) := by decide +kernel
abbrev rm_X6_place : Room := { frames := 0, cells := 0, slots := 0, locals := 0 }
def f_X6_place (S : St)  : Option (Int32) :=
  some (st_I S (ky 0 17))
set_option maxRecDepth 100000 in
set_option maxHeartbeats 4000000 in
theorem k_X6_place (l : Launch) (g : GG) (hg : gd wd_M g)  (hM : hs wd_M g 0 6) (S : St)  (q : Int32) (hf : f_X6_place  S  = some q) : Met l yX6_place (Cond.code yX6_place cX6_place 1 (some .int) :: gw_tbl) rm_X6_place (va_Pc [.ref (gg_o g 0)] (wI wd_M g S)) (qc_i wd_M g S q) 0 0 (aw g) := by
  refine mt_start (own := RX6) hg (by decide) rfl (Nat.le_of_ble_eq_true rfl) (fun p e s m args below meth c ls H locs cx hw hr hlk hl => ?_)
  have hx := cx.1
  have hb := cx.2.1
  have hown := cx.2.2.2.1
  have hts := cx.2.2.2.2.1
  have hl : lv_has ls 1 [(0, .ref (gg_o g 0))] := hl
  replace hf := h_top hf
  unfold f_X6_place at hf
  refine lv_aload_n hx hb dX6_place_0 rfl (lv_at hl 0 rfl) ?_
  refine gf_X6_37 cx hw hM dX6_place_1 ?_
  exact r_iret cx hw hr hlk hf dX6_place_4
theorem dX6_in_0 : decode cX6_in 0 = .ok (.iload_n 0, 1) := by decide +kernel
theorem dX6_in_1 : decode cX6_in 1 = .ok (.iload_n 1, 1) := by decide +kernel
theorem dX6_in_2 : decode cX6_in 2 = .ok (.if_icmp .lt 12, 3) := by decide +kernel
theorem dX6_in_5 : decode cX6_in 5 = .ok (.iload_n 0, 1) := by decide +kernel
theorem dX6_in_6 : decode cX6_in 6 = .ok (.iload_n 2, 1) := by decide +kernel
theorem dX6_in_7 : decode cX6_in 7 = .ok (.if_icmp .gt 7, 3) := by decide +kernel
theorem dX6_in_10 : decode cX6_in 10 = .ok (.iconst 1, 1) := by decide +kernel
theorem dX6_in_11 : decode cX6_in 11 = .ok (.goto 4, 3) := by decide +kernel
theorem dX6_in_14 : decode cX6_in 14 = .ok (.iconst 0, 1) := by decide +kernel
theorem dX6_in_15 : decode cX6_in 15 = .ok (.ireturn, 1) := by decide +kernel
abbrev rm_X6_in : Room := { frames := 0, cells := 0, slots := 0, locals := 0 }
def f_X6_in (x0 : Int32) (x1 : Int32) (x2 : Int32) : Option (Int32) :=
  if x0 < x1 then (some (0 : Int32)) else (if x2 < x0 then (some (0 : Int32)) else (some (1 : Int32)))
set_option maxRecDepth 100000 in
set_option maxHeartbeats 4000000 in
theorem k_X6_in (l : Launch) (g : GG) (hg : gd wd_M g)  (S : St) (x0 : Int32) (x1 : Int32) (x2 : Int32) (q : Int32) (hf : f_X6_in   x0 x1 x2 = some q) : Met l yX6_in (Cond.code yX6_in cX6_in 3 (some .boolean) :: gw_tbl) rm_X6_in (va_Pc [.int x0, .int x1, .int x2] (wI wd_M g S)) (qc_i wd_M g S q) 0 0 (aw g) := by
  refine mt_start (own := RX6) hg (by decide) rfl (Nat.le_of_ble_eq_true rfl) (fun p e s m args below meth c ls H locs cx hw hr hlk hl => ?_)
  have hx := cx.1
  have hb := cx.2.1
  have hown := cx.2.2.2.1
  have hts := cx.2.2.2.2.1
  have hl : lv_has ls 3 [(0, .int x0), (1, .int x1), (2, .int x2)] := hl
  replace hf := h_top hf
  unfold f_X6_in at hf
  refine lv_iload_n hx hb dX6_in_0 rfl (lv_at hl 0 rfl) ?_
  refine lv_iload_n hx hb dX6_in_1 rfl (lv_at hl 1 rfl) ?_
  refine lv_icmp_lt hx hb dX6_in_2 (tgt := 14) rfl (fun hc1 => ?_) (fun hc1 => ?_)
  · replace hf := h_pos hc1 hf
    refine lv_iconst (v := 0) hx hb dX6_in_14 (by decide) ?_
    exact r_zret cx hw hr hlk (Or.inl rfl) hf dX6_in_15
  replace hf := h_neg hc1 hf
  refine lv_iload_n hx hb dX6_in_5 rfl (lv_at hl 0 rfl) ?_
  refine lv_iload_n hx hb dX6_in_6 rfl (lv_at hl 2 rfl) ?_
  refine lv_icmp_gt hx hb dX6_in_7 (tgt := 14) rfl (fun hc2 => ?_) (fun hc2 => ?_)
  · replace hf := h_pos hc2 hf
    refine lv_iconst (v := 0) hx hb dX6_in_14 (by decide) ?_
    exact r_zret cx hw hr hlk (Or.inl rfl) hf dX6_in_15
  replace hf := h_neg hc2 hf
  refine lv_iconst (v := 1) hx hb dX6_in_10 (by decide) ?_
  refine lv_goto hx hb dX6_in_11 (tgt := 15) rfl ?_
  exact r_zret cx hw hr hlk (Or.inr rfl) hf dX6_in_15
theorem dX6_isRoom_0 : decode cX6_isRoom 0 = .ok (.iload_n 1, 1) := by decide +kernel
theorem dX6_isRoom_1 : decode cX6_isRoom 1 = .ok (.iconst 0, 1) := by decide +kernel
theorem dX6_isRoom_2 : decode cX6_isRoom 2 = .ok (.aload_n 0, 1) := by decide +kernel
theorem dX6_isRoom_3 : decode cX6_isRoom 3 = .ok (.getfield 49, 3) := by decide +kernel
theorem dX6_isRoom_6 : decode cX6_isRoom 6 = .ok (.aload_n 0, 1) := by decide +kernel
theorem dX6_isRoom_7 : decode cX6_isRoom 7 = .ok (.getfield 257, 3) := by decide +kernel
theorem dX6_isRoom_10 : decode cX6_isRoom 10 = .ok (.iaload, 1) := by decide +kernel
theorem dX6_isRoom_11 : decode cX6_isRoom 11 = .ok (.iconst 1, 1) := by decide +kernel
theorem dX6_isRoom_12 : decode cX6_isRoom 12 = .ok (.isub, 1) := by decide +kernel
theorem dX6_isRoom_13 : decode cX6_isRoom 13 = .ok (.invokestatic 341, 3) := by decide +kernel
theorem dX6_isRoom_16 : decode cX6_isRoom 16 = .ok (.ireturn, 1) := by decide +kernel
abbrev rm_X6_isRoom : Room := { frames := 1, cells := 0, slots := 0, locals := 22 }
def f_X6_isRoom (S : St) (x1 : Int32) : Option (Int32) :=
  chk (ib (st_I S (ky 0 18)) 2) ((f_X6_in   x1 (0 : Int32) ((st_A S (ky 0 24) (st_I S (ky 0 18)).toNatClampNeg) - (1 : Int32))).bind (fun (q1 : Int32) => chk (isb q1) (some q1)))
set_option maxRecDepth 100000 in
set_option maxHeartbeats 4000000 in
theorem k_X6_isRoom (l : Launch) (g : GG) (hg : gd wd_M g)  (hM : hs wd_M g 0 6) (S : St) (x1 : Int32) (q : Int32) (hf : f_X6_isRoom  S x1 = some q) : Met l yX6_isRoom (Cond.code yX6_isRoom cX6_isRoom 2 (some .boolean) :: gw_tbl) rm_X6_isRoom (va_Pc [.ref (gg_o g 0), .int x1] (wI wd_M g S)) (qc_i wd_M g S q) 0 0 (aw g) := by
  refine mt_start (own := RX6) hg (by decide) rfl (Nat.le_of_ble_eq_true rfl) (fun p e s m args below meth c ls H locs cx hw hr hlk hl => ?_)
  have hx := cx.1
  have hb := cx.2.1
  have hown := cx.2.2.2.1
  have hts := cx.2.2.2.2.1
  have hl : lv_has ls 2 [(0, .ref (gg_o g 0)), (1, .int x1)] := hl
  replace hf := h_top hf
  unfold f_X6_isRoom at hf
  refine lv_iload_n hx hb dX6_isRoom_0 rfl (lv_at hl 1 rfl) ?_
  refine lv_iconst (v := 0) hx hb dX6_isRoom_1 (by decide) ?_
  refine lv_aload_n hx hb dX6_isRoom_2 rfl (lv_at hl 0 rfl) ?_
  refine gf_X6_49 cx hw hM dX6_isRoom_3 ?_
  refine lv_aload_n hx hb dX6_isRoom_6 rfl (lv_at hl 0 rfl) ?_
  refine gf_X6_257 cx hw hM dX6_isRoom_7 ?_
  refine r_iald cx hw (hM.2.2.1 24 rfl) rfl rfl hf dX6_isRoom_10 (fun hf => ?_)
  refine lv_iconst (v := 1) hx hb dX6_isRoom_11 (by decide) ?_
  refine lv_isub hx hb dX6_isRoom_12 ?_
  refine r_S_i (As := [.int x1, .int (0 : Int32), .int ((st_A S (ky 0 24) (st_I S (ky 0 18)).toNatClampNeg) - (1 : Int32))]) (rest := []) cx hw hf lk_X6_341 (fun q1 hq => k_X6_in l g hg   S x1 (0 : Int32) ((st_A S (ky 0 24) (st_I S (ky 0 18)).toNatClampNeg) - (1 : Int32)) q1 hq) ⟨⟨rfl, rfl⟩, Nat.le_of_ble_eq_true rfl, Nat.le_of_ble_eq_true rfl⟩ rfl hl.1 rfl (Nat.le_of_ble_eq_true rfl) dX6_isRoom_13 ⟨Nat.zero_le _, Nat.zero_le _⟩ (fun q1 H locs hw hf => ?_)
  obtain ⟨hc2, hf⟩ := h_chk hf
  exact r_zret cx hw hr hlk hc2 hf dX6_isRoom_16
theorem dX6_isMan_0 : decode cX6_isMan 0 = .ok (.iload_n 1, 1) := by decide +kernel
theorem dX6_isMan_1 : decode cX6_isMan 1 = .ok (.iconst 0, 1) := by decide +kernel
theorem dX6_isMan_2 : decode cX6_isMan 2 = .ok (.aload_n 0, 1) := by decide +kernel
theorem dX6_isMan_3 : decode cX6_isMan 3 = .ok (.getfield 61, 3) := by decide +kernel
theorem dX6_isMan_6 : decode cX6_isMan 6 = .ok (.aload_n 0, 1) := by decide +kernel
theorem dX6_isMan_7 : decode cX6_isMan 7 = .ok (.getfield 257, 3) := by decide +kernel
theorem dX6_isMan_10 : decode cX6_isMan 10 = .ok (.iaload, 1) := by decide +kernel
theorem dX6_isMan_11 : decode cX6_isMan 11 = .ok (.iconst 1, 1) := by decide +kernel
theorem dX6_isMan_12 : decode cX6_isMan 12 = .ok (.isub, 1) := by decide +kernel
theorem dX6_isMan_13 : decode cX6_isMan 13 = .ok (.invokestatic 341, 3) := by decide +kernel
theorem dX6_isMan_16 : decode cX6_isMan 16 = .ok (.ireturn, 1) := by decide +kernel
abbrev rm_X6_isMan : Room := { frames := 1, cells := 0, slots := 0, locals := 22 }
def f_X6_isMan (S : St) (x1 : Int32) : Option (Int32) :=
  chk (ib (st_I S (ky 0 18)) 2) ((f_X6_in   x1 (0 : Int32) ((st_A S (ky 0 28) (st_I S (ky 0 18)).toNatClampNeg) - (1 : Int32))).bind (fun (q1 : Int32) => chk (isb q1) (some q1)))
set_option maxRecDepth 100000 in
set_option maxHeartbeats 4000000 in
theorem k_X6_isMan (l : Launch) (g : GG) (hg : gd wd_M g)  (hM : hs wd_M g 0 6) (S : St) (x1 : Int32) (q : Int32) (hf : f_X6_isMan  S x1 = some q) : Met l yX6_isMan (Cond.code yX6_isMan cX6_isMan 2 (some .boolean) :: gw_tbl) rm_X6_isMan (va_Pc [.ref (gg_o g 0), .int x1] (wI wd_M g S)) (qc_i wd_M g S q) 0 0 (aw g) := by
  refine mt_start (own := RX6) hg (by decide) rfl (Nat.le_of_ble_eq_true rfl) (fun p e s m args below meth c ls H locs cx hw hr hlk hl => ?_)
  have hx := cx.1
  have hb := cx.2.1
  have hown := cx.2.2.2.1
  have hts := cx.2.2.2.2.1
  have hl : lv_has ls 2 [(0, .ref (gg_o g 0)), (1, .int x1)] := hl
  replace hf := h_top hf
  unfold f_X6_isMan at hf
  refine lv_iload_n hx hb dX6_isMan_0 rfl (lv_at hl 1 rfl) ?_
  refine lv_iconst (v := 0) hx hb dX6_isMan_1 (by decide) ?_
  refine lv_aload_n hx hb dX6_isMan_2 rfl (lv_at hl 0 rfl) ?_
  refine gf_X6_61 cx hw hM dX6_isMan_3 ?_
  refine lv_aload_n hx hb dX6_isMan_6 rfl (lv_at hl 0 rfl) ?_
  refine gf_X6_257 cx hw hM dX6_isMan_7 ?_
  refine r_iald cx hw (hM.2.2.1 28 rfl) rfl rfl hf dX6_isMan_10 (fun hf => ?_)
  refine lv_iconst (v := 1) hx hb dX6_isMan_11 (by decide) ?_
  refine lv_isub hx hb dX6_isMan_12 ?_
  refine r_S_i (As := [.int x1, .int (0 : Int32), .int ((st_A S (ky 0 28) (st_I S (ky 0 18)).toNatClampNeg) - (1 : Int32))]) (rest := []) cx hw hf lk_X6_341 (fun q1 hq => k_X6_in l g hg   S x1 (0 : Int32) ((st_A S (ky 0 28) (st_I S (ky 0 18)).toNatClampNeg) - (1 : Int32)) q1 hq) ⟨⟨rfl, rfl⟩, Nat.le_of_ble_eq_true rfl, Nat.le_of_ble_eq_true rfl⟩ rfl hl.1 rfl (Nat.le_of_ble_eq_true rfl) dX6_isMan_13 ⟨Nat.zero_le _, Nat.zero_le _⟩ (fun q1 H locs hw hf => ?_)
  obtain ⟨hc2, hf⟩ := h_chk hf
  exact r_zret cx hw hr hlk hc2 hf dX6_isMan_16
theorem dX6_isMirror_0 : decode cX6_isMirror 0 = .ok (.iload_n 1, 1) := by decide +kernel
theorem dX6_isMirror_1 : decode cX6_isMirror 1 = .ok (.iconst 0, 1) := by decide +kernel
theorem dX6_isMirror_2 : decode cX6_isMirror 2 = .ok (.aload_n 0, 1) := by decide +kernel
theorem dX6_isMirror_3 : decode cX6_isMirror 3 = .ok (.getfield 70, 3) := by decide +kernel
theorem dX6_isMirror_6 : decode cX6_isMirror 6 = .ok (.aload_n 0, 1) := by decide +kernel
theorem dX6_isMirror_7 : decode cX6_isMirror 7 = .ok (.getfield 257, 3) := by decide +kernel
theorem dX6_isMirror_10 : decode cX6_isMirror 10 = .ok (.iaload, 1) := by decide +kernel
theorem dX6_isMirror_11 : decode cX6_isMirror 11 = .ok (.iconst 1, 1) := by decide +kernel
theorem dX6_isMirror_12 : decode cX6_isMirror 12 = .ok (.isub, 1) := by decide +kernel
theorem dX6_isMirror_13 : decode cX6_isMirror 13 = .ok (.invokestatic 341, 3) := by decide +kernel
theorem dX6_isMirror_16 : decode cX6_isMirror 16 = .ok (.ireturn, 1) := by decide +kernel
abbrev rm_X6_isMirror : Room := { frames := 1, cells := 0, slots := 0, locals := 22 }
def f_X6_isMirror (S : St) (x1 : Int32) : Option (Int32) :=
  chk (ib (st_I S (ky 0 18)) 2) ((f_X6_in   x1 (0 : Int32) ((st_A S (ky 0 31) (st_I S (ky 0 18)).toNatClampNeg) - (1 : Int32))).bind (fun (q1 : Int32) => chk (isb q1) (some q1)))
set_option maxRecDepth 100000 in
set_option maxHeartbeats 4000000 in
theorem k_X6_isMirror (l : Launch) (g : GG) (hg : gd wd_M g)  (hM : hs wd_M g 0 6) (S : St) (x1 : Int32) (q : Int32) (hf : f_X6_isMirror  S x1 = some q) : Met l yX6_isMirror (Cond.code yX6_isMirror cX6_isMirror 2 (some .boolean) :: gw_tbl) rm_X6_isMirror (va_Pc [.ref (gg_o g 0), .int x1] (wI wd_M g S)) (qc_i wd_M g S q) 0 0 (aw g) := by
  refine mt_start (own := RX6) hg (by decide) rfl (Nat.le_of_ble_eq_true rfl) (fun p e s m args below meth c ls H locs cx hw hr hlk hl => ?_)
  have hx := cx.1
  have hb := cx.2.1
  have hown := cx.2.2.2.1
  have hts := cx.2.2.2.2.1
  have hl : lv_has ls 2 [(0, .ref (gg_o g 0)), (1, .int x1)] := hl
  replace hf := h_top hf
  unfold f_X6_isMirror at hf
  refine lv_iload_n hx hb dX6_isMirror_0 rfl (lv_at hl 1 rfl) ?_
  refine lv_iconst (v := 0) hx hb dX6_isMirror_1 (by decide) ?_
  refine lv_aload_n hx hb dX6_isMirror_2 rfl (lv_at hl 0 rfl) ?_
  refine gf_X6_70 cx hw hM dX6_isMirror_3 ?_
  refine lv_aload_n hx hb dX6_isMirror_6 rfl (lv_at hl 0 rfl) ?_
  refine gf_X6_257 cx hw hM dX6_isMirror_7 ?_
  refine r_iald cx hw (hM.2.2.1 31 rfl) rfl rfl hf dX6_isMirror_10 (fun hf => ?_)
  refine lv_iconst (v := 1) hx hb dX6_isMirror_11 (by decide) ?_
  refine lv_isub hx hb dX6_isMirror_12 ?_
  refine r_S_i (As := [.int x1, .int (0 : Int32), .int ((st_A S (ky 0 31) (st_I S (ky 0 18)).toNatClampNeg) - (1 : Int32))]) (rest := []) cx hw hf lk_X6_341 (fun q1 hq => k_X6_in l g hg   S x1 (0 : Int32) ((st_A S (ky 0 31) (st_I S (ky 0 18)).toNatClampNeg) - (1 : Int32)) q1 hq) ⟨⟨rfl, rfl⟩, Nat.le_of_ble_eq_true rfl, Nat.le_of_ble_eq_true rfl⟩ rfl hl.1 rfl (Nat.le_of_ble_eq_true rfl) dX6_isMirror_13 ⟨Nat.zero_le _, Nat.zero_le _⟩ (fun q1 H locs hw hf => ?_)
  obtain ⟨hc2, hf⟩ := h_chk hf
  exact r_zret cx hw hr hlk hc2 hf dX6_isMirror_16
theorem dX6_isPast_0 : decode cX6_isPast 0 = .ok (.iload_n 1, 1) := by decide +kernel
theorem dX6_isPast_1 : decode cX6_isPast 1 = .ok (.iconst 0, 1) := by decide +kernel
theorem dX6_isPast_2 : decode cX6_isPast 2 = .ok (.aload_n 0, 1) := by decide +kernel
theorem dX6_isPast_3 : decode cX6_isPast 3 = .ok (.getfield 345, 3) := by decide +kernel
theorem dX6_isPast_6 : decode cX6_isPast 6 = .ok (.invokestatic 341, 3) := by decide +kernel
theorem dX6_isPast_9 : decode cX6_isPast 9 = .ok (.ireturn, 1) := by decide +kernel
abbrev rm_X6_isPast : Room := { frames := 1, cells := 0, slots := 0, locals := 22 }
def f_X6_isPast (S : St) (x1 : Int32) : Option (Int32) :=
  (f_X6_in   x1 (0 : Int32) (st_I S (ky 0 53))).bind (fun (q1 : Int32) => chk (isb q1) (some q1))
set_option maxRecDepth 100000 in
set_option maxHeartbeats 4000000 in
theorem k_X6_isPast (l : Launch) (g : GG) (hg : gd wd_M g)  (hM : hs wd_M g 0 6) (S : St) (x1 : Int32) (q : Int32) (hf : f_X6_isPast  S x1 = some q) : Met l yX6_isPast (Cond.code yX6_isPast cX6_isPast 2 (some .boolean) :: gw_tbl) rm_X6_isPast (va_Pc [.ref (gg_o g 0), .int x1] (wI wd_M g S)) (qc_i wd_M g S q) 0 0 (aw g) := by
  refine mt_start (own := RX6) hg (by decide) rfl (Nat.le_of_ble_eq_true rfl) (fun p e s m args below meth c ls H locs cx hw hr hlk hl => ?_)
  have hx := cx.1
  have hb := cx.2.1
  have hown := cx.2.2.2.1
  have hts := cx.2.2.2.2.1
  have hl : lv_has ls 2 [(0, .ref (gg_o g 0)), (1, .int x1)] := hl
  replace hf := h_top hf
  unfold f_X6_isPast at hf
  refine lv_iload_n hx hb dX6_isPast_0 rfl (lv_at hl 1 rfl) ?_
  refine lv_iconst (v := 0) hx hb dX6_isPast_1 (by decide) ?_
  refine lv_aload_n hx hb dX6_isPast_2 rfl (lv_at hl 0 rfl) ?_
  refine gf_X6_345 cx hw hM dX6_isPast_3 ?_
  refine r_S_i (As := [.int x1, .int (0 : Int32), .int (st_I S (ky 0 53))]) (rest := []) cx hw hf lk_X6_341 (fun q1 hq => k_X6_in l g hg   S x1 (0 : Int32) (st_I S (ky 0 53)) q1 hq) ⟨⟨rfl, rfl⟩, Nat.le_of_ble_eq_true rfl, Nat.le_of_ble_eq_true rfl⟩ rfl hl.1 rfl (Nat.le_of_ble_eq_true rfl) dX6_isPast_6 ⟨Nat.zero_le _, Nat.zero_le _⟩ (fun q1 H locs hw hf => ?_)
  obtain ⟨hc2, hf⟩ := h_chk hf
  exact r_zret cx hw hr hlk hc2 hf dX6_isPast_9
