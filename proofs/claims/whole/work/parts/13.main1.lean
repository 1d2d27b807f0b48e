theorem dX5_addBytes_0 : decode cX5_addBytes 0 = .ok (.bipush 24, 2) := by decide +kernel
theorem dX5_addBytes_2 : decode cX5_addBytes 2 = .ok (.istore_n 2, 1) := by decide +kernel
theorem dX5_addBytes_3 : decode cX5_addBytes 3 = .ok (.iload_n 2, 1) := by decide +kernel
theorem dX5_addBytes_4 : decode cX5_addBytes 4 = .ok (.ifCond .lt 37, 3) := by decide +kernel
theorem dX5_addBytes_7 : decode cX5_addBytes 7 = .ok (.aload_n 0, 1) := by decide +kernel
theorem dX5_addBytes_8 : decode cX5_addBytes 8 = .ok (.getfield 9, 3) := by decide +kernel
theorem dX5_addBytes_11 : decode cX5_addBytes 11 = .ok (.aload_n 0, 1) := by decide +kernel
theorem dX5_addBytes_12 : decode cX5_addBytes 12 = .ok (.getfield 69, 3) := by decide +kernel
theorem dX5_addBytes_15 : decode cX5_addBytes 15 = .ok (.iload_n 1, 1) := by decide +kernel
theorem dX5_addBytes_16 : decode cX5_addBytes 16 = .ok (.iload_n 2, 1) := by decide +kernel
theorem dX5_addBytes_17 : decode cX5_addBytes 17 = .ok (.iushr, 1) := by decide +kernel
theorem dX5_addBytes_18 : decode cX5_addBytes 18 = .ok (.sipush 255, 3) := by decide +kernel
theorem dX5_addBytes_21 : decode cX5_addBytes 21 = .ok (.iand, 1) := by decide +kernel
theorem dX5_addBytes_22 : decode cX5_addBytes 22 = .ok (.invokestatic 76, 3) := by decide +kernel
theorem dX5_addBytes_25 : decode cX5_addBytes 25 = .ok (.aload_n 0, 1) := by decide +kernel
theorem dX5_addBytes_26 : decode cX5_addBytes 26 = .ok (.dup, 1) := by decide +kernel
theorem dX5_addBytes_27 : decode cX5_addBytes 27 = .ok (.getfield 69, 3) := by decide +kernel
theorem dX5_addBytes_30 : decode cX5_addBytes 30 = .ok (.iconst 1, 1) := by decide +kernel
theorem dX5_addBytes_31 : decode cX5_addBytes 31 = .ok (.iadd, 1) := by decide +kernel
theorem dX5_addBytes_32 : decode cX5_addBytes 32 = .ok (.putfield 69, 3) := by decide +kernel
theorem dX5_addBytes_35 : decode cX5_addBytes 35 = .ok (.iinc 2 (-8), 3) := by decide +kernel
theorem dX5_addBytes_38 : decode cX5_addBytes 38 = .ok (.goto (-35), 3) := by decide +kernel
theorem dX5_addBytes_41 : decode cX5_addBytes 41 = .ok (.return_, 1) := by decide +kernel
abbrev rm_X5_addBytes : Room := { frames := 1, cells := 0, slots := 0, locals := 22 }
def f_X5_addBytes_L3 (x1 : Int32) (z3 : Int32 × St) : Option ((Int32 × St) ⊕ (St)) :=
  if z3.1 < 0 then (some (.inr z3.2)) else ((f_X5_put (ky 0 0) z3.2 (st_I z3.2 (ky 0 1)) ((i_ushr x1 z3.1) &&& (255 : Int32))).bind (fun (q2 : St) => lt_v (up_I q2 (ky 0 1) ((st_I q2 (ky 0 1)) + (1 : Int32))) (fun (S3 : St) => some (.inl ((z3.1 + (-8)), S3)))))
def f_X5_addBytes (S : St) (x1 : Int32) : Option (St) :=
  iter (f_X5_addBytes_L3   x1) FU ((24 : Int32), S)
set_option maxRecDepth 100000 in
set_option maxHeartbeats 4000000 in
theorem k_X5_addBytes (l : Launch) (g : GG) (hg : gd wd_C g)  (hL : hAll g) (S : St) (x1 : Int32) (q : St) (hf : f_X5_addBytes  S x1 = some q) : Met l yX5_addBytes (Cond.code yX5_addBytes cX5_addBytes 3 none :: gw_tbl) rm_X5_addBytes (va_Pc [.ref (gg_o g 0), .int x1] (wI wd_C g S)) (qc_v wd_C g q) 0 0 (aw g) := by
  refine mt_start (own := RX5) hg (by decide) rfl (Nat.le_of_ble_eq_true rfl) (fun p e s m args below meth c ls H locs cx hw hr hlk hl => ?_)
  have hx := cx.1
  have hb := cx.2.1
  have hown := cx.2.2.2.1
  have hts := cx.2.2.2.2.1
  have hl : lv_has ls 3 [(0, .ref (gg_o g 0)), (1, .int x1)] := hl
  replace hf := h_top hf
  unfold f_X5_addBytes at hf
  refine lv_bipush (v := 24) hx hb dX5_addBytes_0 (by decide) ?_
  refine lv_istore_n hx hb dX5_addBytes_2 rfl hl (by decide) (lv' := [(2, .int (24 : Int32)), (0, .ref (gg_o g 0)), (1, .int x1)]) rfl (fun ls hl => ?_)
  have L3 : ∀ (x1 : Int32) (aft3 : St → Option (St)), (∀ v : St, aft3 v = some q → (some v : Option (St)).bind some = some q) → ∀ (n3 : Nat) (ls : Array Slot) (H : Heap) (locs : List Loc) (z3 : Int32 × St), lv_has ls 3 [(0, .ref (gg_o g 0)), (1, .int x1), (2, .int z3.1)] → HH wd_C g s z3.2 H locs → (iter (f_X5_addBytes_L3   x1) n3 z3).bind aft3 = some q → W p l e rm_X5_addBytes s m args below meth c H locs 0 0 (MQ below (qc_v wd_C g q) args s 0 0 (aw g)) (F0 m 3 ls []) := by
    intro x1 aft3 hR3 n3
    induction n3 with
    | zero => intro ls H locs z3 hl hw hf; exact h_iter0 hf
    | succ n3 ih3 =>
      intro ls H locs z3 hl hw hf
      replace hf := h_iter hf
      unfold f_X5_addBytes_L3 at hf
      refine lv_iload_n hx hb dX5_addBytes_3 rfl (lv_at hl 2 rfl) ?_
      refine lv_if_lt hx hb dX5_addBytes_4 (tgt := 41) rfl (fun hc1 => ?_) (fun hc1 => ?_)
      · replace hf := h_pos hc1 hf
        replace hf := hR3 z3.2 hf
        exact r_vret cx hw hr hlk hf dX5_addBytes_41
      replace hf := h_neg hc1 hf
      refine lv_aload_n hx hb dX5_addBytes_7 rfl (lv_at hl 0 rfl) ?_
      refine gf_X5_9 cx hw hL.1 dX5_addBytes_8 ?_
      refine lv_aload_n hx hb dX5_addBytes_11 rfl (lv_at hl 0 rfl) ?_
      refine gf_X5_69 cx hw hL.1 dX5_addBytes_12 ?_
      refine lv_iload_n hx hb dX5_addBytes_15 rfl (lv_at hl 1 rfl) ?_
      refine lv_iload_n hx hb dX5_addBytes_16 rfl (lv_at hl 2 rfl) ?_
      refine lv_iushr (v := i_ushr x1 z3.1) hx hb dX5_addBytes_17 rfl ?_
      refine lv_sipush (v := 255) hx hb dX5_addBytes_18 (by decide) ?_
      refine lv_iand hx hb dX5_addBytes_21 ?_
      refine r_S_v (As := [.ref (gg_a g (ky 0 0)), .int (st_I z3.2 (ky 0 1)), .int ((i_ushr x1 z3.1) &&& (255 : Int32))]) (rest := []) cx hw hf lk_X5_76 (fun q2 hq => k_X5_put l g hg (ky 0 0) (hL.1.2.2.1 0 rfl) z3.2 (st_I z3.2 (ky 0 1)) ((i_ushr x1 z3.1) &&& (255 : Int32)) q2 hq) ⟨⟨rfl, rfl⟩, Nat.le_of_ble_eq_true rfl, Nat.le_of_ble_eq_true rfl⟩ rfl hl.1 rfl (Nat.le_of_ble_eq_true rfl) dX5_addBytes_22 ⟨Nat.zero_le _, Nat.zero_le _⟩ (fun q2 H locs hw hf => ?_)
      refine lv_aload_n hx hb dX5_addBytes_25 rfl (lv_at hl 0 rfl) ?_
      refine lv_dup hx hb dX5_addBytes_26 rfl ?_
      refine gf_X5_69 cx hw hL.1 dX5_addBytes_27 ?_
      refine lv_iconst (v := 1) hx hb dX5_addBytes_30 (by decide) ?_
      refine lv_iadd hx hb dX5_addBytes_31 ?_
      refine pf_X5_69 cx hw hL.1 hf dX5_addBytes_32 (fun S3 H locs hw hf => ?_)
      refine lv_iinc hx hb dX5_addBytes_35 hl (k := 2) rfl (congrArg (HAdd.hAdd _) (show Int32.ofInt (-8) = -8 by decide)) (by decide) (lv' := [(2, .int (z3.1 + (-8))), (0, .ref (gg_o g 0)), (1, .int x1)]) rfl (fun ls hl => ?_)
      refine lv_goto hx hb dX5_addBytes_38 (tgt := 3) rfl ?_
      exact ih3 _ _ _ ((z3.1 + (-8)), S3) (lv_sub hl [1, 2, 0] rfl) hw hf
  exact L3 x1 some (fun v h => h) FU _ _ _ ((24 : Int32), S) (lv_sub hl [1, 2, 0] rfl) hw hf
theorem dX5_feed_0 : decode cX5_feed 0 = .ok (.aload_n 0, 1) := by decide +kernel
theorem dX5_feed_1 : decode cX5_feed 1 = .ok (.getfield 69, 3) := by decide +kernel
theorem dX5_feed_4 : decode cX5_feed 4 = .ok (.sipush 1980, 3) := by decide +kernel
theorem dX5_feed_7 : decode cX5_feed 7 = .ok (.if_icmp .le 5, 3) := by decide +kernel
theorem dX5_feed_10 : decode cX5_feed 10 = .ok (.iconst (-1), 1) := by decide +kernel
theorem dX5_feed_11 : decode cX5_feed 11 = .ok (.ireturn, 1) := by decide +kernel
theorem dX5_feed_12 : decode cX5_feed 12 = .ok (.aload_n 0, 1) := by decide +kernel
theorem dX5_feed_13 : decode cX5_feed 13 = .ok (.iload_n 1, 1) := by decide +kernel
theorem dX5_feed_14 : decode cX5_feed 14 = .ok (.invokevirtual 72, 3) := by decide +kernel
theorem dX5_feed_17 : decode cX5_feed 17 = .ok (.aload_n 0, 1) := by decide +kernel
theorem dX5_feed_18 : decode cX5_feed 18 = .ok (.iload_n 2, 1) := by decide +kernel
theorem dX5_feed_19 : decode cX5_feed 19 = .ok (.invokevirtual 72, 3) := by decide +kernel
theorem dX5_feed_22 : decode cX5_feed 22 = .ok (.aload_n 0, 1) := by decide +kernel
theorem dX5_feed_23 : decode cX5_feed 23 = .ok (.iload_n 3, 1) := by decide +kernel
theorem dX5_feed_24 : decode cX5_feed 24 = .ok (.invokevirtual 72, 3) := by decide +kernel
theorem dX5_feed_27 : decode cX5_feed 27 = .ok (.aload_n 0, 1) := by decide +kernel
theorem dX5_feed_28 : decode cX5_feed 28 = .ok (.iload 4, 2) := by decide +kernel
theorem dX5_feed_30 : decode cX5_feed 30 = .ok (.invokevirtual 72, 3) := by decide +kernel
theorem dX5_feed_33 : decode cX5_feed 33 = .ok (.aload_n 0, 1) := by decide +kernel
theorem dX5_feed_34 : decode cX5_feed 34 = .ok (.iload 5, 2) := by decide +kernel
theorem dX5_feed_36 : decode cX5_feed 36 = .ok (.invokevirtual 72, 3) := by decide +kernel
theorem dX5_feed_39 : decode cX5_feed 39 = .ok (.aload_n 0, 1) := by decide +kernel
theorem dX5_feed_40 : decode cX5_feed 40 = .ok (.getfield 69, 3) := by decide +kernel
theorem dX5_feed_43 : decode cX5_feed 43 = .ok (.ireturn, 1) := by decide +kernel
abbrev rm_X5_feed : Room := { frames := 2, cells := 0, slots := 0, locals := 44 }
def f_X5_feed (S : St) (x1 : Int32) (x2 : Int32) (x3 : Int32) (x4 : Int32) (x5 : Int32) : Option (Int32 × St) :=
  if (st_I S (ky 0 1)) ≤ (1980 : Int32) then ((f_X5_addBytes  S x1).bind (fun (q2 : St) => (f_X5_addBytes  q2 x2).bind (fun (q3 : St) => (f_X5_addBytes  q3 x3).bind (fun (q4 : St) => (f_X5_addBytes  q4 x4).bind (fun (q5 : St) => (f_X5_addBytes  q5 x5).bind (fun (q6 : St) => some ((st_I q6 (ky 0 1)), q6))))))) else (some ((-1 : Int32), S))
set_option maxRecDepth 100000 in
set_option maxHeartbeats 4000000 in
theorem k_X5_feed (l : Launch) (g : GG) (hg : gd wd_C g)  (hL : hAll g) (S : St) (x1 : Int32) (x2 : Int32) (x3 : Int32) (x4 : Int32) (x5 : Int32) (q : Int32 × St) (hf : f_X5_feed  S x1 x2 x3 x4 x5 = some q) : Met l yX5_feed (Cond.code yX5_feed cX5_feed 6 (some .int) :: gw_tbl) rm_X5_feed (va_Pc [.ref (gg_o g 0), .int x1, .int x2, .int x3, .int x4, .int x5] (wI wd_C g S)) (qc_w wd_C g q) 0 0 (aw g) := by
  refine mt_start (own := RX5) hg (by decide) rfl (Nat.le_of_ble_eq_true rfl) (fun p e s m args below meth c ls H locs cx hw hr hlk hl => ?_)
  have hx := cx.1
  have hb := cx.2.1
  have hown := cx.2.2.2.1
  have hts := cx.2.2.2.2.1
  have hl : lv_has ls 6 [(0, .ref (gg_o g 0)), (1, .int x1), (2, .int x2), (3, .int x3), (4, .int x4), (5, .int x5)] := hl
  replace hf := h_top hf
  unfold f_X5_feed at hf
  refine lv_aload_n hx hb dX5_feed_0 rfl (lv_at hl 0 rfl) ?_
  refine gf_X5_69 cx hw hL.1 dX5_feed_1 ?_
  refine lv_sipush (v := 1980) hx hb dX5_feed_4 (by decide) ?_
  refine lv_icmp_le hx hb dX5_feed_7 (tgt := 12) rfl (fun hc1 => ?_) (fun hc1 => ?_)
  · replace hf := h_pos hc1 hf
    refine lv_aload_n hx hb dX5_feed_12 rfl (lv_at hl 0 rfl) ?_
    refine lv_iload_n hx hb dX5_feed_13 rfl (lv_at hl 1 rfl) ?_
    refine r_V_v (As := [.int x1]) (rest := []) cx hw hf hL.1.2.1 (by rw [hL.1.1]; rfl) lk_X5_72 (fun q2 hq => k_X5_addBytes l g hg  hL S x1 q2 hq) ⟨⟨rfl, rfl⟩, Nat.le_of_ble_eq_true rfl, Nat.le_of_ble_eq_true rfl⟩ rfl hl.1 rfl (Nat.le_of_ble_eq_true rfl) dX5_feed_14 ⟨Nat.zero_le _, Nat.zero_le _⟩ (fun q2 H locs hw hf => ?_)
    refine lv_aload_n hx hb dX5_feed_17 rfl (lv_at hl 0 rfl) ?_
    refine lv_iload_n hx hb dX5_feed_18 rfl (lv_at hl 2 rfl) ?_
    refine r_V_v (As := [.int x2]) (rest := []) cx hw hf hL.1.2.1 (by rw [hL.1.1]; rfl) lk_X5_72 (fun q3 hq => k_X5_addBytes l g hg  hL q2 x2 q3 hq) ⟨⟨rfl, rfl⟩, Nat.le_of_ble_eq_true rfl, Nat.le_of_ble_eq_true rfl⟩ rfl hl.1 rfl (Nat.le_of_ble_eq_true rfl) dX5_feed_19 ⟨Nat.zero_le _, Nat.zero_le _⟩ (fun q3 H locs hw hf => ?_)
    refine lv_aload_n hx hb dX5_feed_22 rfl (lv_at hl 0 rfl) ?_
    refine lv_iload_n hx hb dX5_feed_23 rfl (lv_at hl 3 rfl) ?_
    refine r_V_v (As := [.int x3]) (rest := []) cx hw hf hL.1.2.1 (by rw [hL.1.1]; rfl) lk_X5_72 (fun q4 hq => k_X5_addBytes l g hg  hL q3 x3 q4 hq) ⟨⟨rfl, rfl⟩, Nat.le_of_ble_eq_true rfl, Nat.le_of_ble_eq_true rfl⟩ rfl hl.1 rfl (Nat.le_of_ble_eq_true rfl) dX5_feed_24 ⟨Nat.zero_le _, Nat.zero_le _⟩ (fun q4 H locs hw hf => ?_)
    refine lv_aload_n hx hb dX5_feed_27 rfl (lv_at hl 0 rfl) ?_
    refine lv_iload hx hb dX5_feed_28 (lv_at hl 4 rfl) ?_
    refine r_V_v (As := [.int x4]) (rest := []) cx hw hf hL.1.2.1 (by rw [hL.1.1]; rfl) lk_X5_72 (fun q5 hq => k_X5_addBytes l g hg  hL q4 x4 q5 hq) ⟨⟨rfl, rfl⟩, Nat.le_of_ble_eq_true rfl, Nat.le_of_ble_eq_true rfl⟩ rfl hl.1 rfl (Nat.le_of_ble_eq_true rfl) dX5_feed_30 ⟨Nat.zero_le _, Nat.zero_le _⟩ (fun q5 H locs hw hf => ?_)
    refine lv_aload_n hx hb dX5_feed_33 rfl (lv_at hl 0 rfl) ?_
    refine lv_iload hx hb dX5_feed_34 (lv_at hl 5 rfl) ?_
    refine r_V_v (As := [.int x5]) (rest := []) cx hw hf hL.1.2.1 (by rw [hL.1.1]; rfl) lk_X5_72 (fun q6 hq => k_X5_addBytes l g hg  hL q5 x5 q6 hq) ⟨⟨rfl, rfl⟩, Nat.le_of_ble_eq_true rfl, Nat.le_of_ble_eq_true rfl⟩ rfl hl.1 rfl (Nat.le_of_ble_eq_true rfl) dX5_feed_36 ⟨Nat.zero_le _, Nat.zero_le _⟩ (fun q6 H locs hw hf => ?_)
    refine lv_aload_n hx hb dX5_feed_39 rfl (lv_at hl 0 rfl) ?_
    refine gf_X5_69 cx hw hL.1 dX5_feed_40 ?_
    exact r_iretw cx hw hr hlk hf dX5_feed_43
  replace hf := h_neg hc1 hf
  refine lv_iconst (v := -1) hx hb dX5_feed_10 (by decide) ?_
  exact r_iretw cx hw hr hlk hf dX5_feed_11
theorem dX5_back_0 : decode cX5_back 0 = .ok (.iload_n 1, 1) := by decide +kernel
theorem dX5_back_1 : decode cX5_back 1 = .ok (.ifCond .lt 11, 3) := by decide +kernel
theorem dX5_back_4 : decode cX5_back 4 = .ok (.iload_n 1, 1) := by decide +kernel
theorem dX5_back_5 : decode cX5_back 5 = .ok (.aload_n 0, 1) := by decide +kernel
theorem dX5_back_6 : decode cX5_back 6 = .ok (.getfield 69, 3) := by decide +kernel
theorem dX5_back_9 : decode cX5_back 9 = .ok (.if_icmp .le 5, 3) := by decide +kernel
theorem dX5_back_12 : decode cX5_back 12 = .ok (.iconst (-1), 1) := by decide +kernel
theorem dX5_back_13 : decode cX5_back 13 = .ok (.ireturn, 1) := by decide +kernel
theorem dX5_back_14 : decode cX5_back 14 = .ok (.aload_n 0, 1) := by decide +kernel
theorem dX5_back_15 : decode cX5_back 15 = .ok (.dup, 1) := by decide +kernel
theorem dX5_back_16 : decode cX5_back 16 = .ok (.getfield 69, 3) := by decide +kernel
theorem dX5_back_19 : decode cX5_back 19 = .ok (.iload_n 1, 1) := by decide +kernel
theorem dX5_back_20 : decode cX5_back 20 = .ok (.isub, 1) := by decide +kernel
theorem dX5_back_21 : decode cX5_back 21 = .ok (.putfield 69, 3) := by decide +kernel
theorem dX5_back_24 : decode cX5_back 24 = .ok (.aload_n 0, 1) := by decide +kernel
theorem dX5_back_25 : decode cX5_back 25 = .ok (.getfield 69, 3) := by decide +kernel
theorem dX5_back_28 : decode cX5_back 28 = .ok (.ireturn, 1) := by decide +kernel
abbrev rm_X5_back : Room := { frames := 0, cells := 0, slots := 0, locals := 0 }
def f_X5_back (S : St) (x1 : Int32) : Option (Int32 × St) :=
  if x1 < 0 then (some ((-1 : Int32), S)) else (if x1 ≤ (st_I S (ky 0 1)) then (lt_v (up_I S (ky 0 1) ((st_I S (ky 0 1)) - x1)) (fun (S3 : St) => some ((st_I S3 (ky 0 1)), S3))) else (some ((-1 : Int32), S)))
set_option maxRecDepth 100000 in
set_option maxHeartbeats 4000000 in
theorem k_X5_back (l : Launch) (g : GG) (hg : gd wd_C g)  (hL : hAll g) (S : St) (x1 : Int32) (q : Int32 × St) (hf : f_X5_back  S x1 = some q) : Met l yX5_back (Cond.code yX5_back cX5_back 2 (some .int) :: gw_tbl) rm_X5_back (va_Pc [.ref (gg_o g 0), .int x1] (wI wd_C g S)) (qc_w wd_C g q) 0 0 (aw g) := by
  refine mt_start (own := RX5) hg (by decide) rfl (Nat.le_of_ble_eq_true rfl) (fun p e s m args below meth c ls H locs cx hw hr hlk hl => ?_)
  have hx := cx.1
  have hb := cx.2.1
  have hown := cx.2.2.2.1
  have hts := cx.2.2.2.2.1
  have hl : lv_has ls 2 [(0, .ref (gg_o g 0)), (1, .int x1)] := hl
  replace hf := h_top hf
  unfold f_X5_back at hf
  refine lv_iload_n hx hb dX5_back_0 rfl (lv_at hl 1 rfl) ?_
  refine lv_if_lt hx hb dX5_back_1 (tgt := 12) rfl (fun hc1 => ?_) (fun hc1 => ?_)
  · replace hf := h_pos hc1 hf
    refine lv_iconst (v := -1) hx hb dX5_back_12 (by decide) ?_
    exact r_iretw cx hw hr hlk hf dX5_back_13
  replace hf := h_neg hc1 hf
  refine lv_iload_n hx hb dX5_back_4 rfl (lv_at hl 1 rfl) ?_
  refine lv_aload_n hx hb dX5_back_5 rfl (lv_at hl 0 rfl) ?_
  refine gf_X5_69 cx hw hL.1 dX5_back_6 ?_
  refine lv_icmp_le hx hb dX5_back_9 (tgt := 14) rfl (fun hc2 => ?_) (fun hc2 => ?_)
  · replace hf := h_pos hc2 hf
    refine lv_aload_n hx hb dX5_back_14 rfl (lv_at hl 0 rfl) ?_
    refine lv_dup hx hb dX5_back_15 rfl ?_
    refine gf_X5_69 cx hw hL.1 dX5_back_16 ?_
    refine lv_iload_n hx hb dX5_back_19 rfl (lv_at hl 1 rfl) ?_
    refine lv_isub hx hb dX5_back_20 ?_
    refine pf_X5_69 cx hw hL.1 hf dX5_back_21 (fun S3 H locs hw hf => ?_)
    refine lv_aload_n hx hb dX5_back_24 rfl (lv_at hl 0 rfl) ?_
    refine gf_X5_69 cx hw hL.1 dX5_back_25 ?_
    exact r_iretw cx hw hr hlk hf dX5_back_28
  replace hf := h_neg hc2 hf
  refine lv_iconst (v := -1) hx hb dX5_back_12 (by decide) ?_
  exact r_iretw cx hw hr hlk hf dX5_back_13
theorem dX5_takeSpare_0 : decode cX5_takeSpare 0 = .ok (.aload_n 0, 1) := by decide +kernel
theorem dX5_takeSpare_1 : decode cX5_takeSpare 1 = .ok (.getfield 27, 3) := by decide +kernel
theorem dX5_takeSpare_4 : decode cX5_takeSpare 4 = .ok (.astore_n 1, 1) := by decide +kernel
theorem dX5_takeSpare_5 : decode cX5_takeSpare 5 = .ok (.aload_n 0, 1) := by decide +kernel
theorem dX5_takeSpare_6 : decode cX5_takeSpare 6 = .ok (.aload_n 0, 1) := by decide +kernel
theorem dX5_takeSpare_7 : decode cX5_takeSpare 7 = .ok (.getfield 31, 3) := by decide +kernel
theorem dX5_takeSpare_10 : decode cX5_takeSpare 10 = .ok (.putfield 27, 3) := by decide +kernel
theorem dX5_takeSpare_13 : decode cX5_takeSpare 13 = .ok (.aload_n 0, 1) := by decide +kernel
theorem dX5_takeSpare_14 : decode cX5_takeSpare 14 = .ok (.aload_n 1, 1) := by decide +kernel
theorem dX5_takeSpare_15 : decode cX5_takeSpare 15 = .ok (.putfield 31, 3) := by decide +kernel
theorem dX5_takeSpare_18 : decode cX5_takeSpare 18 = .ok (.aload_n 0, 1) := by decide +kernel
theorem dX5_takeSpare_19 : decode cX5_takeSpare 19 = .ok (.getfield 39, 3) := by decide +kernel
theorem dX5_takeSpare_22 : decode cX5_takeSpare 22 = .ok (.aload_n 0, 1) := by decide +kernel
theorem dX5_takeSpare_23 : decode cX5_takeSpare 23 = .ok (.getfield 27, 3) := by decide +kernel
theorem dX5_takeSpare_26 : decode cX5_takeSpare 26 = .ok (.invokevirtual 93, 3) := by decide +kernel
theorem dX5_takeSpare_29 : decode cX5_takeSpare 29 = .ok (.aload_n 0, 1) := by decide +kernel
theorem dX5_takeSpare_30 : decode cX5_takeSpare 30 = .ok (.getfield 49, 3) := by decide +kernel
theorem dX5_takeSpare_33 : decode cX5_takeSpare 33 = .ok (.invokevirtual 96, 3) := by decide +kernel
theorem dX5_takeSpare_36 : decode cX5_takeSpare 36 = .ok (.aload_n 0, 1) := by decide +kernel
theorem dX5_takeSpare_37 : decode cX5_takeSpare 37 = .ok (.iconst 0, 1) := by decide +kernel
theorem dX5_takeSpare_38 : decode cX5_takeSpare 38 = .ok (.putfield 99, 3) := by decide +kernel
theorem dX5_takeSpare_41 : decode cX5_takeSpare 41 = .ok (.aload_n 0, 1) := by decide +kernel
theorem dX5_takeSpare_42 : decode cX5_takeSpare 42 = .ok (.iconst 0, 1) := by decide +kernel
theorem dX5_takeSpare_43 : decode cX5_takeSpare 43 = .ok (.putfield 102, 3) := by decide +kernel
theorem dX5_takeSpare_46 : decode cX5_takeSpare 46 = .ok (.return_, 1) := by decide +kernel
abbrev rm_X5_takeSpare : Room := { frames := 5, cells := 0, slots := 0, locals := 166 }
def f_X5_takeSpare (S : St)  : Option (St) :=
  chk (isT (st_P S (ky 0 4))) (chk (isT (st_P S (ky 0 5))) (lt_v (up_P S (ky 0 4) (st_P S (ky 0 5))) (fun (S3 : St) => lt_v (up_P S3 (ky 0 5) (st_P S (ky 0 4))) (fun (S4 : St) => chk (isT (st_P S4 (ky 0 4))) ((f_X0_begin 10 (st_P S4 (ky 0 4)) S4 ).bind (fun (q6 : St) => (f_X2_clear  q6 ).bind (fun (q7 : St) => lt_v (up_I q7 (ky 0 10) (0 : Int32)) (fun (S8 : St) => lt_v (up_I S8 (ky 0 12) (0 : Int32)) (fun (S9 : St) => some S9)))))))))
set_option maxRecDepth 100000 in
set_option maxHeartbeats 4000000 in
theorem k_X5_takeSpare (l : Launch) (g : GG) (hg : gd wd_C g)  (hL : hAll g) (S : St)  (q : St) (hf : f_X5_takeSpare  S  = some q) : Met l yX5_takeSpare (Cond.code yX5_takeSpare cX5_takeSpare 2 none :: gw_tbl) rm_X5_takeSpare (va_Pc [.ref (gg_o g 0)] (wI wd_C g S)) (qc_v wd_C g q) 0 0 (aw g) := by
  refine mt_start (own := RX5) hg (by decide) rfl (Nat.le_of_ble_eq_true rfl) (fun p e s m args below meth c ls H locs cx hw hr hlk hl => ?_)
  have hx := cx.1
  have hb := cx.2.1
  have hown := cx.2.2.2.1
  have hts := cx.2.2.2.2.1
  have hl : lv_has ls 2 [(0, .ref (gg_o g 0))] := hl
  replace hf := h_top hf
  unfold f_X5_takeSpare at hf
  refine lv_aload_n hx hb dX5_takeSpare_0 rfl (lv_at hl 0 rfl) ?_
  obtain ⟨hc1, hf⟩ := h_chk hf
  refine gf_X5_27 cx hw hL.1 dX5_takeSpare_1 ?_
  refine lv_astore_n hx hb dX5_takeSpare_4 rfl hl (by decide) (lv' := [(1, .ref (gg_o g (st_P S (ky 0 4)))), (0, .ref (gg_o g 0))]) rfl (fun ls hl => ?_)
  refine lv_aload_n hx hb dX5_takeSpare_5 rfl (lv_at hl 1 rfl) ?_
  refine lv_aload_n hx hb dX5_takeSpare_6 rfl (lv_at hl 1 rfl) ?_
  obtain ⟨hc2, hf⟩ := h_chk hf
  refine gf_X5_31 cx hw hL.1 dX5_takeSpare_7 ?_
  refine pf_X5_27 cx hw hL.1 hf dX5_takeSpare_10 (fun S3 H locs hw hf => ?_)
  refine lv_aload_n hx hb dX5_takeSpare_13 rfl (lv_at hl 1 rfl) ?_
  refine lv_aload_n hx hb dX5_takeSpare_14 rfl (lv_at hl 0 rfl) ?_
  refine pf_X5_31 cx hw hL.1 hf dX5_takeSpare_15 (fun S4 H locs hw hf => ?_)
  refine lv_aload_n hx hb dX5_takeSpare_18 rfl (lv_at hl 1 rfl) ?_
  refine gf_X5_39 cx hw hL.1 dX5_takeSpare_19 ?_
  refine lv_aload_n hx hb dX5_takeSpare_22 rfl (lv_at hl 1 rfl) ?_
  obtain ⟨hc5, hf⟩ := h_chk hf
  refine gf_X5_27 cx hw hL.1 dX5_takeSpare_23 ?_
  refine r_VN_v (As := [.ref (gg_o g (st_P S4 (ky 0 4)))]) (rest := []) cx hw hf (nw_at cx) (hL.2.2.2.1 0 (by decide)).2.1 (by rw [(hL.2.2.2.1 0 (by decide)).1]; rfl) lk_X5_93 (fun q6 hq => k_X0_begin l g hg 10 (st_P S4 (ky 0 4)) (hL.2.2.2.1 0 (by decide)) hL.2.2.2.2 (allT_at hL.2.2.2.2 hc5) S4  q6 hq) ⟨⟨rfl, rfl⟩, Nat.le_of_ble_eq_true rfl, Nat.le_of_ble_eq_true rfl⟩ rfl hl.1 rfl (Nat.le_of_ble_eq_true rfl) dX5_takeSpare_26 ⟨Nat.zero_le _, Nat.zero_le _⟩ (fun q6 H locs hw hf => ?_)
  refine lv_aload_n hx hb dX5_takeSpare_29 rfl (lv_at hl 1 rfl) ?_
  refine gf_X5_49 cx hw hL.1 dX5_takeSpare_30 ?_
  refine r_VN_v (As := []) (rest := []) cx hw hf (nw_at cx) hL.2.2.1.2.1 (by rw [hL.2.2.1.1]; rfl) lk_X5_96 (fun q7 hq => k_X2_clear l g hg  hL.2.2.1 hL.2.2.2.2 q6  q7 hq) ⟨⟨rfl, rfl⟩, Nat.le_of_ble_eq_true rfl, Nat.le_of_ble_eq_true rfl⟩ rfl hl.1 rfl (Nat.le_of_ble_eq_true rfl) dX5_takeSpare_33 ⟨Nat.zero_le _, Nat.zero_le _⟩ (fun q7 H locs hw hf => ?_)
  refine lv_aload_n hx hb dX5_takeSpare_36 rfl (lv_at hl 1 rfl) ?_
  refine lv_iconst (v := 0) hx hb dX5_takeSpare_37 (by decide) ?_
  refine pf_X5_99 cx hw hL.1 hf dX5_takeSpare_38 (fun S8 H locs hw hf => ?_)
  refine lv_aload_n hx hb dX5_takeSpare_41 rfl (lv_at hl 1 rfl) ?_
  refine lv_iconst (v := 0) hx hb dX5_takeSpare_42 (by decide) ?_
  refine pf_X5_102 cx hw hL.1 hf dX5_takeSpare_43 (fun S9 H locs hw hf => ?_)
  exact r_vret cx hw hr hlk hf dX5_takeSpare_46
theorem dX5_read_0 : decode cX5_read 0 = .ok (.aload_n 0, 1) := by decide +kernel
theorem dX5_read_1 : decode cX5_read 1 = .ok (.getfield 20, 3) := by decide +kernel
theorem dX5_read_4 : decode cX5_read 4 = .ok (.aload_n 0, 1) := by decide +kernel
theorem dX5_read_5 : decode cX5_read 5 = .ok (.getfield 9, 3) := by decide +kernel
theorem dX5_read_8 : decode cX5_read 8 = .ok (.aload_n 0, 1) := by decide +kernel
theorem dX5_read_9 : decode cX5_read 9 = .ok (.getfield 69, 3) := by decide +kernel
theorem dX5_read_12 : decode cX5_read 12 = .ok (.invokevirtual 80, 3) := by decide +kernel
theorem dX5_read_15 : decode cX5_read 15 = .ok (.istore_n 1, 1) := by decide +kernel
theorem dX5_read_16 : decode cX5_read 16 = .ok (.aload_n 0, 1) := by decide +kernel
theorem dX5_read_17 : decode cX5_read 17 = .ok (.aload_n 0, 1) := by decide +kernel
theorem dX5_read_18 : decode cX5_read 18 = .ok (.getfield 20, 3) := by decide +kernel
theorem dX5_read_21 : decode cX5_read 21 = .ok (.getfield 84, 3) := by decide +kernel
theorem dX5_read_24 : decode cX5_read 24 = .ok (.putfield 13, 3) := by decide +kernel
theorem dX5_read_27 : decode cX5_read 27 = .ok (.aload_n 0, 1) := by decide +kernel
theorem dX5_read_28 : decode cX5_read 28 = .ok (.iconst 0, 1) := by decide +kernel
theorem dX5_read_29 : decode cX5_read 29 = .ok (.putfield 69, 3) := by decide +kernel
theorem dX5_read_32 : decode cX5_read 32 = .ok (.iload_n 1, 1) := by decide +kernel
theorem dX5_read_33 : decode cX5_read 33 = .ok (.ifCond .ne 26, 3) := by decide +kernel
theorem dX5_read_36 : decode cX5_read 36 = .ok (.aload_n 0, 1) := by decide +kernel
theorem dX5_read_37 : decode cX5_read 37 = .ok (.getfield 31, 3) := by decide +kernel
theorem dX5_read_40 : decode cX5_read 40 = .ok (.aload_n 0, 1) := by decide +kernel
theorem dX5_read_41 : decode cX5_read 41 = .ok (.getfield 20, 3) := by decide +kernel
theorem dX5_read_44 : decode cX5_read 44 = .ok (.invokevirtual 85, 3) := by decide +kernel
theorem dX5_read_47 : decode cX5_read 47 = .ok (.istore_n 1, 1) := by decide +kernel
theorem dX5_read_48 : decode cX5_read 48 = .ok (.aload_n 0, 1) := by decide +kernel
theorem dX5_read_49 : decode cX5_read 49 = .ok (.aload_n 0, 1) := by decide +kernel
theorem dX5_read_50 : decode cX5_read 50 = .ok (.getfield 31, 3) := by decide +kernel
theorem dX5_read_53 : decode cX5_read 53 = .ok (.getfield 89, 3) := by decide +kernel
theorem dX5_read_56 : decode cX5_read 56 = .ok (.putfield 13, 3) := by decide +kernel
theorem dX5_read_59 : decode cX5_read 59 = .ok (.iload_n 1, 1) := by decide +kernel
theorem dX5_read_60 : decode cX5_read 60 = .ok (.ifCond .ne 7, 3) := by decide +kernel
theorem dX5_read_63 : decode cX5_read 63 = .ok (.aload_n 0, 1) := by decide +kernel
theorem dX5_read_64 : decode cX5_read 64 = .ok (.invokevirtual 90, 3) := by decide +kernel
theorem dX5_read_67 : decode cX5_read 67 = .ok (.iload_n 1, 1) := by decide +kernel
theorem dX5_read_68 : decode cX5_read 68 = .ok (.ireturn, 1) := by decide +kernel
abbrev rm_X5_read : Room := { frames := 6, cells := 0, slots := 0, locals := 187 }
def f_X5_read_J59 (S : St) (x1 : Int32) : Option (Int32 × St) :=
  if x1 = 0 then ((f_X5_takeSpare  S ).bind (fun (q6 : St) => some (x1, q6))) else (some (x1, S))
def f_X5_read (S : St)  : Option (Int32 × St) :=
  (f_X3_scan (ky 0 0) S (st_I S (ky 0 1))).bind (fun (q1 : Int32 × St) => lt_v (up_I q1.2 (ky 0 2) (st_I q1.2 (ky 1 5))) (fun (S2 : St) => lt_v (up_I S2 (ky 0 1) (0 : Int32)) (fun (S3 : St) => if q1.1 = 0 then (chk (isT (st_P S3 (ky 0 5))) ((f_X4_build (st_P S3 (ky 0 5)) S3 ).bind (fun (q8 : Int32 × St) => chk (isT (st_P q8.2 (ky 0 5))) (lt_v (up_I q8.2 (ky 0 2) (st_I q8.2 (ky (st_P q8.2 (ky 0 5)) 18))) (fun (S10 : St) => f_X5_read_J59  S10 q8.1))))) else (f_X5_read_J59  S3 q1.1))))
set_option maxRecDepth 100000 in
set_option maxHeartbeats 4000000 in
theorem k_X5_read (l : Launch) (g : GG) (hg : gd wd_C g)  (hL : hAll g) (S : St)  (q : Int32 × St) (hf : f_X5_read  S  = some q) : Met l yX5_read (Cond.code yX5_read cX5_read 2 (some .int) :: gw_tbl) rm_X5_read (va_Pc [.ref (gg_o g 0)] (wI wd_C g S)) (qc_w wd_C g q) 0 0 (aw g) := by
  refine mt_start (own := RX5) hg (by decide) rfl (Nat.le_of_ble_eq_true rfl) (fun p e s m args below meth c ls H locs cx hw hr hlk hl => ?_)
  have hx := cx.1
  have hb := cx.2.1
  have hown := cx.2.2.2.1
  have hts := cx.2.2.2.2.1
  have hl : lv_has ls 2 [(0, .ref (gg_o g 0))] := hl
  replace hf := h_top hf
  unfold f_X5_read at hf
  have J59 : ∀ (ls : Array Slot) (H : Heap) (locs : List Loc) (S : St) (x1 : Int32), lv_has ls 2 [(0, .ref (gg_o g 0)), (1, .int x1)] → HH wd_C g s S H locs → (f_X5_read_J59  S x1).bind some = some q → W p l e rm_X5_read s m args below meth c H locs 0 0 (MQ below (qc_w wd_C g q) args s 0 0 (aw g)) (F0 m 59 ls []) := by
    intro ls H locs S x1 hl hw hf
    unfold f_X5_read_J59 at hf
    refine lv_iload_n hx hb dX5_read_59 rfl (lv_at hl 1 rfl) ?_
    refine lv_if_ne hx hb dX5_read_60 (tgt := 67) rfl (fun hc5 => ?_) (fun hc5 => ?_)
    · replace hf := h_neg hc5 hf
      refine lv_iload_n hx hb dX5_read_67 rfl (lv_at hl 1 rfl) ?_
      exact r_iretw cx hw hr hlk hf dX5_read_68
    replace hf := h_pos hc5 hf
    refine lv_aload_n hx hb dX5_read_63 rfl (lv_at hl 0 rfl) ?_
    refine r_V_v (As := []) (rest := []) cx hw hf hL.1.2.1 (by rw [hL.1.1]; rfl) lk_X5_90 (fun q6 hq => k_X5_takeSpare l g hg  hL S  q6 hq) ⟨⟨rfl, rfl⟩, Nat.le_of_ble_eq_true rfl, Nat.le_of_ble_eq_true rfl⟩ rfl hl.1 rfl (Nat.le_of_ble_eq_true rfl) dX5_read_64 ⟨Nat.zero_le _, Nat.zero_le _⟩ (fun q6 H locs hw hf => ?_)
    refine lv_iload_n hx hb dX5_read_67 rfl (lv_at hl 1 rfl) ?_
    exact r_iretw cx hw hr hlk hf dX5_read_68
  refine lv_aload_n hx hb dX5_read_0 rfl (lv_at hl 0 rfl) ?_
  refine gf_X5_20 cx hw hL.1 dX5_read_1 ?_
  refine lv_aload_n hx hb dX5_read_4 rfl (lv_at hl 0 rfl) ?_
  refine gf_X5_9 cx hw hL.1 dX5_read_5 ?_
  refine lv_aload_n hx hb dX5_read_8 rfl (lv_at hl 0 rfl) ?_
  refine gf_X5_69 cx hw hL.1 dX5_read_9 ?_
  refine r_VN_w (As := [.ref (gg_a g (ky 0 0)), .int (st_I S (ky 0 1))]) (rest := []) cx hw hf (nw_at cx) hL.2.1.2.1 (by rw [hL.2.1.1]; rfl) lk_X5_80 (fun q1 hq => k_X3_scan l g hg (ky 0 0) hL.2.1 (hL.1.2.2.1 0 rfl) S (st_I S (ky 0 1)) q1 hq) ⟨⟨rfl, rfl⟩, Nat.le_of_ble_eq_true rfl, Nat.le_of_ble_eq_true rfl⟩ rfl hl.1 rfl (Nat.le_of_ble_eq_true rfl) dX5_read_12 ⟨Nat.zero_le _, Nat.zero_le _⟩ (fun q1 H locs hw hf => ?_)
  refine lv_istore_n hx hb dX5_read_15 rfl hl (by decide) (lv' := [(1, .int q1.1), (0, .ref (gg_o g 0))]) rfl (fun ls hl => ?_)
  refine lv_aload_n hx hb dX5_read_16 rfl (lv_at hl 1 rfl) ?_
  refine lv_aload_n hx hb dX5_read_17 rfl (lv_at hl 1 rfl) ?_
  refine gf_X5_20 cx hw hL.1 dX5_read_18 ?_
  refine gf_X5_84 cx hw hL.2.1 dX5_read_21 ?_
  refine pf_X5_13 cx hw hL.1 hf dX5_read_24 (fun S2 H locs hw hf => ?_)
  refine lv_aload_n hx hb dX5_read_27 rfl (lv_at hl 1 rfl) ?_
  refine lv_iconst (v := 0) hx hb dX5_read_28 (by decide) ?_
  refine pf_X5_69 cx hw hL.1 hf dX5_read_29 (fun S3 H locs hw hf => ?_)
  refine lv_iload_n hx hb dX5_read_32 rfl (lv_at hl 0 rfl) ?_
  refine lv_if_ne hx hb dX5_read_33 (tgt := 59) rfl (fun hc4 => ?_) (fun hc4 => ?_)
  · replace hf := h_neg hc4 hf
    exact J59 _ _ _ S3 q1.1 (lv_sub hl [1, 0] rfl) hw hf
  replace hf := h_pos hc4 hf
  refine lv_aload_n hx hb dX5_read_36 rfl (lv_at hl 1 rfl) ?_
  obtain ⟨hc7, hf⟩ := h_chk hf
  refine gf_X5_31 cx hw hL.1 dX5_read_37 ?_
  refine lv_aload_n hx hb dX5_read_40 rfl (lv_at hl 1 rfl) ?_
  refine gf_X5_20 cx hw hL.1 dX5_read_41 ?_
  refine r_VN_w (As := [.ref (gg_o g 1)]) (rest := []) cx hw hf (nw_at cx) ((allT_at hL.2.2.2.2 hc7).1).2.1 (by rw [((allT_at hL.2.2.2.2 hc7).1).1]; rfl) lk_X5_85 (fun q8 hq => k_X4_build l g hg (st_P S3 (ky 0 5)) (allT_at hL.2.2.2.2 hc7) hL.2.1 S3  q8 hq) ⟨⟨rfl, rfl⟩, Nat.le_of_ble_eq_true rfl, Nat.le_of_ble_eq_true rfl⟩ rfl hl.1 rfl (Nat.le_of_ble_eq_true rfl) dX5_read_44 ⟨Nat.zero_le _, Nat.zero_le _⟩ (fun q8 H locs hw hf => ?_)
  refine lv_istore_n hx hb dX5_read_47 rfl hl (by decide) (lv' := [(1, .int q8.1), (0, .ref (gg_o g 0))]) rfl (fun ls hl => ?_)
  refine lv_aload_n hx hb dX5_read_48 rfl (lv_at hl 1 rfl) ?_
  refine lv_aload_n hx hb dX5_read_49 rfl (lv_at hl 1 rfl) ?_
  obtain ⟨hc9, hf⟩ := h_chk hf
  refine gf_X5_31 cx hw hL.1 dX5_read_50 ?_
  refine gf_X5_89 cx hw ((allT_at hL.2.2.2.2 hc9).1) dX5_read_53 ?_
  refine pf_X5_13 cx hw hL.1 hf dX5_read_56 (fun S10 H locs hw hf => ?_)
  exact J59 _ _ _ S10 q8.1 (lv_sub hl [1, 0] rfl) hw hf
theorem dX5_place_0 : decode cX5_place 0 = .ok (.aload_n 0, 1) := by decide +kernel
theorem dX5_place_1 : decode cX5_place 1 = .ok (.getfield 13, 3) := by decide +kernel
theorem dX5_place_4 : decode cX5_place 4 = .ok (.ireturn, 1) := by decide +kernel
abbrev rm_X5_place : Room := { frames := 0, cells := 0, slots := 0, locals := 0 }
def f_X5_place (S : St)  : Option (Int32) :=
  some (st_I S (ky 0 2))
set_option maxRecDepth 100000 in
set_option maxHeartbeats 4000000 in
theorem k_X5_place (l : Launch) (g : GG) (hg : gd wd_C g)  (hL : hAll g) (S : St)  (q : Int32) (hf : f_X5_place  S  = some q) : Met l yX5_place (Cond.code yX5_place cX5_place 1 (some .int) :: gw_tbl) rm_X5_place (va_Pc [.ref (gg_o g 0)] (wI wd_C g S)) (qc_i wd_C g S q) 0 0 (aw g) := by
  refine mt_start (own := RX5) hg (by decide) rfl (Nat.le_of_ble_eq_true rfl) (fun p e s m args below meth c ls H locs cx hw hr hlk hl => ?_)
  have hx := cx.1
  have hb := cx.2.1
  have hown := cx.2.2.2.1
  have hts := cx.2.2.2.2.1
  have hl : lv_has ls 1 [(0, .ref (gg_o g 0))] := hl
  replace hf := h_top hf
  unfold f_X5_place at hf
  refine lv_aload_n hx hb dX5_place_0 rfl (lv_at hl 0 rfl) ?_
  refine gf_X5_13 cx hw hL.1 dX5_place_1 ?_
  exact r_iret cx hw hr hlk hf dX5_place_4
theorem dX5_isMan_0 : decode cX5_isMan 0 = .ok (.iload_n 1, 1) := by decide +kernel
theorem dX5_isMan_1 : decode cX5_isMan 1 = .ok (.aload_n 0, 1) := by decide +kernel
theorem dX5_isMan_2 : decode cX5_isMan 2 = .ok (.getfield 27, 3) := by decide +kernel
theorem dX5_isMan_5 : decode cX5_isMan 5 = .ok (.getfield 231, 3) := by decide +kernel
theorem dX5_isMan_8 : decode cX5_isMan 8 = .ok (.invokestatic 112, 3) := by decide +kernel
theorem dX5_isMan_11 : decode cX5_isMan 11 = .ok (.ireturn, 1) := by decide +kernel
abbrev rm_X5_isMan : Room := { frames := 1, cells := 0, slots := 0, locals := 21 }
def f_X5_isMan (S : St) (x1 : Int32) : Option (Int32) :=
  chk (isT (st_P S (ky 0 4))) ((f_X5_within   x1 (st_I S (ky (st_P S (ky 0 4)) 2))).bind (fun (q2 : Int32) => chk (isb q2) (some q2)))
set_option maxRecDepth 100000 in
set_option maxHeartbeats 4000000 in
theorem k_X5_isMan (l : Launch) (g : GG) (hg : gd wd_C g)  (hL : hAll g) (S : St) (x1 : Int32) (q : Int32) (hf : f_X5_isMan  S x1 = some q) : Met l yX5_isMan (Cond.code yX5_isMan cX5_isMan 2 (some .boolean) :: gw_tbl) rm_X5_isMan (va_Pc [.ref (gg_o g 0), .int x1] (wI wd_C g S)) (qc_i wd_C g S q) 0 0 (aw g) := by
  refine mt_start (own := RX5) hg (by decide) rfl (Nat.le_of_ble_eq_true rfl) (fun p e s m args below meth c ls H locs cx hw hr hlk hl => ?_)
  have hx := cx.1
  have hb := cx.2.1
  have hown := cx.2.2.2.1
  have hts := cx.2.2.2.2.1
  have hl : lv_has ls 2 [(0, .ref (gg_o g 0)), (1, .int x1)] := hl
  replace hf := h_top hf
  unfold f_X5_isMan at hf
  refine lv_iload_n hx hb dX5_isMan_0 rfl (lv_at hl 1 rfl) ?_
  refine lv_aload_n hx hb dX5_isMan_1 rfl (lv_at hl 0 rfl) ?_
  obtain ⟨hc1, hf⟩ := h_chk hf
  refine gf_X5_27 cx hw hL.1 dX5_isMan_2 ?_
  refine gf_X5_231 cx hw ((allT_at hL.2.2.2.2 hc1).1) dX5_isMan_5 ?_
  refine r_S_i (As := [.int x1, .int (st_I S (ky (st_P S (ky 0 4)) 2))]) (rest := []) cx hw hf lk_X5_112 (fun q2 hq => k_X5_within l g hg   S x1 (st_I S (ky (st_P S (ky 0 4)) 2)) q2 hq) ⟨⟨rfl, rfl⟩, Nat.le_of_ble_eq_true rfl, Nat.le_of_ble_eq_true rfl⟩ rfl hl.1 rfl (Nat.le_of_ble_eq_true rfl) dX5_isMan_8 ⟨Nat.zero_le _, Nat.zero_le _⟩ (fun q2 H locs hw hf => ?_)
  obtain ⟨hc3, hf⟩ := h_chk hf
  exact r_zret cx hw hr hlk hc3 hf dX5_isMan_11
theorem dX5_isPast_0 : decode cX5_isPast 0 = .ok (.iload_n 1, 1) := by decide +kernel
theorem dX5_isPast_1 : decode cX5_isPast 1 = .ok (.ifCond .lt 18, 3) := by decide +kernel
theorem dX5_isPast_4 : decode cX5_isPast 4 = .ok (.iload_n 1, 1) := by decide +kernel
theorem dX5_isPast_5 : decode cX5_isPast 5 = .ok (.aload_n 0, 1) := by decide +kernel
theorem dX5_isPast_6 : decode cX5_isPast 6 = .ok (.getfield 39, 3) := by decide +kernel
theorem dX5_isPast_9 : decode cX5_isPast 9 = .ok (.getfield 147, 3) := by decide +kernel
theorem dX5_isPast_12 : decode cX5_isPast 12 = .ok (.if_icmp .gt 7, 3) := by decide +kernel
theorem dX5_isPast_15 : decode cX5_isPast 15 = .ok (.iconst 1, 1) := by decide +kernel
theorem dX5_isPast_16 : decode cX5_isPast 16 = .ok (.goto 4, 3) := by decide +kernel
theorem dX5_isPast_19 : decode cX5_isPast 19 = .ok (.iconst 0, 1) := by decide +kernel
theorem dX5_isPast_20 : decode cX5_isPast 20 = .ok (.ireturn, 1) := by decide +kernel
abbrev rm_X5_isPast : Room := { frames := 0, cells := 0, slots := 0, locals := 0 }
def f_X5_isPast (S : St) (x1 : Int32) : Option (Int32) :=
  if x1 < 0 then (some (0 : Int32)) else (if (st_I S (ky 10 1)) < x1 then (some (0 : Int32)) else (some (1 : Int32)))
set_option maxRecDepth 100000 in
set_option maxHeartbeats 4000000 in
theorem k_X5_isPast (l : Launch) (g : GG) (hg : gd wd_C g)  (hL : hAll g) (S : St) (x1 : Int32) (q : Int32) (hf : f_X5_isPast  S x1 = some q) : Met l yX5_isPast (Cond.code yX5_isPast cX5_isPast 2 (some .boolean) :: gw_tbl) rm_X5_isPast (va_Pc [.ref (gg_o g 0), .int x1] (wI wd_C g S)) (qc_i wd_C g S q) 0 0 (aw g) := by
  refine mt_start (own := RX5) hg (by decide) rfl (Nat.le_of_ble_eq_true rfl) (fun p e s m args below meth c ls H locs cx hw hr hlk hl => ?_)
  have hx := cx.1
  have hb := cx.2.1
  have hown := cx.2.2.2.1
  have hts := cx.2.2.2.2.1
  have hl : lv_has ls 2 [(0, .ref (gg_o g 0)), (1, .int x1)] := hl
  replace hf := h_top hf
  unfold f_X5_isPast at hf
  refine lv_iload_n hx hb dX5_isPast_0 rfl (lv_at hl 1 rfl) ?_
  refine lv_if_lt hx hb dX5_isPast_1 (tgt := 19) rfl (fun hc1 => ?_) (fun hc1 => ?_)
  · replace hf := h_pos hc1 hf
    refine lv_iconst (v := 0) hx hb dX5_isPast_19 (by decide) ?_
    exact r_zret cx hw hr hlk (Or.inl rfl) hf dX5_isPast_20
  replace hf := h_neg hc1 hf
  refine lv_iload_n hx hb dX5_isPast_4 rfl (lv_at hl 1 rfl) ?_
  refine lv_aload_n hx hb dX5_isPast_5 rfl (lv_at hl 0 rfl) ?_
  refine gf_X5_39 cx hw hL.1 dX5_isPast_6 ?_
  refine gf_X5_147 cx hw (hL.2.2.2.1 0 (by decide)) dX5_isPast_9 ?_
  refine lv_icmp_gt hx hb dX5_isPast_12 (tgt := 19) rfl (fun hc2 => ?_) (fun hc2 => ?_)
  · replace hf := h_pos hc2 hf
    refine lv_iconst (v := 0) hx hb dX5_isPast_19 (by decide) ?_
    exact r_zret cx hw hr hlk (Or.inl rfl) hf dX5_isPast_20
  replace hf := h_neg hc2 hf
  refine lv_iconst (v := 1) hx hb dX5_isPast_15 (by decide) ?_
  refine lv_goto hx hb dX5_isPast_16 (tgt := 20) rfl ?_
  exact r_zret cx hw hr hlk (Or.inr rfl) hf dX5_isPast_20
theorem dX5_man_0 : decode cX5_man 0 = .ok (.aload_n 0, 1) := by decide +kernel
theorem dX5_man_1 : decode cX5_man 1 = .ok (.iload_n 1, 1) := by decide +kernel
theorem dX5_man_2 : decode cX5_man 2 = .ok (.invokevirtual 105, 3) := by decide +kernel
theorem dX5_man_5 : decode cX5_man 5 = .ok (.ifCond .eq 19, 3) := by decide +kernel
theorem dX5_man_8 : decode cX5_man 8 = .ok (.aload_n 0, 1) := by decide +kernel
theorem dX5_man_9 : decode cX5_man 9 = .ok (.iload_n 2, 1) := by decide +kernel
theorem dX5_man_10 : decode cX5_man 10 = .ok (.invokevirtual 109, 3) := by decide +kernel
theorem dX5_man_13 : decode cX5_man 13 = .ok (.ifCond .eq 11, 3) := by decide +kernel
theorem dX5_man_16 : decode cX5_man 16 = .ok (.iload_n 3, 1) := by decide +kernel
theorem dX5_man_17 : decode cX5_man 17 = .ok (.iconst 2, 1) := by decide +kernel
theorem dX5_man_18 : decode cX5_man 18 = .ok (.invokestatic 112, 3) := by decide +kernel
theorem dX5_man_21 : decode cX5_man 21 = .ok (.ifCond .ne 5, 3) := by decide +kernel
theorem dX5_man_24 : decode cX5_man 24 = .ok (.iconst (-1), 1) := by decide +kernel
theorem dX5_man_25 : decode cX5_man 25 = .ok (.ireturn, 1) := by decide +kernel
theorem dX5_man_26 : decode cX5_man 26 = .ok (.iload_n 3, 1) := by decide +kernel
theorem dX5_man_27 : decode cX5_man 27 = .ok (.ifCond .ne 15, 3) := by decide +kernel
theorem dX5_man_30 : decode cX5_man 30 = .ok (.aload_n 0, 1) := by decide +kernel
theorem dX5_man_31 : decode cX5_man 31 = .ok (.getfield 39, 3) := by decide +kernel
theorem dX5_man_34 : decode cX5_man 34 = .ok (.iload_n 1, 1) := by decide +kernel
theorem dX5_man_35 : decode cX5_man 35 = .ok (.iload_n 2, 1) := by decide +kernel
theorem dX5_man_36 : decode cX5_man 36 = .ok (.invokevirtual 116, 3) := by decide +kernel
theorem dX5_man_39 : decode cX5_man 39 = .ok (.goto 12, 3) := by decide +kernel
theorem dX5_man_42 : decode cX5_man 42 = .ok (.aload_n 0, 1) := by decide +kernel
theorem dX5_man_43 : decode cX5_man 43 = .ok (.getfield 39, 3) := by decide +kernel
theorem dX5_man_46 : decode cX5_man 46 = .ok (.iload_n 1, 1) := by decide +kernel
theorem dX5_man_47 : decode cX5_man 47 = .ok (.iload_n 2, 1) := by decide +kernel
theorem dX5_man_48 : decode cX5_man 48 = .ok (.invokevirtual 120, 3) := by decide +kernel
theorem dX5_man_51 : decode cX5_man 51 = .ok (.ireturn, 1) := by decide +kernel
abbrev rm_X5_man : Room := { frames := 2, cells := 0, slots := 0, locals := 43 }
def f_X5_man (S : St) (x1 : Int32) (x2 : Int32) (x3 : Int32) : Option (Int32) :=
  (f_X5_isMan  S x1).bind (fun (q1 : Int32) => if q1 = 0 then (some (-1 : Int32)) else ((f_X5_isPast  S x2).bind (fun (q3 : Int32) => if q3 = 0 then (some (-1 : Int32)) else ((f_X5_within   x3 (2 : Int32)).bind (fun (q5 : Int32) => if q5 = 0 then (some (-1 : Int32)) else (if x3 = 0 then ((f_X0_roomOf 10 S x1 x2).bind (fun (q9 : Int32) => some q9)) else ((f_X0_rankOf 10 S x1 x2).bind (fun (q8 : Int32) => some q8))))))))
set_option maxRecDepth 100000 in
set_option maxHeartbeats 4000000 in
theorem k_X5_man (l : Launch) (g : GG) (hg : gd wd_C g)  (hL : hAll g) (S : St) (x1 : Int32) (x2 : Int32) (x3 : Int32) (q : Int32) (hf : f_X5_man  S x1 x2 x3 = some q) : Met l yX5_man (Cond.code yX5_man cX5_man 4 (some .int) :: gw_tbl) rm_X5_man (va_Pc [.ref (gg_o g 0), .int x1, .int x2, .int x3] (wI wd_C g S)) (qc_i wd_C g S q) 0 0 (aw g) := by
  refine mt_start (own := RX5) hg (by decide) rfl (Nat.le_of_ble_eq_true rfl) (fun p e s m args below meth c ls H locs cx hw hr hlk hl => ?_)
  have hx := cx.1
  have hb := cx.2.1
  have hown := cx.2.2.2.1
  have hts := cx.2.2.2.2.1
  have hl : lv_has ls 4 [(0, .ref (gg_o g 0)), (1, .int x1), (2, .int x2), (3, .int x3)] := hl
  replace hf := h_top hf
  unfold f_X5_man at hf
  refine lv_aload_n hx hb dX5_man_0 rfl (lv_at hl 0 rfl) ?_
  refine lv_iload_n hx hb dX5_man_1 rfl (lv_at hl 1 rfl) ?_
  refine r_V_i (As := [.int x1]) (rest := []) cx hw hf hL.1.2.1 (by rw [hL.1.1]; rfl) lk_X5_105 (fun q1 hq => k_X5_isMan l g hg  hL S x1 q1 hq) ⟨⟨rfl, rfl⟩, Nat.le_of_ble_eq_true rfl, Nat.le_of_ble_eq_true rfl⟩ rfl hl.1 rfl (Nat.le_of_ble_eq_true rfl) dX5_man_2 ⟨Nat.zero_le _, Nat.zero_le _⟩ (fun q1 H locs hw hf => ?_)
  refine lv_if_eq hx hb dX5_man_5 (tgt := 24) rfl (fun hc2 => ?_) (fun hc2 => ?_)
  · replace hf := h_pos hc2 hf
    refine lv_iconst (v := -1) hx hb dX5_man_24 (by decide) ?_
    exact r_iret cx hw hr hlk hf dX5_man_25
  replace hf := h_neg hc2 hf
  refine lv_aload_n hx hb dX5_man_8 rfl (lv_at hl 0 rfl) ?_
  refine lv_iload_n hx hb dX5_man_9 rfl (lv_at hl 2 rfl) ?_
  refine r_V_i (As := [.int x2]) (rest := []) cx hw hf hL.1.2.1 (by rw [hL.1.1]; rfl) lk_X5_109 (fun q3 hq => k_X5_isPast l g hg  hL S x2 q3 hq) ⟨⟨rfl, rfl⟩, Nat.le_of_ble_eq_true rfl, Nat.le_of_ble_eq_true rfl⟩ rfl hl.1 rfl (Nat.le_of_ble_eq_true rfl) dX5_man_10 ⟨Nat.zero_le _, Nat.zero_le _⟩ (fun q3 H locs hw hf => ?_)
  refine lv_if_eq hx hb dX5_man_13 (tgt := 24) rfl (fun hc4 => ?_) (fun hc4 => ?_)
  · replace hf := h_pos hc4 hf
    refine lv_iconst (v := -1) hx hb dX5_man_24 (by decide) ?_
    exact r_iret cx hw hr hlk hf dX5_man_25
  replace hf := h_neg hc4 hf
  refine lv_iload_n hx hb dX5_man_16 rfl (lv_at hl 3 rfl) ?_
  refine lv_iconst (v := 2) hx hb dX5_man_17 (by decide) ?_
  refine r_S_i (As := [.int x3, .int (2 : Int32)]) (rest := []) cx hw hf lk_X5_112 (fun q5 hq => k_X5_within l g hg   S x3 (2 : Int32) q5 hq) ⟨⟨rfl, rfl⟩, Nat.le_of_ble_eq_true rfl, Nat.le_of_ble_eq_true rfl⟩ rfl hl.1 rfl (Nat.le_of_ble_eq_true rfl) dX5_man_18 ⟨Nat.zero_le _, Nat.zero_le _⟩ (fun q5 H locs hw hf => ?_)
  refine lv_if_ne hx hb dX5_man_21 (tgt := 26) rfl (fun hc6 => ?_) (fun hc6 => ?_)
  · replace hf := h_neg hc6 hf
    refine lv_iload_n hx hb dX5_man_26 rfl (lv_at hl 3 rfl) ?_
    refine lv_if_ne hx hb dX5_man_27 (tgt := 42) rfl (fun hc7 => ?_) (fun hc7 => ?_)
    · replace hf := h_neg hc7 hf
      refine lv_aload_n hx hb dX5_man_42 rfl (lv_at hl 0 rfl) ?_
      refine gf_X5_39 cx hw hL.1 dX5_man_43 ?_
      refine lv_iload_n hx hb dX5_man_46 rfl (lv_at hl 1 rfl) ?_
      refine lv_iload_n hx hb dX5_man_47 rfl (lv_at hl 2 rfl) ?_
      refine r_VN_i (As := [.int x1, .int x2]) (rest := []) cx hw hf (nw_at cx) (hL.2.2.2.1 0 (by decide)).2.1 (by rw [(hL.2.2.2.1 0 (by decide)).1]; rfl) lk_X5_120 (fun q8 hq => k_X0_rankOf l g hg 10 (hL.2.2.2.1 0 (by decide)) hL.2.2.2.2 S x1 x2 q8 hq) ⟨⟨rfl, rfl⟩, Nat.le_of_ble_eq_true rfl, Nat.le_of_ble_eq_true rfl⟩ rfl hl.1 rfl (Nat.le_of_ble_eq_true rfl) dX5_man_48 ⟨Nat.zero_le _, Nat.zero_le _⟩ (fun q8 H locs hw hf => ?_)
      exact r_iret cx hw hr hlk hf dX5_man_51
    replace hf := h_pos hc7 hf
    refine lv_aload_n hx hb dX5_man_30 rfl (lv_at hl 0 rfl) ?_
    refine gf_X5_39 cx hw hL.1 dX5_man_31 ?_
    refine lv_iload_n hx hb dX5_man_34 rfl (lv_at hl 1 rfl) ?_
    refine lv_iload_n hx hb dX5_man_35 rfl (lv_at hl 2 rfl) ?_
    refine r_VN_i (As := [.int x1, .int x2]) (rest := []) cx hw hf (nw_at cx) (hL.2.2.2.1 0 (by decide)).2.1 (by rw [(hL.2.2.2.1 0 (by decide)).1]; rfl) lk_X5_116 (fun q9 hq => k_X0_roomOf l g hg 10 (hL.2.2.2.1 0 (by decide)) hL.2.2.2.2 S x1 x2 q9 hq) ⟨⟨rfl, rfl⟩, Nat.le_of_ble_eq_true rfl, Nat.le_of_ble_eq_true rfl⟩ rfl hl.1 rfl (Nat.le_of_ble_eq_true rfl) dX5_man_36 ⟨Nat.zero_le _, Nat.zero_le _⟩ (fun q9 H locs hw hf => ?_)
    refine lv_goto hx hb dX5_man_39 (tgt := 51) rfl ?_
    exact r_iret cx hw hr hlk hf dX5_man_51
  replace hf := h_pos hc6 hf
  refine lv_iconst (v := -1) hx hb dX5_man_24 (by decide) ?_
  exact r_iret cx hw hr hlk hf dX5_man_25
theorem dX5_isMirror_0 : decode cX5_isMirror 0 = .ok (.iload_n 1, 1) := by decide +kernel
theorem dX5_isMirror_1 : decode cX5_isMirror 1 = .ok (.aload_n 0, 1) := by decide +kernel
theorem dX5_isMirror_2 : decode cX5_isMirror 2 = .ok (.getfield 27, 3) := by decide +kernel
theorem dX5_isMirror_5 : decode cX5_isMirror 5 = .ok (.getfield 206, 3) := by decide +kernel
theorem dX5_isMirror_8 : decode cX5_isMirror 8 = .ok (.invokestatic 112, 3) := by decide +kernel
theorem dX5_isMirror_11 : decode cX5_isMirror 11 = .ok (.ireturn, 1) := by decide +kernel
abbrev rm_X5_isMirror : Room := { frames := 1, cells := 0, slots := 0, locals := 21 }
def f_X5_isMirror (S : St) (x1 : Int32) : Option (Int32) :=
  chk (isT (st_P S (ky 0 4))) ((f_X5_within   x1 (st_I S (ky (st_P S (ky 0 4)) 3))).bind (fun (q2 : Int32) => chk (isb q2) (some q2)))
set_option maxRecDepth 100000 in
set_option maxHeartbeats 4000000 in
theorem k_X5_isMirror (l : Launch) (g : GG) (hg : gd wd_C g)  (hL : hAll g) (S : St) (x1 : Int32) (q : Int32) (hf : f_X5_isMirror  S x1 = some q) : Met l yX5_isMirror (Cond.code yX5_isMirror cX5_isMirror 2 (some .boolean) :: gw_tbl) rm_X5_isMirror (va_Pc [.ref (gg_o g 0), .int x1] (wI wd_C g S)) (qc_i wd_C g S q) 0 0 (aw g) := by
  refine mt_start (own := RX5) hg (by decide) rfl (Nat.le_of_ble_eq_true rfl) (fun p e s m args below meth c ls H locs cx hw hr hlk hl => ?_)
  have hx := cx.1
  have hb := cx.2.1
  have hown := cx.2.2.2.1
  have hts := cx.2.2.2.2.1
  have hl : lv_has ls 2 [(0, .ref (gg_o g 0)), (1, .int x1)] := hl
  replace hf := h_top hf
  unfold f_X5_isMirror at hf
  refine lv_iload_n hx hb dX5_isMirror_0 rfl (lv_at hl 1 rfl) ?_
  refine lv_aload_n hx hb dX5_isMirror_1 rfl (lv_at hl 0 rfl) ?_
  obtain ⟨hc1, hf⟩ := h_chk hf
  refine gf_X5_27 cx hw hL.1 dX5_isMirror_2 ?_
  refine gf_X5_206 cx hw ((allT_at hL.2.2.2.2 hc1).1) dX5_isMirror_5 ?_
  refine r_S_i (As := [.int x1, .int (st_I S (ky (st_P S (ky 0 4)) 3))]) (rest := []) cx hw hf lk_X5_112 (fun q2 hq => k_X5_within l g hg   S x1 (st_I S (ky (st_P S (ky 0 4)) 3)) q2 hq) ⟨⟨rfl, rfl⟩, Nat.le_of_ble_eq_true rfl, Nat.le_of_ble_eq_true rfl⟩ rfl hl.1 rfl (Nat.le_of_ble_eq_true rfl) dX5_isMirror_8 ⟨Nat.zero_le _, Nat.zero_le _⟩ (fun q2 H locs hw hf => ?_)
  obtain ⟨hc3, hf⟩ := h_chk hf
  exact r_zret cx hw hr hlk hc3 hf dX5_isMirror_11
theorem dX5_mirror_0 : decode cX5_mirror 0 = .ok (.aload_n 0, 1) := by decide +kernel
theorem dX5_mirror_1 : decode cX5_mirror 1 = .ok (.iload_n 1, 1) := by decide +kernel
theorem dX5_mirror_2 : decode cX5_mirror 2 = .ok (.invokevirtual 123, 3) := by decide +kernel
theorem dX5_mirror_5 : decode cX5_mirror 5 = .ok (.ifCond .eq 11, 3) := by decide +kernel
theorem dX5_mirror_8 : decode cX5_mirror 8 = .ok (.aload_n 0, 1) := by decide +kernel
theorem dX5_mirror_9 : decode cX5_mirror 9 = .ok (.iload_n 2, 1) := by decide +kernel
theorem dX5_mirror_10 : decode cX5_mirror 10 = .ok (.invokevirtual 109, 3) := by decide +kernel
theorem dX5_mirror_13 : decode cX5_mirror 13 = .ok (.ifCond .ne 5, 3) := by decide +kernel
theorem dX5_mirror_16 : decode cX5_mirror 16 = .ok (.iconst (-1), 1) := by decide +kernel
theorem dX5_mirror_17 : decode cX5_mirror 17 = .ok (.ireturn, 1) := by decide +kernel
theorem dX5_mirror_18 : decode cX5_mirror 18 = .ok (.iload_n 3, 1) := by decide +kernel
theorem dX5_mirror_19 : decode cX5_mirror 19 = .ok (.tableswitch 127 0 6 #[41, 51, 61, 79, 97, 107, 117], 41) := by decide +kernel
theorem dX5_mirror_60 : decode cX5_mirror 60 = .ok (.aload_n 0, 1) := by decide +kernel
theorem dX5_mirror_61 : decode cX5_mirror 61 = .ok (.getfield 39, 3) := by decide +kernel
theorem dX5_mirror_64 : decode cX5_mirror 64 = .ok (.iload_n 1, 1) := by decide +kernel
theorem dX5_mirror_65 : decode cX5_mirror 65 = .ok (.iload_n 2, 1) := by decide +kernel
theorem dX5_mirror_66 : decode cX5_mirror 66 = .ok (.invokevirtual 126, 3) := by decide +kernel
theorem dX5_mirror_69 : decode cX5_mirror 69 = .ok (.ireturn, 1) := by decide +kernel
theorem dX5_mirror_70 : decode cX5_mirror 70 = .ok (.aload_n 0, 1) := by decide +kernel
theorem dX5_mirror_71 : decode cX5_mirror 71 = .ok (.getfield 39, 3) := by decide +kernel
theorem dX5_mirror_74 : decode cX5_mirror 74 = .ok (.iload_n 1, 1) := by decide +kernel
theorem dX5_mirror_75 : decode cX5_mirror 75 = .ok (.iload_n 2, 1) := by decide +kernel
theorem dX5_mirror_76 : decode cX5_mirror 76 = .ok (.invokevirtual 129, 3) := by decide +kernel
theorem dX5_mirror_79 : decode cX5_mirror 79 = .ok (.ireturn, 1) := by decide +kernel
theorem dX5_mirror_80 : decode cX5_mirror 80 = .ok (.aload_n 0, 1) := by decide +kernel
theorem dX5_mirror_81 : decode cX5_mirror 81 = .ok (.getfield 39, 3) := by decide +kernel
theorem dX5_mirror_84 : decode cX5_mirror 84 = .ok (.iload_n 1, 1) := by decide +kernel
theorem dX5_mirror_85 : decode cX5_mirror 85 = .ok (.iload_n 2, 1) := by decide +kernel
theorem dX5_mirror_86 : decode cX5_mirror 86 = .ok (.invokevirtual 132, 3) := by decide +kernel
theorem dX5_mirror_89 : decode cX5_mirror 89 = .ok (.ifCond .eq 7, 3) := by decide +kernel
theorem dX5_mirror_92 : decode cX5_mirror 92 = .ok (.iconst 1, 1) := by decide +kernel
theorem dX5_mirror_93 : decode cX5_mirror 93 = .ok (.goto 4, 3) := by decide +kernel
theorem dX5_mirror_96 : decode cX5_mirror 96 = .ok (.iconst 0, 1) := by decide +kernel
theorem dX5_mirror_97 : decode cX5_mirror 97 = .ok (.ireturn, 1) := by decide +kernel
theorem dX5_mirror_98 : decode cX5_mirror 98 = .ok (.aload_n 0, 1) := by decide +kernel
theorem dX5_mirror_99 : decode cX5_mirror 99 = .ok (.getfield 39, 3) := by decide +kernel
theorem dX5_mirror_102 : decode cX5_mirror 102 = .ok (.iload_n 1, 1) := by decide +kernel
theorem dX5_mirror_103 : decode cX5_mirror 103 = .ok (.iload_n 2, 1) := by decide +kernel
theorem dX5_mirror_104 : decode cX5_mirror 104 = .ok (.invokevirtual 135, 3) := by decide +kernel
theorem dX5_mirror_107 : decode cX5_mirror 107 = .ok (.ifCond .eq 7, 3) := by decide +kernel
theorem dX5_mirror_110 : decode cX5_mirror 110 = .ok (.iconst 1, 1) := by decide +kernel
theorem dX5_mirror_111 : decode cX5_mirror 111 = .ok (.goto 4, 3) := by decide +kernel
theorem dX5_mirror_114 : decode cX5_mirror 114 = .ok (.iconst 0, 1) := by decide +kernel
theorem dX5_mirror_115 : decode cX5_mirror 115 = .ok (.ireturn, 1) := by decide +kernel
theorem dX5_mirror_116 : decode cX5_mirror 116 = .ok (.aload_n 0, 1) := by decide +kernel
theorem dX5_mirror_117 : decode cX5_mirror 117 = .ok (.getfield 39, 3) := by decide +kernel
theorem dX5_mirror_120 : decode cX5_mirror 120 = .ok (.iload_n 1, 1) := by decide +kernel
theorem dX5_mirror_121 : decode cX5_mirror 121 = .ok (.iload_n 2, 1) := by decide +kernel
theorem dX5_mirror_122 : decode cX5_mirror 122 = .ok (.invokevirtual 138, 3) := by decide +kernel
theorem dX5_mirror_125 : decode cX5_mirror 125 = .ok (.ireturn, 1) := by decide +kernel
theorem dX5_mirror_126 : decode cX5_mirror 126 = .ok (.aload_n 0, 1) := by decide +kernel
theorem dX5_mirror_127 : decode cX5_mirror 127 = .ok (.getfield 39, 3) := by decide +kernel
theorem dX5_mirror_130 : decode cX5_mirror 130 = .ok (.iload_n 1, 1) := by decide +kernel
theorem dX5_mirror_131 : decode cX5_mirror 131 = .ok (.iload_n 2, 1) := by decide +kernel
theorem dX5_mirror_132 : decode cX5_mirror 132 = .ok (.invokevirtual 141, 3) := by decide +kernel
theorem dX5_mirror_135 : decode cX5_mirror 135 = .ok (.ireturn, 1) := by decide +kernel
theorem dX5_mirror_136 : decode cX5_mirror 136 = .ok (.aload_n 0, 1) := by decide +kernel
theorem dX5_mirror_137 : decode cX5_mirror 137 = .ok (.getfield 39, 3) := by decide +kernel
theorem dX5_mirror_140 : decode cX5_mirror 140 = .ok (.iload_n 1, 1) := by decide +kernel
theorem dX5_mirror_141 : decode cX5_mirror 141 = .ok (.iload_n 2, 1) := by decide +kernel
theorem dX5_mirror_142 : decode cX5_mirror 142 = .ok (.invokevirtual 144, 3) := by decide +kernel
theorem dX5_mirror_145 : decode cX5_mirror 145 = .ok (.ireturn, 1) := by decide +kernel
theorem dX5_mirror_146 : decode cX5_mirror 146 = .ok (.iconst (-1), 1) := by decide +kernel
theorem dX5_mirror_147 : decode cX5_mirror 147 = .ok (.ireturn, 1) := by decide +kernel
abbrev rm_X5_mirror : Room := { frames := 4, cells := 0, slots := 0, locals := 89 }
def f_X5_mirror (S : St) (x1 : Int32) (x2 : Int32) (x3 : Int32) : Option (Int32) :=
  (f_X5_isMirror  S x1).bind (fun (q1 : Int32) => if q1 = 0 then (some (-1 : Int32)) else ((f_X5_isPast  S x2).bind (fun (q3 : Int32) => if q3 = 0 then (some (-1 : Int32)) else (if x3 = 0 then ((f_X0_hangOf 10 S x1 x2).bind (fun (q6 : Int32) => some q6)) else (if x3 = 1 then ((f_X0_lateOf 10 S x1 x2).bind (fun (q7 : Int32) => some q7)) else (if x3 = 2 then ((f_X0_isTurned 10 S x1 x2).bind (fun (q8 : Int32) => if q8 = 0 then (some (0 : Int32)) else (some (1 : Int32)))) else (if x3 = 3 then ((f_X0_isBroken 10 S x1 x2).bind (fun (q10 : Int32) => if q10 = 0 then (some (0 : Int32)) else (some (1 : Int32)))) else (if x3 = 4 then ((f_X0_showing 10 S x1 x2).bind (fun (q12 : Int32) => some q12)) else (if x3 = 5 then ((f_X0_roomShown 10 S x1 x2).bind (fun (q13 : Int32) => some q13)) else (if x3 = 6 then ((f_X0_menShown 10 S x1 x2).bind (fun (q14 : Int32) => some q14)) else (some (-1 : Int32))))))))))))
set_option maxRecDepth 100000 in
set_option maxHeartbeats 4000000 in
theorem k_X5_mirror (l : Launch) (g : GG) (hg : gd wd_C g)  (hL : hAll g) (S : St) (x1 : Int32) (x2 : Int32) (x3 : Int32) (q : Int32) (hf : f_X5_mirror  S x1 x2 x3 = some q) : Met l yX5_mirror (Cond.code yX5_mirror cX5_mirror 4 (some .int) :: gw_tbl) rm_X5_mirror (va_Pc [.ref (gg_o g 0), .int x1, .int x2, .int x3] (wI wd_C g S)) (qc_i wd_C g S q) 0 0 (aw g) := by
  refine mt_start (own := RX5) hg (by decide) rfl (Nat.le_of_ble_eq_true rfl) (fun p e s m args below meth c ls H locs cx hw hr hlk hl => ?_)
  have hx := cx.1
  have hb := cx.2.1
  have hown := cx.2.2.2.1
  have hts := cx.2.2.2.2.1
  have hl : lv_has ls 4 [(0, .ref (gg_o g 0)), (1, .int x1), (2, .int x2), (3, .int x3)] := hl
  replace hf := h_top hf
  unfold f_X5_mirror at hf
  refine lv_aload_n hx hb dX5_mirror_0 rfl (lv_at hl 0 rfl) ?_
  refine lv_iload_n hx hb dX5_mirror_1 rfl (lv_at hl 1 rfl) ?_
  refine r_V_i (As := [.int x1]) (rest := []) cx hw hf hL.1.2.1 (by rw [hL.1.1]; rfl) lk_X5_123 (fun q1 hq => k_X5_isMirror l g hg  hL S x1 q1 hq) ⟨⟨rfl, rfl⟩, Nat.le_of_ble_eq_true rfl, Nat.le_of_ble_eq_true rfl⟩ rfl hl.1 rfl (Nat.le_of_ble_eq_true rfl) dX5_mirror_2 ⟨Nat.zero_le _, Nat.zero_le _⟩ (fun q1 H locs hw hf => ?_)
  refine lv_if_eq hx hb dX5_mirror_5 (tgt := 16) rfl (fun hc2 => ?_) (fun hc2 => ?_)
  · replace hf := h_pos hc2 hf
    refine lv_iconst (v := -1) hx hb dX5_mirror_16 (by decide) ?_
    exact r_iret cx hw hr hlk hf dX5_mirror_17
  replace hf := h_neg hc2 hf
  refine lv_aload_n hx hb dX5_mirror_8 rfl (lv_at hl 0 rfl) ?_
  refine lv_iload_n hx hb dX5_mirror_9 rfl (lv_at hl 2 rfl) ?_
  refine r_V_i (As := [.int x2]) (rest := []) cx hw hf hL.1.2.1 (by rw [hL.1.1]; rfl) lk_X5_109 (fun q3 hq => k_X5_isPast l g hg  hL S x2 q3 hq) ⟨⟨rfl, rfl⟩, Nat.le_of_ble_eq_true rfl, Nat.le_of_ble_eq_true rfl⟩ rfl hl.1 rfl (Nat.le_of_ble_eq_true rfl) dX5_mirror_10 ⟨Nat.zero_le _, Nat.zero_le _⟩ (fun q3 H locs hw hf => ?_)
  refine lv_if_ne hx hb dX5_mirror_13 (tgt := 18) rfl (fun hc4 => ?_) (fun hc4 => ?_)
  · replace hf := h_neg hc4 hf
    refine lv_iload_n hx hb dX5_mirror_18 rfl (lv_at hl 3 rfl) ?_
    by_cases hc5_0 : x3 = 0
    · replace hf := h_pos hc5_0 hf
      refine lv_tableIn hx hb dX5_mirror_19 (by rw [hc5_0]; decide) (by rw [hc5_0]; decide) (off := 41) (by rw [hc5_0]; rfl) (tgt := 60) rfl ?_
      refine lv_aload_n hx hb dX5_mirror_60 rfl (lv_at hl 0 rfl) ?_
      refine gf_X5_39 cx hw hL.1 dX5_mirror_61 ?_
      refine lv_iload_n hx hb dX5_mirror_64 rfl (lv_at hl 1 rfl) ?_
      refine lv_iload_n hx hb dX5_mirror_65 rfl (lv_at hl 2 rfl) ?_
      refine r_VN_i (As := [.int x1, .int x2]) (rest := []) cx hw hf (nw_at cx) (hL.2.2.2.1 0 (by decide)).2.1 (by rw [(hL.2.2.2.1 0 (by decide)).1]; rfl) lk_X5_126 (fun q6 hq => k_X0_hangOf l g hg 10 (hL.2.2.2.1 0 (by decide)) hL.2.2.2.2 S x1 x2 q6 hq) ⟨⟨rfl, rfl⟩, Nat.le_of_ble_eq_true rfl, Nat.le_of_ble_eq_true rfl⟩ rfl hl.1 rfl (Nat.le_of_ble_eq_true rfl) dX5_mirror_66 ⟨Nat.zero_le _, Nat.zero_le _⟩ (fun q6 H locs hw hf => ?_)
      exact r_iret cx hw hr hlk hf dX5_mirror_69
    replace hf := h_neg hc5_0 hf
    by_cases hc5_1 : x3 = 1
    · replace hf := h_pos hc5_1 hf
      refine lv_tableIn hx hb dX5_mirror_19 (by rw [hc5_1]; decide) (by rw [hc5_1]; decide) (off := 51) (by rw [hc5_1]; rfl) (tgt := 70) rfl ?_
      refine lv_aload_n hx hb dX5_mirror_70 rfl (lv_at hl 0 rfl) ?_
      refine gf_X5_39 cx hw hL.1 dX5_mirror_71 ?_
      refine lv_iload_n hx hb dX5_mirror_74 rfl (lv_at hl 1 rfl) ?_
      refine lv_iload_n hx hb dX5_mirror_75 rfl (lv_at hl 2 rfl) ?_
      refine r_VN_i (As := [.int x1, .int x2]) (rest := []) cx hw hf (nw_at cx) (hL.2.2.2.1 0 (by decide)).2.1 (by rw [(hL.2.2.2.1 0 (by decide)).1]; rfl) lk_X5_129 (fun q7 hq => k_X0_lateOf l g hg 10 (hL.2.2.2.1 0 (by decide)) hL.2.2.2.2 S x1 x2 q7 hq) ⟨⟨rfl, rfl⟩, Nat.le_of_ble_eq_true rfl, Nat.le_of_ble_eq_true rfl⟩ rfl hl.1 rfl (Nat.le_of_ble_eq_true rfl) dX5_mirror_76 ⟨Nat.zero_le _, Nat.zero_le _⟩ (fun q7 H locs hw hf => ?_)
      exact r_iret cx hw hr hlk hf dX5_mirror_79
    replace hf := h_neg hc5_1 hf
    by_cases hc5_2 : x3 = 2
    · replace hf := h_pos hc5_2 hf
      refine lv_tableIn hx hb dX5_mirror_19 (by rw [hc5_2]; decide) (by rw [hc5_2]; decide) (off := 61) (by rw [hc5_2]; rfl) (tgt := 80) rfl ?_
      refine lv_aload_n hx hb dX5_mirror_80 rfl (lv_at hl 0 rfl) ?_
      refine gf_X5_39 cx hw hL.1 dX5_mirror_81 ?_
      refine lv_iload_n hx hb dX5_mirror_84 rfl (lv_at hl 1 rfl) ?_
      refine lv_iload_n hx hb dX5_mirror_85 rfl (lv_at hl 2 rfl) ?_
      refine r_VN_i (As := [.int x1, .int x2]) (rest := []) cx hw hf (nw_at cx) (hL.2.2.2.1 0 (by decide)).2.1 (by rw [(hL.2.2.2.1 0 (by decide)).1]; rfl) lk_X5_132 (fun q8 hq => k_X0_isTurned l g hg 10 (hL.2.2.2.1 0 (by decide)) hL.2.2.2.2 S x1 x2 q8 hq) ⟨⟨rfl, rfl⟩, Nat.le_of_ble_eq_true rfl, Nat.le_of_ble_eq_true rfl⟩ rfl hl.1 rfl (Nat.le_of_ble_eq_true rfl) dX5_mirror_86 ⟨Nat.zero_le _, Nat.zero_le _⟩ (fun q8 H locs hw hf => ?_)
      refine lv_if_eq hx hb dX5_mirror_89 (tgt := 96) rfl (fun hc9 => ?_) (fun hc9 => ?_)
      · replace hf := h_pos hc9 hf
        refine lv_iconst (v := 0) hx hb dX5_mirror_96 (by decide) ?_
        exact r_iret cx hw hr hlk hf dX5_mirror_97
      replace hf := h_neg hc9 hf
      refine lv_iconst (v := 1) hx hb dX5_mirror_92 (by decide) ?_
      refine lv_goto hx hb dX5_mirror_93 (tgt := 97) rfl ?_
      exact r_iret cx hw hr hlk hf dX5_mirror_97
    replace hf := h_neg hc5_2 hf
    by_cases hc5_3 : x3 = 3
    · replace hf := h_pos hc5_3 hf
      refine lv_tableIn hx hb dX5_mirror_19 (by rw [hc5_3]; decide) (by rw [hc5_3]; decide) (off := 79) (by rw [hc5_3]; rfl) (tgt := 98) rfl ?_
      refine lv_aload_n hx hb dX5_mirror_98 rfl (lv_at hl 0 rfl) ?_
      refine gf_X5_39 cx hw hL.1 dX5_mirror_99 ?_
      refine lv_iload_n hx hb dX5_mirror_102 rfl (lv_at hl 1 rfl) ?_
      refine lv_iload_n hx hb dX5_mirror_103 rfl (lv_at hl 2 rfl) ?_
      refine r_VN_i (As := [.int x1, .int x2]) (rest := []) cx hw hf (nw_at cx) (hL.2.2.2.1 0 (by decide)).2.1 (by rw [(hL.2.2.2.1 0 (by decide)).1]; rfl) lk_X5_135 (fun q10 hq => k_X0_isBroken l g hg 10 (hL.2.2.2.1 0 (by decide)) hL.2.2.2.2 S x1 x2 q10 hq) ⟨⟨rfl, rfl⟩, Nat.le_of_ble_eq_true rfl, Nat.le_of_ble_eq_true rfl⟩ rfl hl.1 rfl (Nat.le_of_ble_eq_true rfl) dX5_mirror_104 ⟨Nat.zero_le _, Nat.zero_le _⟩ (fun q10 H locs hw hf => ?_)
      refine lv_if_eq hx hb dX5_mirror_107 (tgt := 114) rfl (fun hc11 => ?_) (fun hc11 => ?_)
      · replace hf := h_pos hc11 hf
        refine lv_iconst (v := 0) hx hb dX5_mirror_114 (by decide) ?_
        exact r_iret cx hw hr hlk hf dX5_mirror_115
      replace hf := h_neg hc11 hf
      refine lv_iconst (v := 1) hx hb dX5_mirror_110 (by decide) ?_
      refine lv_goto hx hb dX5_mirror_111 (tgt := 115) rfl ?_
      exact r_iret cx hw hr hlk hf dX5_mirror_115
    replace hf := h_neg hc5_3 hf
    by_cases hc5_4 : x3 = 4
    · replace hf := h_pos hc5_4 hf
      refine lv_tableIn hx hb dX5_mirror_19 (by rw [hc5_4]; decide) (by rw [hc5_4]; decide) (off := 97) (by rw [hc5_4]; rfl) (tgt := 116) rfl ?_
      refine lv_aload_n hx hb dX5_mirror_116 rfl (lv_at hl 0 rfl) ?_
      refine gf_X5_39 cx hw hL.1 dX5_mirror_117 ?_
      refine lv_iload_n hx hb dX5_mirror_120 rfl (lv_at hl 1 rfl) ?_
      refine lv_iload_n hx hb dX5_mirror_121 rfl (lv_at hl 2 rfl) ?_
      refine r_VN_i (As := [.int x1, .int x2]) (rest := []) cx hw hf (nw_at cx) (hL.2.2.2.1 0 (by decide)).2.1 (by rw [(hL.2.2.2.1 0 (by decide)).1]; rfl) lk_X5_138 (fun q12 hq => k_X0_showing l g hg 10 (hL.2.2.2.1 0 (by decide)) hL.2.2.2.2 S x1 x2 q12 hq) ⟨⟨rfl, rfl⟩, Nat.le_of_ble_eq_true rfl, Nat.le_of_ble_eq_true rfl⟩ rfl hl.1 rfl (Nat.le_of_ble_eq_true rfl) dX5_mirror_122 ⟨Nat.zero_le _, Nat.zero_le _⟩ (fun q12 H locs hw hf => ?_)
      exact r_iret cx hw hr hlk hf dX5_mirror_125
    replace hf := h_neg hc5_4 hf
    by_cases hc5_5 : x3 = 5
    · replace hf := h_pos hc5_5 hf
      refine lv_tableIn hx hb dX5_mirror_19 (by rw [hc5_5]; decide) (by rw [hc5_5]; decide) (off := 107) (by rw [hc5_5]; rfl) (tgt := 126) rfl ?_
      refine lv_aload_n hx hb dX5_mirror_126 rfl (lv_at hl 0 rfl) ?_
      refine gf_X5_39 cx hw hL.1 dX5_mirror_127 ?_
      refine lv_iload_n hx hb dX5_mirror_130 rfl (lv_at hl 1 rfl) ?_
      refine lv_iload_n hx hb dX5_mirror_131 rfl (lv_at hl 2 rfl) ?_
      refine r_VN_i (As := [.int x1, .int x2]) (rest := []) cx hw hf (nw_at cx) (hL.2.2.2.1 0 (by decide)).2.1 (by rw [(hL.2.2.2.1 0 (by decide)).1]; rfl) lk_X5_141 (fun q13 hq => k_X0_roomShown l g hg 10 (hL.2.2.2.1 0 (by decide)) hL.2.2.2.2 S x1 x2 q13 hq) ⟨⟨rfl, rfl⟩, Nat.le_of_ble_eq_true rfl, Nat.le_of_ble_eq_true rfl⟩ rfl hl.1 rfl (Nat.le_of_ble_eq_true rfl) dX5_mirror_132 ⟨Nat.zero_le _, Nat.zero_le _⟩ (fun q13 H locs hw hf => ?_)
      exact r_iret cx hw hr hlk hf dX5_mirror_135
    replace hf := h_neg hc5_5 hf
    by_cases hc5_6 : x3 = 6
    · replace hf := h_pos hc5_6 hf
      refine lv_tableIn hx hb dX5_mirror_19 (by rw [hc5_6]; decide) (by rw [hc5_6]; decide) (off := 117) (by rw [hc5_6]; rfl) (tgt := 136) rfl ?_
      refine lv_aload_n hx hb dX5_mirror_136 rfl (lv_at hl 0 rfl) ?_
      refine gf_X5_39 cx hw hL.1 dX5_mirror_137 ?_
      refine lv_iload_n hx hb dX5_mirror_140 rfl (lv_at hl 1 rfl) ?_
      refine lv_iload_n hx hb dX5_mirror_141 rfl (lv_at hl 2 rfl) ?_
      refine r_VN_i (As := [.int x1, .int x2]) (rest := []) cx hw hf (nw_at cx) (hL.2.2.2.1 0 (by decide)).2.1 (by rw [(hL.2.2.2.1 0 (by decide)).1]; rfl) lk_X5_144 (fun q14 hq => k_X0_menShown l g hg 10 (hL.2.2.2.1 0 (by decide)) hL.2.2.2.2 S x1 x2 q14 hq) ⟨⟨rfl, rfl⟩, Nat.le_of_ble_eq_true rfl, Nat.le_of_ble_eq_true rfl⟩ rfl hl.1 rfl (Nat.le_of_ble_eq_true rfl) dX5_mirror_142 ⟨Nat.zero_le _, Nat.zero_le _⟩ (fun q14 H locs hw hf => ?_)
      exact r_iret cx hw hr hlk hf dX5_mirror_145
    replace hf := h_neg hc5_6 hf
    have hD19 : W p l e rm_X5_mirror s m args below meth c H locs 0 0 (MQ below (qc_i wd_C g S q) args s 0 0 (aw g)) (F0 m 146 ls []) := by
      refine lv_iconst (v := -1) hx hb dX5_mirror_146 (by decide) ?_
      exact r_iret cx hw hr hlk hf dX5_mirror_147
    refine lv_tableOut hx hb dX5_mirror_19 (ts_out (lo := 0) (hi := 6) (by decide) (by decide) (fun i h1 h2 => ?_)) (tgt := 146) rfl hD19
    rcases (show i = 0 ∨ i = 1 ∨ i = 2 ∨ i = 3 ∨ i = 4 ∨ i = 5 ∨ i = 6 by omega) with rfl | rfl | rfl | rfl | rfl | rfl | rfl
    · exact hc5_0
    · exact hc5_1
    · exact hc5_2
    · exact hc5_3
    · exact hc5_4
    · exact hc5_5
    · exact hc5_6
  replace hf := h_pos hc4 hf
  refine lv_iconst (v := -1) hx hb dX5_mirror_16 (by decide) ?_
  exact r_iret cx hw hr hlk hf dX5_mirror_17
theorem dX5_minutes_0 : decode cX5_minutes 0 = .ok (.iload_n 1, 1) := by decide +kernel
theorem dX5_minutes_1 : decode cX5_minutes 1 = .ok (.sipush 300, 3) := by decide +kernel
theorem dX5_minutes_4 : decode cX5_minutes 4 = .ok (.invokestatic 112, 3) := by decide +kernel
theorem dX5_minutes_7 : decode cX5_minutes 7 = .ok (.ifCond .eq 18, 3) := by decide +kernel
theorem dX5_minutes_10 : decode cX5_minutes 10 = .ok (.iload_n 1, 1) := by decide +kernel
theorem dX5_minutes_11 : decode cX5_minutes 11 = .ok (.sipush 299, 3) := by decide +kernel
theorem dX5_minutes_14 : decode cX5_minutes 14 = .ok (.aload_n 0, 1) := by decide +kernel
theorem dX5_minutes_15 : decode cX5_minutes 15 = .ok (.getfield 39, 3) := by decide +kernel
theorem dX5_minutes_18 : decode cX5_minutes 18 = .ok (.getfield 147, 3) := by decide +kernel
theorem dX5_minutes_21 : decode cX5_minutes 21 = .ok (.isub, 1) := by decide +kernel
theorem dX5_minutes_22 : decode cX5_minutes 22 = .ok (.if_icmp .le 5, 3) := by decide +kernel
theorem dX5_minutes_25 : decode cX5_minutes 25 = .ok (.iconst (-1), 1) := by decide +kernel
theorem dX5_minutes_26 : decode cX5_minutes 26 = .ok (.ireturn, 1) := by decide +kernel
theorem dX5_minutes_27 : decode cX5_minutes 27 = .ok (.iload_n 1, 1) := by decide +kernel
theorem dX5_minutes_28 : decode cX5_minutes 28 = .ok (.ifCond .le 14, 3) := by decide +kernel
theorem dX5_minutes_31 : decode cX5_minutes 31 = .ok (.aload_n 0, 1) := by decide +kernel
theorem dX5_minutes_32 : decode cX5_minutes 32 = .ok (.getfield 49, 3) := by decide +kernel
theorem dX5_minutes_35 : decode cX5_minutes 35 = .ok (.aload_n 0, 1) := by decide +kernel
theorem dX5_minutes_36 : decode cX5_minutes 36 = .ok (.getfield 39, 3) := by decide +kernel
theorem dX5_minutes_39 : decode cX5_minutes 39 = .ok (.invokevirtual 150, 3) := by decide +kernel
theorem dX5_minutes_42 : decode cX5_minutes 42 = .ok (.aload_n 0, 1) := by decide +kernel
theorem dX5_minutes_43 : decode cX5_minutes 43 = .ok (.getfield 39, 3) := by decide +kernel
theorem dX5_minutes_46 : decode cX5_minutes 46 = .ok (.aload_n 0, 1) := by decide +kernel
theorem dX5_minutes_47 : decode cX5_minutes 47 = .ok (.getfield 39, 3) := by decide +kernel
theorem dX5_minutes_50 : decode cX5_minutes 50 = .ok (.getfield 147, 3) := by decide +kernel
theorem dX5_minutes_53 : decode cX5_minutes 53 = .ok (.iload_n 1, 1) := by decide +kernel
theorem dX5_minutes_54 : decode cX5_minutes 54 = .ok (.iadd, 1) := by decide +kernel
theorem dX5_minutes_55 : decode cX5_minutes 55 = .ok (.invokevirtual 154, 3) := by decide +kernel
theorem dX5_minutes_58 : decode cX5_minutes 58 = .ok (.aload_n 0, 1) := by decide +kernel
theorem dX5_minutes_59 : decode cX5_minutes 59 = .ok (.getfield 39, 3) := by decide +kernel
theorem dX5_minutes_62 : decode cX5_minutes 62 = .ok (.getfield 147, 3) := by decide +kernel
theorem dX5_minutes_65 : decode cX5_minutes 65 = .ok (.ireturn, 1) := by decide +kernel
abbrev rm_X5_minutes : Room := { frames := 5, cells := 0, slots := 0, locals := 190 }
def f_X5_minutes_J42 (S : St) (x1 : Int32) : Option (Int32 × St) :=
  (f_X0_goTo 10 S ((st_I S (ky 10 1)) + x1)).bind (fun (q5 : St) => some ((st_I q5 (ky 10 1)), q5))
def f_X5_minutes (S : St) (x1 : Int32) : Option (Int32 × St) :=
  (f_X5_within   x1 (300 : Int32)).bind (fun (q1 : Int32) => if q1 = 0 then (some ((-1 : Int32), S)) else (if x1 ≤ ((299 : Int32) - (st_I S (ky 10 1))) then (if x1 ≤ 0 then (f_X5_minutes_J42  S x1) else ((f_X2_keep 10 S ).bind (fun (q6 : St) => f_X5_minutes_J42  q6 x1))) else (some ((-1 : Int32), S))))
set_option maxRecDepth 100000 in
set_option maxHeartbeats 4000000 in
theorem k_X5_minutes (l : Launch) (g : GG) (hg : gd wd_C g)  (hL : hAll g) (S : St) (x1 : Int32) (q : Int32 × St) (hf : f_X5_minutes  S x1 = some q) : Met l yX5_minutes (Cond.code yX5_minutes cX5_minutes 2 (some .int) :: gw_tbl) rm_X5_minutes (va_Pc [.ref (gg_o g 0), .int x1] (wI wd_C g S)) (qc_w wd_C g q) 0 0 (aw g) := by
  refine mt_start (own := RX5) hg (by decide) rfl (Nat.le_of_ble_eq_true rfl) (fun p e s m args below meth c ls H locs cx hw hr hlk hl => ?_)
  have hx := cx.1
  have hb := cx.2.1
  have hown := cx.2.2.2.1
  have hts := cx.2.2.2.2.1
  have hl : lv_has ls 2 [(0, .ref (gg_o g 0)), (1, .int x1)] := hl
  replace hf := h_top hf
  unfold f_X5_minutes at hf
  have J42 : ∀ (ls : Array Slot) (H : Heap) (locs : List Loc) (S : St) (x1 : Int32), lv_has ls 2 [(0, .ref (gg_o g 0)), (1, .int x1)] → HH wd_C g s S H locs → (f_X5_minutes_J42  S x1).bind some = some q → W p l e rm_X5_minutes s m args below meth c H locs 0 0 (MQ below (qc_w wd_C g q) args s 0 0 (aw g)) (F0 m 42 ls []) := by
    intro ls H locs S x1 hl hw hf
    unfold f_X5_minutes_J42 at hf
    refine lv_aload_n hx hb dX5_minutes_42 rfl (lv_at hl 0 rfl) ?_
    refine gf_X5_39 cx hw hL.1 dX5_minutes_43 ?_
    refine lv_aload_n hx hb dX5_minutes_46 rfl (lv_at hl 0 rfl) ?_
    refine gf_X5_39 cx hw hL.1 dX5_minutes_47 ?_
    refine gf_X5_147 cx hw (hL.2.2.2.1 0 (by decide)) dX5_minutes_50 ?_
    refine lv_iload_n hx hb dX5_minutes_53 rfl (lv_at hl 1 rfl) ?_
    refine lv_iadd hx hb dX5_minutes_54 ?_
    refine r_VN_v (As := [.int ((st_I S (ky 10 1)) + x1)]) (rest := []) cx hw hf (nw_at cx) (hL.2.2.2.1 0 (by decide)).2.1 (by rw [(hL.2.2.2.1 0 (by decide)).1]; rfl) lk_X5_154 (fun q5 hq => k_X0_goTo l g hg 10 (hL.2.2.2.1 0 (by decide)) hL.2.2.2.2 S ((st_I S (ky 10 1)) + x1) q5 hq) ⟨⟨rfl, rfl⟩, Nat.le_of_ble_eq_true rfl, Nat.le_of_ble_eq_true rfl⟩ rfl hl.1 rfl (Nat.le_of_ble_eq_true rfl) dX5_minutes_55 ⟨Nat.zero_le _, Nat.zero_le _⟩ (fun q5 H locs hw hf => ?_)
    refine lv_aload_n hx hb dX5_minutes_58 rfl (lv_at hl 0 rfl) ?_
    refine gf_X5_39 cx hw hL.1 dX5_minutes_59 ?_
    refine gf_X5_147 cx hw (hL.2.2.2.1 0 (by decide)) dX5_minutes_62 ?_
    exact r_iretw cx hw hr hlk hf dX5_minutes_65
  refine lv_iload_n hx hb dX5_minutes_0 rfl (lv_at hl 1 rfl) ?_
  refine lv_sipush (v := 300) hx hb dX5_minutes_1 (by decide) ?_
  refine r_S_i (As := [.int x1, .int (300 : Int32)]) (rest := []) cx hw hf lk_X5_112 (fun q1 hq => k_X5_within l g hg   S x1 (300 : Int32) q1 hq) ⟨⟨rfl, rfl⟩, Nat.le_of_ble_eq_true rfl, Nat.le_of_ble_eq_true rfl⟩ rfl hl.1 rfl (Nat.le_of_ble_eq_true rfl) dX5_minutes_4 ⟨Nat.zero_le _, Nat.zero_le _⟩ (fun q1 H locs hw hf => ?_)
  refine lv_if_eq hx hb dX5_minutes_7 (tgt := 25) rfl (fun hc2 => ?_) (fun hc2 => ?_)
  · replace hf := h_pos hc2 hf
    refine lv_iconst (v := -1) hx hb dX5_minutes_25 (by decide) ?_
    exact r_iretw cx hw hr hlk hf dX5_minutes_26
  replace hf := h_neg hc2 hf
  refine lv_iload_n hx hb dX5_minutes_10 rfl (lv_at hl 1 rfl) ?_
  refine lv_sipush (v := 299) hx hb dX5_minutes_11 (by decide) ?_
  refine lv_aload_n hx hb dX5_minutes_14 rfl (lv_at hl 0 rfl) ?_
  refine gf_X5_39 cx hw hL.1 dX5_minutes_15 ?_
  refine gf_X5_147 cx hw (hL.2.2.2.1 0 (by decide)) dX5_minutes_18 ?_
  refine lv_isub hx hb dX5_minutes_21 ?_
  refine lv_icmp_le hx hb dX5_minutes_22 (tgt := 27) rfl (fun hc3 => ?_) (fun hc3 => ?_)
  · replace hf := h_pos hc3 hf
    refine lv_iload_n hx hb dX5_minutes_27 rfl (lv_at hl 1 rfl) ?_
    refine lv_if_le hx hb dX5_minutes_28 (tgt := 42) rfl (fun hc4 => ?_) (fun hc4 => ?_)
    · replace hf := h_pos hc4 hf
      exact J42 _ _ _ S x1 (lv_sub hl [0, 1] rfl) hw hf
    replace hf := h_neg hc4 hf
    refine lv_aload_n hx hb dX5_minutes_31 rfl (lv_at hl 0 rfl) ?_
    refine gf_X5_49 cx hw hL.1 dX5_minutes_32 ?_
    refine lv_aload_n hx hb dX5_minutes_35 rfl (lv_at hl 0 rfl) ?_
    refine gf_X5_39 cx hw hL.1 dX5_minutes_36 ?_
    refine r_VN_v (As := [.ref (gg_o g 10)]) (rest := []) cx hw hf (nw_at cx) hL.2.2.1.2.1 (by rw [hL.2.2.1.1]; rfl) lk_X5_150 (fun q6 hq => k_X2_keep l g hg 10 hL.2.2.1 hL.2.2.2.2 (hL.2.2.2.1 0 (by decide)) S  q6 hq) ⟨⟨rfl, rfl⟩, Nat.le_of_ble_eq_true rfl, Nat.le_of_ble_eq_true rfl⟩ rfl hl.1 rfl (Nat.le_of_ble_eq_true rfl) dX5_minutes_39 ⟨Nat.zero_le _, Nat.zero_le _⟩ (fun q6 H locs hw hf => ?_)
    exact J42 _ _ _ q6 x1 (lv_sub hl [0, 1] rfl) hw hf
  replace hf := h_neg hc3 hf
  refine lv_iconst (v := -1) hx hb dX5_minutes_25 (by decide) ?_
  exact r_iretw cx hw hr hlk hf dX5_minutes_26
theorem dX5_go_0 : decode cX5_go 0 = .ok (.aload_n 0, 1) := by decide +kernel
theorem dX5_go_1 : decode cX5_go 1 = .ok (.iload_n 1, 1) := by decide +kernel
theorem dX5_go_2 : decode cX5_go 2 = .ok (.invokevirtual 105, 3) := by decide +kernel
theorem dX5_go_5 : decode cX5_go 5 = .ok (.ifCond .ne 5, 3) := by decide +kernel
theorem dX5_go_8 : decode cX5_go 8 = .ok (.iconst 0, 1) := by decide +kernel
theorem dX5_go_9 : decode cX5_go 9 = .ok (.ireturn, 1) := by decide +kernel
theorem dX5_go_10 : decode cX5_go 10 = .ok (.aload_n 0, 1) := by decide +kernel
theorem dX5_go_11 : decode cX5_go 11 = .ok (.getfield 27, 3) := by decide +kernel
theorem dX5_go_14 : decode cX5_go 14 = .ok (.aload_n 0, 1) := by decide +kernel
theorem dX5_go_15 : decode cX5_go 15 = .ok (.getfield 39, 3) := by decide +kernel
theorem dX5_go_18 : decode cX5_go 18 = .ok (.iload_n 1, 1) := by decide +kernel
theorem dX5_go_19 : decode cX5_go 19 = .ok (.aload_n 0, 1) := by decide +kernel
theorem dX5_go_20 : decode cX5_go 20 = .ok (.getfield 39, 3) := by decide +kernel
theorem dX5_go_23 : decode cX5_go 23 = .ok (.getfield 147, 3) := by decide +kernel
theorem dX5_go_26 : decode cX5_go 26 = .ok (.invokevirtual 116, 3) := by decide +kernel
theorem dX5_go_29 : decode cX5_go 29 = .ok (.iload_n 2, 1) := by decide +kernel
theorem dX5_go_30 : decode cX5_go 30 = .ok (.invokevirtual 157, 3) := by decide +kernel
theorem dX5_go_33 : decode cX5_go 33 = .ok (.istore_n 3, 1) := by decide +kernel
theorem dX5_go_34 : decode cX5_go 34 = .ok (.iload_n 3, 1) := by decide +kernel
theorem dX5_go_35 : decode cX5_go 35 = .ok (.iconst (-1), 1) := by decide +kernel
theorem dX5_go_36 : decode cX5_go 36 = .ok (.if_icmp .ne 5, 3) := by decide +kernel
theorem dX5_go_39 : decode cX5_go 39 = .ok (.iconst 0, 1) := by decide +kernel
theorem dX5_go_40 : decode cX5_go 40 = .ok (.ireturn, 1) := by decide +kernel
theorem dX5_go_41 : decode cX5_go 41 = .ok (.aload_n 0, 1) := by decide +kernel
theorem dX5_go_42 : decode cX5_go 42 = .ok (.getfield 49, 3) := by decide +kernel
theorem dX5_go_45 : decode cX5_go 45 = .ok (.aload_n 0, 1) := by decide +kernel
theorem dX5_go_46 : decode cX5_go 46 = .ok (.getfield 39, 3) := by decide +kernel
theorem dX5_go_49 : decode cX5_go 49 = .ok (.invokevirtual 150, 3) := by decide +kernel
theorem dX5_go_52 : decode cX5_go 52 = .ok (.aload_n 0, 1) := by decide +kernel
theorem dX5_go_53 : decode cX5_go 53 = .ok (.getfield 39, 3) := by decide +kernel
theorem dX5_go_56 : decode cX5_go 56 = .ok (.iload_n 1, 1) := by decide +kernel
theorem dX5_go_57 : decode cX5_go 57 = .ok (.iload_n 3, 1) := by decide +kernel
theorem dX5_go_58 : decode cX5_go 58 = .ok (.invokevirtual 160, 3) := by decide +kernel
theorem dX5_go_61 : decode cX5_go 61 = .ok (.iconst 1, 1) := by decide +kernel
theorem dX5_go_62 : decode cX5_go 62 = .ok (.ireturn, 1) := by decide +kernel
abbrev rm_X5_go : Room := { frames := 5, cells := 0, slots := 0, locals := 188 }
def f_X5_go (S : St) (x1 : Int32) (x2 : Int32) : Option (Int32 × St) :=
  (f_X5_isMan  S x1).bind (fun (q1 : Int32) => if q1 = 0 then (some ((0 : Int32), S)) else (chk (isT (st_P S (ky 0 4))) ((f_X0_roomOf 10 S x1 (st_I S (ky 10 1))).bind (fun (q4 : Int32) => (f_X4_wayTo (st_P S (ky 0 4)) S q4 x2).bind (fun (q5 : Int32) => if q5 = (-1 : Int32) then (some ((0 : Int32), S)) else ((f_X2_keep 10 S ).bind (fun (q7 : St) => (f_X0_putMan 10 q7 x1 q5).bind (fun (q8 : St) => some ((1 : Int32), q8)))))))))
set_option maxRecDepth 100000 in
set_option maxHeartbeats 4000000 in
theorem k_X5_go (l : Launch) (g : GG) (hg : gd wd_C g)  (hL : hAll g) (S : St) (x1 : Int32) (x2 : Int32) (q : Int32 × St) (hf : f_X5_go  S x1 x2 = some q) : Met l yX5_go (Cond.code yX5_go cX5_go 4 (some .boolean) :: gw_tbl) rm_X5_go (va_Pc [.ref (gg_o g 0), .int x1, .int x2] (wI wd_C g S)) (qc_w wd_C g q) 0 0 (aw g) := by
  refine mt_start (own := RX5) hg (by decide) rfl (Nat.le_of_ble_eq_true rfl) (fun p e s m args below meth c ls H locs cx hw hr hlk hl => ?_)
  have hx := cx.1
  have hb := cx.2.1
  have hown := cx.2.2.2.1
  have hts := cx.2.2.2.2.1
  have hl : lv_has ls 4 [(0, .ref (gg_o g 0)), (1, .int x1), (2, .int x2)] := hl
  replace hf := h_top hf
  unfold f_X5_go at hf
  refine lv_aload_n hx hb dX5_go_0 rfl (lv_at hl 0 rfl) ?_
  refine lv_iload_n hx hb dX5_go_1 rfl (lv_at hl 1 rfl) ?_
  refine r_V_i (As := [.int x1]) (rest := []) cx hw hf hL.1.2.1 (by rw [hL.1.1]; rfl) lk_X5_105 (fun q1 hq => k_X5_isMan l g hg  hL S x1 q1 hq) ⟨⟨rfl, rfl⟩, Nat.le_of_ble_eq_true rfl, Nat.le_of_ble_eq_true rfl⟩ rfl hl.1 rfl (Nat.le_of_ble_eq_true rfl) dX5_go_2 ⟨Nat.zero_le _, Nat.zero_le _⟩ (fun q1 H locs hw hf => ?_)
  refine lv_if_ne hx hb dX5_go_5 (tgt := 10) rfl (fun hc2 => ?_) (fun hc2 => ?_)
  · replace hf := h_neg hc2 hf
    refine lv_aload_n hx hb dX5_go_10 rfl (lv_at hl 0 rfl) ?_
    obtain ⟨hc3, hf⟩ := h_chk hf
    refine gf_X5_27 cx hw hL.1 dX5_go_11 ?_
    refine lv_aload_n hx hb dX5_go_14 rfl (lv_at hl 0 rfl) ?_
    refine gf_X5_39 cx hw hL.1 dX5_go_15 ?_
    refine lv_iload_n hx hb dX5_go_18 rfl (lv_at hl 1 rfl) ?_
    refine lv_aload_n hx hb dX5_go_19 rfl (lv_at hl 0 rfl) ?_
    refine gf_X5_39 cx hw hL.1 dX5_go_20 ?_
    refine gf_X5_147 cx hw (hL.2.2.2.1 0 (by decide)) dX5_go_23 ?_
    refine r_VN_i (As := [.int x1, .int (st_I S (ky 10 1))]) (rest := [.ref (gg_o g (st_P S (ky 0 4)))]) cx hw hf (nw_at cx) (hL.2.2.2.1 0 (by decide)).2.1 (by rw [(hL.2.2.2.1 0 (by decide)).1]; rfl) lk_X5_116 (fun q4 hq => k_X0_roomOf l g hg 10 (hL.2.2.2.1 0 (by decide)) hL.2.2.2.2 S x1 (st_I S (ky 10 1)) q4 hq) ⟨⟨rfl, rfl⟩, Nat.le_of_ble_eq_true rfl, Nat.le_of_ble_eq_true rfl⟩ rfl hl.1 rfl (Nat.le_of_ble_eq_true rfl) dX5_go_26 ⟨Nat.zero_le _, Nat.zero_le _⟩ (fun q4 H locs hw hf => ?_)
    refine lv_iload_n hx hb dX5_go_29 rfl (lv_at hl 2 rfl) ?_
    refine r_VN_i (As := [.int q4, .int x2]) (rest := []) cx hw hf (nw_at cx) ((allT_at hL.2.2.2.2 hc3).1).2.1 (by rw [((allT_at hL.2.2.2.2 hc3).1).1]; rfl) lk_X5_157 (fun q5 hq => k_X4_wayTo l g hg (st_P S (ky 0 4)) (allT_at hL.2.2.2.2 hc3) S q4 x2 q5 hq) ⟨⟨rfl, rfl⟩, Nat.le_of_ble_eq_true rfl, Nat.le_of_ble_eq_true rfl⟩ rfl hl.1 rfl (Nat.le_of_ble_eq_true rfl) dX5_go_30 ⟨Nat.zero_le _, Nat.zero_le _⟩ (fun q5 H locs hw hf => ?_)
    refine lv_istore_n hx hb dX5_go_33 rfl hl (by decide) (lv' := [(3, .int q5), (0, .ref (gg_o g 0)), (1, .int x1), (2, .int x2)]) rfl (fun ls hl => ?_)
    refine lv_iload_n hx hb dX5_go_34 rfl (lv_at hl 0 rfl) ?_
    refine lv_iconst (v := -1) hx hb dX5_go_35 (by decide) ?_
    refine lv_icmp_ne hx hb dX5_go_36 (tgt := 41) rfl (fun hc6 => ?_) (fun hc6 => ?_)
    · replace hf := h_neg hc6 hf
      refine lv_aload_n hx hb dX5_go_41 rfl (lv_at hl 1 rfl) ?_
      refine gf_X5_49 cx hw hL.1 dX5_go_42 ?_
      refine lv_aload_n hx hb dX5_go_45 rfl (lv_at hl 1 rfl) ?_
      refine gf_X5_39 cx hw hL.1 dX5_go_46 ?_
      refine r_VN_v (As := [.ref (gg_o g 10)]) (rest := []) cx hw hf (nw_at cx) hL.2.2.1.2.1 (by rw [hL.2.2.1.1]; rfl) lk_X5_150 (fun q7 hq => k_X2_keep l g hg 10 hL.2.2.1 hL.2.2.2.2 (hL.2.2.2.1 0 (by decide)) S  q7 hq) ⟨⟨rfl, rfl⟩, Nat.le_of_ble_eq_true rfl, Nat.le_of_ble_eq_true rfl⟩ rfl hl.1 rfl (Nat.le_of_ble_eq_true rfl) dX5_go_49 ⟨Nat.zero_le _, Nat.zero_le _⟩ (fun q7 H locs hw hf => ?_)
      refine lv_aload_n hx hb dX5_go_52 rfl (lv_at hl 1 rfl) ?_
      refine gf_X5_39 cx hw hL.1 dX5_go_53 ?_
      refine lv_iload_n hx hb dX5_go_56 rfl (lv_at hl 2 rfl) ?_
      refine lv_iload_n hx hb dX5_go_57 rfl (lv_at hl 0 rfl) ?_
      refine r_VN_v (As := [.int x1, .int q5]) (rest := []) cx hw hf (nw_at cx) (hL.2.2.2.1 0 (by decide)).2.1 (by rw [(hL.2.2.2.1 0 (by decide)).1]; rfl) lk_X5_160 (fun q8 hq => k_X0_putMan l g hg 10 (hL.2.2.2.1 0 (by decide)) hL.2.2.2.2 q7 x1 q5 q8 hq) ⟨⟨rfl, rfl⟩, Nat.le_of_ble_eq_true rfl, Nat.le_of_ble_eq_true rfl⟩ rfl hl.1 rfl (Nat.le_of_ble_eq_true rfl) dX5_go_58 ⟨Nat.zero_le _, Nat.zero_le _⟩ (fun q8 H locs hw hf => ?_)
      refine lv_iconst (v := 1) hx hb dX5_go_61 (by decide) ?_
      exact r_zretw cx hw hr hlk (Or.inr rfl) hf dX5_go_62
    replace hf := h_pos hc6 hf
    refine lv_iconst (v := 0) hx hb dX5_go_39 (by decide) ?_
    exact r_zretw cx hw hr hlk (Or.inl rfl) hf dX5_go_40
  replace hf := h_pos hc2 hf
  refine lv_iconst (v := 0) hx hb dX5_go_8 (by decide) ?_
  exact r_zretw cx hw hr hlk (Or.inl rfl) hf dX5_go_9
theorem dX5_isRank_0 : decode cX5_isRank 0 = .ok (.iload_n 0, 1) := by decide +kernel
theorem dX5_isRank_1 : decode cX5_isRank 1 = .ok (.ifCond .lt 13, 3) := by decide +kernel
theorem dX5_isRank_4 : decode cX5_isRank 4 = .ok (.iload_n 0, 1) := by decide +kernel
theorem dX5_isRank_5 : decode cX5_isRank 5 = .ok (.bipush 20, 2) := by decide +kernel
theorem dX5_isRank_7 : decode cX5_isRank 7 = .ok (.if_icmp .gt 7, 3) := by decide +kernel
theorem dX5_isRank_10 : decode cX5_isRank 10 = .ok (.iconst 1, 1) := by decide +kernel
theorem dX5_isRank_11 : decode cX5_isRank 11 = .ok (.goto 4, 3) := by decide +kernel
theorem dX5_isRank_14 : decode cX5_isRank 14 = .ok (.iconst 0, 1) := by decide +kernel
theorem dX5_isRank_15 : decode cX5_isRank 15 = .ok (.ireturn, 1) := by decide +kernel
abbrev rm_X5_isRank : Room := { frames := 0, cells := 0, slots := 0, locals := 0 }
def f_X5_isRank (x0 : Int32) : Option (Int32) :=
  if x0 < 0 then (some (0 : Int32)) else (if (20 : Int32) < x0 then (some (0 : Int32)) else (some (1 : Int32)))
set_option maxRecDepth 100000 in
set_option maxHeartbeats 4000000 in
theorem k_X5_isRank (l : Launch) (g : GG) (hg : gd wd_C g)  (S : St) (x0 : Int32) (q : Int32) (hf : f_X5_isRank   x0 = some q) : Met l yX5_isRank (Cond.code yX5_isRank cX5_isRank 1 (some .boolean) :: gw_tbl) rm_X5_isRank (va_Pc [.int x0] (wI wd_C g S)) (qc_i wd_C g S q) 0 0 (aw g) := by
  refine mt_start (own := RX5) hg (by decide) rfl (Nat.le_of_ble_eq_true rfl) (fun p e s m args below meth c ls H locs cx hw hr hlk hl => ?_)
  have hx := cx.1
  have hb := cx.2.1
  have hown := cx.2.2.2.1
  have hts := cx.2.2.2.2.1
  have hl : lv_has ls 1 [(0, .int x0)] := hl
  replace hf := h_top hf
  unfold f_X5_isRank at hf
  refine lv_iload_n hx hb dX5_isRank_0 rfl (lv_at hl 0 rfl) ?_
  refine lv_if_lt hx hb dX5_isRank_1 (tgt := 14) rfl (fun hc1 => ?_) (fun hc1 => ?_)
  · replace hf := h_pos hc1 hf
    refine lv_iconst (v := 0) hx hb dX5_isRank_14 (by decide) ?_
    exact r_zret cx hw hr hlk (Or.inl rfl) hf dX5_isRank_15
  replace hf := h_neg hc1 hf
  refine lv_iload_n hx hb dX5_isRank_4 rfl (lv_at hl 0 rfl) ?_
  refine lv_bipush (v := 20) hx hb dX5_isRank_5 (by decide) ?_
  refine lv_icmp_gt hx hb dX5_isRank_7 (tgt := 14) rfl (fun hc2 => ?_) (fun hc2 => ?_)
  · replace hf := h_pos hc2 hf
    refine lv_iconst (v := 0) hx hb dX5_isRank_14 (by decide) ?_
    exact r_zret cx hw hr hlk (Or.inl rfl) hf dX5_isRank_15
  replace hf := h_neg hc2 hf
  refine lv_iconst (v := 1) hx hb dX5_isRank_10 (by decide) ?_
  refine lv_goto hx hb dX5_isRank_11 (tgt := 15) rfl ?_
  exact r_zret cx hw hr hlk (Or.inr rfl) hf dX5_isRank_15
theorem dX5_raise_0 : decode cX5_raise 0 = .ok (.aload_n 0, 1) := by decide +kernel
theorem dX5_raise_1 : decode cX5_raise 1 = .ok (.iload_n 1, 1) := by decide +kernel
theorem dX5_raise_2 : decode cX5_raise 2 = .ok (.invokevirtual 105, 3) := by decide +kernel
theorem dX5_raise_5 : decode cX5_raise 5 = .ok (.ifCond .eq 29, 3) := by decide +kernel
theorem dX5_raise_8 : decode cX5_raise 8 = .ok (.iload_n 2, 1) := by decide +kernel
theorem dX5_raise_9 : decode cX5_raise 9 = .ok (.invokestatic 164, 3) := by decide +kernel
theorem dX5_raise_12 : decode cX5_raise 12 = .ok (.ifCond .eq 22, 3) := by decide +kernel
theorem dX5_raise_15 : decode cX5_raise 15 = .ok (.aload_n 0, 1) := by decide +kernel
theorem dX5_raise_16 : decode cX5_raise 16 = .ok (.getfield 39, 3) := by decide +kernel
theorem dX5_raise_19 : decode cX5_raise 19 = .ok (.iload_n 1, 1) := by decide +kernel
theorem dX5_raise_20 : decode cX5_raise 20 = .ok (.aload_n 0, 1) := by decide +kernel
theorem dX5_raise_21 : decode cX5_raise 21 = .ok (.getfield 39, 3) := by decide +kernel
theorem dX5_raise_24 : decode cX5_raise 24 = .ok (.getfield 147, 3) := by decide +kernel
theorem dX5_raise_27 : decode cX5_raise 27 = .ok (.invokevirtual 120, 3) := by decide +kernel
theorem dX5_raise_30 : decode cX5_raise 30 = .ok (.iload_n 2, 1) := by decide +kernel
theorem dX5_raise_31 : decode cX5_raise 31 = .ok (.if_icmp .ne 5, 3) := by decide +kernel
theorem dX5_raise_34 : decode cX5_raise 34 = .ok (.iconst 0, 1) := by decide +kernel
theorem dX5_raise_35 : decode cX5_raise 35 = .ok (.ireturn, 1) := by decide +kernel
theorem dX5_raise_36 : decode cX5_raise 36 = .ok (.aload_n 0, 1) := by decide +kernel
theorem dX5_raise_37 : decode cX5_raise 37 = .ok (.getfield 49, 3) := by decide +kernel
theorem dX5_raise_40 : decode cX5_raise 40 = .ok (.aload_n 0, 1) := by decide +kernel
theorem dX5_raise_41 : decode cX5_raise 41 = .ok (.getfield 39, 3) := by decide +kernel
theorem dX5_raise_44 : decode cX5_raise 44 = .ok (.invokevirtual 150, 3) := by decide +kernel
theorem dX5_raise_47 : decode cX5_raise 47 = .ok (.aload_n 0, 1) := by decide +kernel
theorem dX5_raise_48 : decode cX5_raise 48 = .ok (.getfield 39, 3) := by decide +kernel
theorem dX5_raise_51 : decode cX5_raise 51 = .ok (.iload_n 1, 1) := by decide +kernel
theorem dX5_raise_52 : decode cX5_raise 52 = .ok (.iload_n 2, 1) := by decide +kernel
theorem dX5_raise_53 : decode cX5_raise 53 = .ok (.invokevirtual 167, 3) := by decide +kernel
theorem dX5_raise_56 : decode cX5_raise 56 = .ok (.iconst 1, 1) := by decide +kernel
theorem dX5_raise_57 : decode cX5_raise 57 = .ok (.ireturn, 1) := by decide +kernel
abbrev rm_X5_raise : Room := { frames := 5, cells := 0, slots := 0, locals := 188 }
def f_X5_raise (S : St) (x1 : Int32) (x2 : Int32) : Option (Int32 × St) :=
  (f_X5_isMan  S x1).bind (fun (q1 : Int32) => if q1 = 0 then (some ((0 : Int32), S)) else ((f_X5_isRank   x2).bind (fun (q3 : Int32) => if q3 = 0 then (some ((0 : Int32), S)) else ((f_X0_rankOf 10 S x1 (st_I S (ky 10 1))).bind (fun (q5 : Int32) => if q5 = x2 then (some ((0 : Int32), S)) else ((f_X2_keep 10 S ).bind (fun (q7 : St) => (f_X0_putRank 10 q7 x1 x2).bind (fun (q8 : St) => some ((1 : Int32), q8)))))))))
set_option maxRecDepth 100000 in
set_option maxHeartbeats 4000000 in
theorem k_X5_raise (l : Launch) (g : GG) (hg : gd wd_C g)  (hL : hAll g) (S : St) (x1 : Int32) (x2 : Int32) (q : Int32 × St) (hf : f_X5_raise  S x1 x2 = some q) : Met l yX5_raise (Cond.code yX5_raise cX5_raise 3 (some .boolean) :: gw_tbl) rm_X5_raise (va_Pc [.ref (gg_o g 0), .int x1, .int x2] (wI wd_C g S)) (qc_w wd_C g q) 0 0 (aw g) := by
  refine mt_start (own := RX5) hg (by decide) rfl (Nat.le_of_ble_eq_true rfl) (fun p e s m args below meth c ls H locs cx hw hr hlk hl => ?_)
  have hx := cx.1
  have hb := cx.2.1
  have hown := cx.2.2.2.1
  have hts := cx.2.2.2.2.1
  have hl : lv_has ls 3 [(0, .ref (gg_o g 0)), (1, .int x1), (2, .int x2)] := hl
  replace hf := h_top hf
  unfold f_X5_raise at hf
  refine lv_aload_n hx hb dX5_raise_0 rfl (lv_at hl 0 rfl) ?_
  refine lv_iload_n hx hb dX5_raise_1 rfl (lv_at hl 1 rfl) ?_
  refine r_V_i (As := [.int x1]) (rest := []) cx hw hf hL.1.2.1 (by rw [hL.1.1]; rfl) lk_X5_105 (fun q1 hq => k_X5_isMan l g hg  hL S x1 q1 hq) ⟨⟨rfl, rfl⟩, Nat.le_of_ble_eq_true rfl, Nat.le_of_ble_eq_true rfl⟩ rfl hl.1 rfl (Nat.le_of_ble_eq_true rfl) dX5_raise_2 ⟨Nat.zero_le _, Nat.zero_le _⟩ (fun q1 H locs hw hf => ?_)
  refine lv_if_eq hx hb dX5_raise_5 (tgt := 34) rfl (fun hc2 => ?_) (fun hc2 => ?_)
  · replace hf := h_pos hc2 hf
    refine lv_iconst (v := 0) hx hb dX5_raise_34 (by decide) ?_
    exact r_zretw cx hw hr hlk (Or.inl rfl) hf dX5_raise_35
  replace hf := h_neg hc2 hf
  refine lv_iload_n hx hb dX5_raise_8 rfl (lv_at hl 2 rfl) ?_
  refine r_S_i (As := [.int x2]) (rest := []) cx hw hf lk_X5_164 (fun q3 hq => k_X5_isRank l g hg   S x2 q3 hq) ⟨⟨rfl, rfl⟩, Nat.le_of_ble_eq_true rfl, Nat.le_of_ble_eq_true rfl⟩ rfl hl.1 rfl (Nat.le_of_ble_eq_true rfl) dX5_raise_9 ⟨Nat.zero_le _, Nat.zero_le _⟩ (fun q3 H locs hw hf => ?_)
  refine lv_if_eq hx hb dX5_raise_12 (tgt := 34) rfl (fun hc4 => ?_) (fun hc4 => ?_)
  · replace hf := h_pos hc4 hf
    refine lv_iconst (v := 0) hx hb dX5_raise_34 (by decide) ?_
    exact r_zretw cx hw hr hlk (Or.inl rfl) hf dX5_raise_35
  replace hf := h_neg hc4 hf
  refine lv_aload_n hx hb dX5_raise_15 rfl (lv_at hl 0 rfl) ?_
  refine gf_X5_39 cx hw hL.1 dX5_raise_16 ?_
  refine lv_iload_n hx hb dX5_raise_19 rfl (lv_at hl 1 rfl) ?_
  refine lv_aload_n hx hb dX5_raise_20 rfl (lv_at hl 0 rfl) ?_
  refine gf_X5_39 cx hw hL.1 dX5_raise_21 ?_
  refine gf_X5_147 cx hw (hL.2.2.2.1 0 (by decide)) dX5_raise_24 ?_
  refine r_VN_i (As := [.int x1, .int (st_I S (ky 10 1))]) (rest := []) cx hw hf (nw_at cx) (hL.2.2.2.1 0 (by decide)).2.1 (by rw [(hL.2.2.2.1 0 (by decide)).1]; rfl) lk_X5_120 (fun q5 hq => k_X0_rankOf l g hg 10 (hL.2.2.2.1 0 (by decide)) hL.2.2.2.2 S x1 (st_I S (ky 10 1)) q5 hq) ⟨⟨rfl, rfl⟩, Nat.le_of_ble_eq_true rfl, Nat.le_of_ble_eq_true rfl⟩ rfl hl.1 rfl (Nat.le_of_ble_eq_true rfl) dX5_raise_27 ⟨Nat.zero_le _, Nat.zero_le _⟩ (fun q5 H locs hw hf => ?_)
  refine lv_iload_n hx hb dX5_raise_30 rfl (lv_at hl 2 rfl) ?_
  refine lv_icmp_ne hx hb dX5_raise_31 (tgt := 36) rfl (fun hc6 => ?_) (fun hc6 => ?_)
  · replace hf := h_neg hc6 hf
    refine lv_aload_n hx hb dX5_raise_36 rfl (lv_at hl 0 rfl) ?_
    refine gf_X5_49 cx hw hL.1 dX5_raise_37 ?_
    refine lv_aload_n hx hb dX5_raise_40 rfl (lv_at hl 0 rfl) ?_
    refine gf_X5_39 cx hw hL.1 dX5_raise_41 ?_
    refine r_VN_v (As := [.ref (gg_o g 10)]) (rest := []) cx hw hf (nw_at cx) hL.2.2.1.2.1 (by rw [hL.2.2.1.1]; rfl) lk_X5_150 (fun q7 hq => k_X2_keep l g hg 10 hL.2.2.1 hL.2.2.2.2 (hL.2.2.2.1 0 (by decide)) S  q7 hq) ⟨⟨rfl, rfl⟩, Nat.le_of_ble_eq_true rfl, Nat.le_of_ble_eq_true rfl⟩ rfl hl.1 rfl (Nat.le_of_ble_eq_true rfl) dX5_raise_44 ⟨Nat.zero_le _, Nat.zero_le _⟩ (fun q7 H locs hw hf => ?_)
    refine lv_aload_n hx hb dX5_raise_47 rfl (lv_at hl 0 rfl) ?_
    refine gf_X5_39 cx hw hL.1 dX5_raise_48 ?_
    refine lv_iload_n hx hb dX5_raise_51 rfl (lv_at hl 1 rfl) ?_
    refine lv_iload_n hx hb dX5_raise_52 rfl (lv_at hl 2 rfl) ?_
    refine r_VN_v (As := [.int x1, .int x2]) (rest := []) cx hw hf (nw_at cx) (hL.2.2.2.1 0 (by decide)).2.1 (by rw [(hL.2.2.2.1 0 (by decide)).1]; rfl) lk_X5_167 (fun q8 hq => k_X0_putRank l g hg 10 (hL.2.2.2.1 0 (by decide)) hL.2.2.2.2 q7 x1 x2 q8 hq) ⟨⟨rfl, rfl⟩, Nat.le_of_ble_eq_true rfl, Nat.le_of_ble_eq_true rfl⟩ rfl hl.1 rfl (Nat.le_of_ble_eq_true rfl) dX5_raise_53 ⟨Nat.zero_le _, Nat.zero_le _⟩ (fun q8 H locs hw hf => ?_)
    refine lv_iconst (v := 1) hx hb dX5_raise_56 (by decide) ?_
    exact r_zretw cx hw hr hlk (Or.inr rfl) hf dX5_raise_57
  replace hf := h_pos hc6 hf
  refine lv_iconst (v := 0) hx hb dX5_raise_34 (by decide) ?_
  exact r_zretw cx hw hr hlk (Or.inl rfl) hf dX5_raise_35
theorem dX5_isRoom_0 : decode cX5_isRoom 0 = .ok (.iload_n 1, 1) := by decide +kernel
theorem dX5_isRoom_1 : decode cX5_isRoom 1 = .ok (.aload_n 0, 1) := by decide +kernel
theorem dX5_isRoom_2 : decode cX5_isRoom 2 = .ok (.getfield 27, 3) := by decide +kernel
theorem dX5_isRoom_5 : decode cX5_isRoom 5 = .ok (.getfield 234, 3) := by decide +kernel
theorem dX5_isRoom_8 : decode cX5_isRoom 8 = .ok (.invokestatic 112, 3) := by decide +kernel
theorem dX5_isRoom_11 : decode cX5_isRoom 11 = .ok (.ireturn, 1) := by decide +kernel
abbrev rm_X5_isRoom : Room := { frames := 1, cells := 0, slots := 0, locals := 21 }
def f_X5_isRoom (S : St) (x1 : Int32) : Option (Int32) :=
  chk (isT (st_P S (ky 0 4))) ((f_X5_within   x1 (st_I S (ky (st_P S (ky 0 4)) 0))).bind (fun (q2 : Int32) => chk (isb q2) (some q2)))
set_option maxRecDepth 100000 in
set_option maxHeartbeats 4000000 in
theorem k_X5_isRoom (l : Launch) (g : GG) (hg : gd wd_C g)  (hL : hAll g) (S : St) (x1 : Int32) (q : Int32) (hf : f_X5_isRoom  S x1 = some q) : Met l yX5_isRoom (Cond.code yX5_isRoom cX5_isRoom 2 (some .boolean) :: gw_tbl) rm_X5_isRoom (va_Pc [.ref (gg_o g 0), .int x1] (wI wd_C g S)) (qc_i wd_C g S q) 0 0 (aw g) := by
  refine mt_start (own := RX5) hg (by decide) rfl (Nat.le_of_ble_eq_true rfl) (fun p e s m args below meth c ls H locs cx hw hr hlk hl => ?_)
  have hx := cx.1
  have hb := cx.2.1
  have hown := cx.2.2.2.1
  have hts := cx.2.2.2.2.1
  have hl : lv_has ls 2 [(0, .ref (gg_o g 0)), (1, .int x1)] := hl
  replace hf := h_top hf
  unfold f_X5_isRoom at hf
  refine lv_iload_n hx hb dX5_isRoom_0 rfl (lv_at hl 1 rfl) ?_
  refine lv_aload_n hx hb dX5_isRoom_1 rfl (lv_at hl 0 rfl) ?_
  obtain ⟨hc1, hf⟩ := h_chk hf
  refine gf_X5_27 cx hw hL.1 dX5_isRoom_2 ?_
  refine gf_X5_234 cx hw ((allT_at hL.2.2.2.2 hc1).1) dX5_isRoom_5 ?_
  refine r_S_i (As := [.int x1, .int (st_I S (ky (st_P S (ky 0 4)) 0))]) (rest := []) cx hw hf lk_X5_112 (fun q2 hq => k_X5_within l g hg   S x1 (st_I S (ky (st_P S (ky 0 4)) 0)) q2 hq) ⟨⟨rfl, rfl⟩, Nat.le_of_ble_eq_true rfl, Nat.le_of_ble_eq_true rfl⟩ rfl hl.1 rfl (Nat.le_of_ble_eq_true rfl) dX5_isRoom_8 ⟨Nat.zero_le _, Nat.zero_le _⟩ (fun q2 H locs hw hf => ?_)
  obtain ⟨hc3, hf⟩ := h_chk hf
  exact r_zret cx hw hr hlk hc3 hf dX5_isRoom_11
theorem dX5_carry_0 : decode cX5_carry 0 = .ok (.aload_n 0, 1) := by decide +kernel
theorem dX5_carry_1 : decode cX5_carry 1 = .ok (.iload_n 1, 1) := by decide +kernel
theorem dX5_carry_2 : decode cX5_carry 2 = .ok (.invokevirtual 123, 3) := by decide +kernel
theorem dX5_carry_5 : decode cX5_carry 5 = .ok (.ifCond .eq 30, 3) := by decide +kernel
theorem dX5_carry_8 : decode cX5_carry 8 = .ok (.aload_n 0, 1) := by decide +kernel
theorem dX5_carry_9 : decode cX5_carry 9 = .ok (.iload_n 2, 1) := by decide +kernel
theorem dX5_carry_10 : decode cX5_carry 10 = .ok (.invokevirtual 170, 3) := by decide +kernel
theorem dX5_carry_13 : decode cX5_carry 13 = .ok (.ifCond .eq 22, 3) := by decide +kernel
theorem dX5_carry_16 : decode cX5_carry 16 = .ok (.aload_n 0, 1) := by decide +kernel
theorem dX5_carry_17 : decode cX5_carry 17 = .ok (.getfield 39, 3) := by decide +kernel
theorem dX5_carry_20 : decode cX5_carry 20 = .ok (.iload_n 1, 1) := by decide +kernel
theorem dX5_carry_21 : decode cX5_carry 21 = .ok (.aload_n 0, 1) := by decide +kernel
theorem dX5_carry_22 : decode cX5_carry 22 = .ok (.getfield 39, 3) := by decide +kernel
theorem dX5_carry_25 : decode cX5_carry 25 = .ok (.getfield 147, 3) := by decide +kernel
theorem dX5_carry_28 : decode cX5_carry 28 = .ok (.invokevirtual 126, 3) := by decide +kernel
theorem dX5_carry_31 : decode cX5_carry 31 = .ok (.iload_n 2, 1) := by decide +kernel
theorem dX5_carry_32 : decode cX5_carry 32 = .ok (.if_icmp .ne 5, 3) := by decide +kernel
theorem dX5_carry_35 : decode cX5_carry 35 = .ok (.iconst 0, 1) := by decide +kernel
theorem dX5_carry_36 : decode cX5_carry 36 = .ok (.ireturn, 1) := by decide +kernel
theorem dX5_carry_37 : decode cX5_carry 37 = .ok (.aload_n 0, 1) := by decide +kernel
theorem dX5_carry_38 : decode cX5_carry 38 = .ok (.getfield 49, 3) := by decide +kernel
theorem dX5_carry_41 : decode cX5_carry 41 = .ok (.aload_n 0, 1) := by decide +kernel
theorem dX5_carry_42 : decode cX5_carry 42 = .ok (.getfield 39, 3) := by decide +kernel
theorem dX5_carry_45 : decode cX5_carry 45 = .ok (.invokevirtual 150, 3) := by decide +kernel
theorem dX5_carry_48 : decode cX5_carry 48 = .ok (.aload_n 0, 1) := by decide +kernel
theorem dX5_carry_49 : decode cX5_carry 49 = .ok (.getfield 39, 3) := by decide +kernel
theorem dX5_carry_52 : decode cX5_carry 52 = .ok (.iload_n 1, 1) := by decide +kernel
theorem dX5_carry_53 : decode cX5_carry 53 = .ok (.iload_n 2, 1) := by decide +kernel
theorem dX5_carry_54 : decode cX5_carry 54 = .ok (.invokevirtual 173, 3) := by decide +kernel
theorem dX5_carry_57 : decode cX5_carry 57 = .ok (.iconst 1, 1) := by decide +kernel
theorem dX5_carry_58 : decode cX5_carry 58 = .ok (.ireturn, 1) := by decide +kernel
abbrev rm_X5_carry : Room := { frames := 5, cells := 0, slots := 0, locals := 188 }
def f_X5_carry (S : St) (x1 : Int32) (x2 : Int32) : Option (Int32 × St) :=
  (f_X5_isMirror  S x1).bind (fun (q1 : Int32) => if q1 = 0 then (some ((0 : Int32), S)) else ((f_X5_isRoom  S x2).bind (fun (q3 : Int32) => if q3 = 0 then (some ((0 : Int32), S)) else ((f_X0_hangOf 10 S x1 (st_I S (ky 10 1))).bind (fun (q5 : Int32) => if q5 = x2 then (some ((0 : Int32), S)) else ((f_X2_keep 10 S ).bind (fun (q7 : St) => (f_X0_putMirror 10 q7 x1 x2).bind (fun (q8 : St) => some ((1 : Int32), q8)))))))))
set_option maxRecDepth 100000 in
set_option maxHeartbeats 4000000 in
theorem k_X5_carry (l : Launch) (g : GG) (hg : gd wd_C g)  (hL : hAll g) (S : St) (x1 : Int32) (x2 : Int32) (q : Int32 × St) (hf : f_X5_carry  S x1 x2 = some q) : Met l yX5_carry (Cond.code yX5_carry cX5_carry 3 (some .boolean) :: gw_tbl) rm_X5_carry (va_Pc [.ref (gg_o g 0), .int x1, .int x2] (wI wd_C g S)) (qc_w wd_C g q) 0 0 (aw g) := by
  refine mt_start (own := RX5) hg (by decide) rfl (Nat.le_of_ble_eq_true rfl) (fun p e s m args below meth c ls H locs cx hw hr hlk hl => ?_)
  have hx := cx.1
  have hb := cx.2.1
  have hown := cx.2.2.2.1
  have hts := cx.2.2.2.2.1
  have hl : lv_has ls 3 [(0, .ref (gg_o g 0)), (1, .int x1), (2, .int x2)] := hl
  replace hf := h_top hf
  unfold f_X5_carry at hf
  refine lv_aload_n hx hb dX5_carry_0 rfl (lv_at hl 0 rfl) ?_
  refine lv_iload_n hx hb dX5_carry_1 rfl (lv_at hl 1 rfl) ?_
  refine r_V_i (As := [.int x1]) (rest := []) cx hw hf hL.1.2.1 (by rw [hL.1.1]; rfl) lk_X5_123 (fun q1 hq => k_X5_isMirror l g hg  hL S x1 q1 hq) ⟨⟨rfl, rfl⟩, Nat.le_of_ble_eq_true rfl, Nat.le_of_ble_eq_true rfl⟩ rfl hl.1 rfl (Nat.le_of_ble_eq_true rfl) dX5_carry_2 ⟨Nat.zero_le _, Nat.zero_le _⟩ (fun q1 H locs hw hf => ?_)
  refine lv_if_eq hx hb dX5_carry_5 (tgt := 35) rfl (fun hc2 => ?_) (fun hc2 => ?_)
  · replace hf := h_pos hc2 hf
    refine lv_iconst (v := 0) hx hb dX5_carry_35 (by decide) ?_
    exact r_zretw cx hw hr hlk (Or.inl rfl) hf dX5_carry_36
  replace hf := h_neg hc2 hf
  refine lv_aload_n hx hb dX5_carry_8 rfl (lv_at hl 0 rfl) ?_
  refine lv_iload_n hx hb dX5_carry_9 rfl (lv_at hl 2 rfl) ?_
  refine r_V_i (As := [.int x2]) (rest := []) cx hw hf hL.1.2.1 (by rw [hL.1.1]; rfl) lk_X5_170 (fun q3 hq => k_X5_isRoom l g hg  hL S x2 q3 hq) ⟨⟨rfl, rfl⟩, Nat.le_of_ble_eq_true rfl, Nat.le_of_ble_eq_true rfl⟩ rfl hl.1 rfl (Nat.le_of_ble_eq_true rfl) dX5_carry_10 ⟨Nat.zero_le _, Nat.zero_le _⟩ (fun q3 H locs hw hf => ?_)
  refine lv_if_eq hx hb dX5_carry_13 (tgt := 35) rfl (fun hc4 => ?_) (fun hc4 => ?_)
  · replace hf := h_pos hc4 hf
    refine lv_iconst (v := 0) hx hb dX5_carry_35 (by decide) ?_
    exact r_zretw cx hw hr hlk (Or.inl rfl) hf dX5_carry_36
  replace hf := h_neg hc4 hf
  refine lv_aload_n hx hb dX5_carry_16 rfl (lv_at hl 0 rfl) ?_
  refine gf_X5_39 cx hw hL.1 dX5_carry_17 ?_
  refine lv_iload_n hx hb dX5_carry_20 rfl (lv_at hl 1 rfl) ?_
  refine lv_aload_n hx hb dX5_carry_21 rfl (lv_at hl 0 rfl) ?_
  refine gf_X5_39 cx hw hL.1 dX5_carry_22 ?_
  refine gf_X5_147 cx hw (hL.2.2.2.1 0 (by decide)) dX5_carry_25 ?_
  refine r_VN_i (As := [.int x1, .int (st_I S (ky 10 1))]) (rest := []) cx hw hf (nw_at cx) (hL.2.2.2.1 0 (by decide)).2.1 (by rw [(hL.2.2.2.1 0 (by decide)).1]; rfl) lk_X5_126 (fun q5 hq => k_X0_hangOf l g hg 10 (hL.2.2.2.1 0 (by decide)) hL.2.2.2.2 S x1 (st_I S (ky 10 1)) q5 hq) ⟨⟨rfl, rfl⟩, Nat.le_of_ble_eq_true rfl, Nat.le_of_ble_eq_true rfl⟩ rfl hl.1 rfl (Nat.le_of_ble_eq_true rfl) dX5_carry_28 ⟨Nat.zero_le _, Nat.zero_le _⟩ (fun q5 H locs hw hf => ?_)
  refine lv_iload_n hx hb dX5_carry_31 rfl (lv_at hl 2 rfl) ?_
  refine lv_icmp_ne hx hb dX5_carry_32 (tgt := 37) rfl (fun hc6 => ?_) (fun hc6 => ?_)
  · replace hf := h_neg hc6 hf
    refine lv_aload_n hx hb dX5_carry_37 rfl (lv_at hl 0 rfl) ?_
    refine gf_X5_49 cx hw hL.1 dX5_carry_38 ?_
    refine lv_aload_n hx hb dX5_carry_41 rfl (lv_at hl 0 rfl) ?_
    refine gf_X5_39 cx hw hL.1 dX5_carry_42 ?_
    refine r_VN_v (As := [.ref (gg_o g 10)]) (rest := []) cx hw hf (nw_at cx) hL.2.2.1.2.1 (by rw [hL.2.2.1.1]; rfl) lk_X5_150 (fun q7 hq => k_X2_keep l g hg 10 hL.2.2.1 hL.2.2.2.2 (hL.2.2.2.1 0 (by decide)) S  q7 hq) ⟨⟨rfl, rfl⟩, Nat.le_of_ble_eq_true rfl, Nat.le_of_ble_eq_true rfl⟩ rfl hl.1 rfl (Nat.le_of_ble_eq_true rfl) dX5_carry_45 ⟨Nat.zero_le _, Nat.zero_le _⟩ (fun q7 H locs hw hf => ?_)
    refine lv_aload_n hx hb dX5_carry_48 rfl (lv_at hl 0 rfl) ?_
    refine gf_X5_39 cx hw hL.1 dX5_carry_49 ?_
    refine lv_iload_n hx hb dX5_carry_52 rfl (lv_at hl 1 rfl) ?_
    refine lv_iload_n hx hb dX5_carry_53 rfl (lv_at hl 2 rfl) ?_
    refine r_VN_v (As := [.int x1, .int x2]) (rest := []) cx hw hf (nw_at cx) (hL.2.2.2.1 0 (by decide)).2.1 (by rw [(hL.2.2.2.1 0 (by decide)).1]; rfl) lk_X5_173 (fun q8 hq => k_X0_putMirror l g hg 10 (hL.2.2.2.1 0 (by decide)) hL.2.2.2.2 q7 x1 x2 q8 hq) ⟨⟨rfl, rfl⟩, Nat.le_of_ble_eq_true rfl, Nat.le_of_ble_eq_true rfl⟩ rfl hl.1 rfl (Nat.le_of_ble_eq_true rfl) dX5_carry_54 ⟨Nat.zero_le _, Nat.zero_le _⟩ (fun q8 H locs hw hf => ?_)
    refine lv_iconst (v := 1) hx hb dX5_carry_57 (by decide) ?_
    exact r_zretw cx hw hr hlk (Or.inr rfl) hf dX5_carry_58
  replace hf := h_pos hc6 hf
  refine lv_iconst (v := 0) hx hb dX5_carry_35 (by decide) ?_
  exact r_zretw cx hw hr hlk (Or.inl rfl) hf dX5_carry_36
theorem dX5_turn_0 : decode cX5_turn 0 = .ok (.aload_n 0, 1) := by decide +kernel
theorem dX5_turn_1 : decode cX5_turn 1 = .ok (.iload_n 1, 1) := by decide +kernel
theorem dX5_turn_2 : decode cX5_turn 2 = .ok (.invokevirtual 123, 3) := by decide +kernel
theorem dX5_turn_5 : decode cX5_turn 5 = .ok (.ifCond .eq 22, 3) := by decide +kernel
theorem dX5_turn_8 : decode cX5_turn 8 = .ok (.aload_n 0, 1) := by decide +kernel
theorem dX5_turn_9 : decode cX5_turn 9 = .ok (.getfield 39, 3) := by decide +kernel
theorem dX5_turn_12 : decode cX5_turn 12 = .ok (.iload_n 1, 1) := by decide +kernel
theorem dX5_turn_13 : decode cX5_turn 13 = .ok (.aload_n 0, 1) := by decide +kernel
theorem dX5_turn_14 : decode cX5_turn 14 = .ok (.getfield 39, 3) := by decide +kernel
theorem dX5_turn_17 : decode cX5_turn 17 = .ok (.getfield 147, 3) := by decide +kernel
theorem dX5_turn_20 : decode cX5_turn 20 = .ok (.invokevirtual 132, 3) := by decide +kernel
theorem dX5_turn_23 : decode cX5_turn 23 = .ok (.iload_n 2, 1) := by decide +kernel
theorem dX5_turn_24 : decode cX5_turn 24 = .ok (.if_icmp .ne 5, 3) := by decide +kernel
theorem dX5_turn_27 : decode cX5_turn 27 = .ok (.iconst 0, 1) := by decide +kernel
theorem dX5_turn_28 : decode cX5_turn 28 = .ok (.ireturn, 1) := by decide +kernel
theorem dX5_turn_29 : decode cX5_turn 29 = .ok (.aload_n 0, 1) := by decide +kernel
theorem dX5_turn_30 : decode cX5_turn 30 = .ok (.getfield 49, 3) := by decide +kernel
theorem dX5_turn_33 : decode cX5_turn 33 = .ok (.aload_n 0, 1) := by decide +kernel
theorem dX5_turn_34 : decode cX5_turn 34 = .ok (.getfield 39, 3) := by decide +kernel
theorem dX5_turn_37 : decode cX5_turn 37 = .ok (.invokevirtual 150, 3) := by decide +kernel
theorem dX5_turn_40 : decode cX5_turn 40 = .ok (.aload_n 0, 1) := by decide +kernel
theorem dX5_turn_41 : decode cX5_turn 41 = .ok (.getfield 39, 3) := by decide +kernel
theorem dX5_turn_44 : decode cX5_turn 44 = .ok (.iload_n 1, 1) := by decide +kernel
theorem dX5_turn_45 : decode cX5_turn 45 = .ok (.iload_n 2, 1) := by decide +kernel
theorem dX5_turn_46 : decode cX5_turn 46 = .ok (.invokevirtual 176, 3) := by decide +kernel
theorem dX5_turn_49 : decode cX5_turn 49 = .ok (.iconst 1, 1) := by decide +kernel
theorem dX5_turn_50 : decode cX5_turn 50 = .ok (.ireturn, 1) := by decide +kernel
abbrev rm_X5_turn : Room := { frames := 4, cells := 0, slots := 0, locals := 188 }
def f_X5_turn (S : St) (x1 : Int32) (x2 : Int32) : Option (Int32 × St) :=
  (f_X5_isMirror  S x1).bind (fun (q1 : Int32) => if q1 = 0 then (some ((0 : Int32), S)) else ((f_X0_isTurned 10 S x1 (st_I S (ky 10 1))).bind (fun (q3 : Int32) => if q3 = x2 then (some ((0 : Int32), S)) else ((f_X2_keep 10 S ).bind (fun (q5 : St) => (f_X0_putWall 10 q5 x1 x2).bind (fun (q6 : St) => some ((1 : Int32), q6)))))))
set_option maxRecDepth 100000 in
set_option maxHeartbeats 4000000 in
theorem k_X5_turn (l : Launch) (g : GG) (hg : gd wd_C g)  (hL : hAll g) (S : St) (x1 : Int32) (x2 : Int32) (q : Int32 × St) (hf : f_X5_turn  S x1 x2 = some q) : Met l yX5_turn (Cond.code yX5_turn cX5_turn 3 (some .boolean) :: gw_tbl) rm_X5_turn (va_Pc [.ref (gg_o g 0), .int x1, .int x2] (wI wd_C g S)) (qc_w wd_C g q) 0 0 (aw g) := by
  refine mt_start (own := RX5) hg (by decide) rfl (Nat.le_of_ble_eq_true rfl) (fun p e s m args below meth c ls H locs cx hw hr hlk hl => ?_)
  have hx := cx.1
  have hb := cx.2.1
  have hown := cx.2.2.2.1
  have hts := cx.2.2.2.2.1
  have hl : lv_has ls 3 [(0, .ref (gg_o g 0)), (1, .int x1), (2, .int x2)] := hl
  replace hf := h_top hf
  unfold f_X5_turn at hf
  refine lv_aload_n hx hb dX5_turn_0 rfl (lv_at hl 0 rfl) ?_
  refine lv_iload_n hx hb dX5_turn_1 rfl (lv_at hl 1 rfl) ?_
  refine r_V_i (As := [.int x1]) (rest := []) cx hw hf hL.1.2.1 (by rw [hL.1.1]; rfl) lk_X5_123 (fun q1 hq => k_X5_isMirror l g hg  hL S x1 q1 hq) ⟨⟨rfl, rfl⟩, Nat.le_of_ble_eq_true rfl, Nat.le_of_ble_eq_true rfl⟩ rfl hl.1 rfl (Nat.le_of_ble_eq_true rfl) dX5_turn_2 ⟨Nat.zero_le _, Nat.zero_le _⟩ (fun q1 H locs hw hf => ?_)
  refine lv_if_eq hx hb dX5_turn_5 (tgt := 27) rfl (fun hc2 => ?_) (fun hc2 => ?_)
  · replace hf := h_pos hc2 hf
    refine lv_iconst (v := 0) hx hb dX5_turn_27 (by decide) ?_
    exact r_zretw cx hw hr hlk (Or.inl rfl) hf dX5_turn_28
  replace hf := h_neg hc2 hf
  refine lv_aload_n hx hb dX5_turn_8 rfl (lv_at hl 0 rfl) ?_
  refine gf_X5_39 cx hw hL.1 dX5_turn_9 ?_
  refine lv_iload_n hx hb dX5_turn_12 rfl (lv_at hl 1 rfl) ?_
  refine lv_aload_n hx hb dX5_turn_13 rfl (lv_at hl 0 rfl) ?_
  refine gf_X5_39 cx hw hL.1 dX5_turn_14 ?_
  refine gf_X5_147 cx hw (hL.2.2.2.1 0 (by decide)) dX5_turn_17 ?_
  refine r_VN_i (As := [.int x1, .int (st_I S (ky 10 1))]) (rest := []) cx hw hf (nw_at cx) (hL.2.2.2.1 0 (by decide)).2.1 (by rw [(hL.2.2.2.1 0 (by decide)).1]; rfl) lk_X5_132 (fun q3 hq => k_X0_isTurned l g hg 10 (hL.2.2.2.1 0 (by decide)) hL.2.2.2.2 S x1 (st_I S (ky 10 1)) q3 hq) ⟨⟨rfl, rfl⟩, Nat.le_of_ble_eq_true rfl, Nat.le_of_ble_eq_true rfl⟩ rfl hl.1 rfl (Nat.le_of_ble_eq_true rfl) dX5_turn_20 ⟨Nat.zero_le _, Nat.zero_le _⟩ (fun q3 H locs hw hf => ?_)
  refine lv_iload_n hx hb dX5_turn_23 rfl (lv_at hl 2 rfl) ?_
  refine lv_icmp_ne hx hb dX5_turn_24 (tgt := 29) rfl (fun hc4 => ?_) (fun hc4 => ?_)
  · replace hf := h_neg hc4 hf
    refine lv_aload_n hx hb dX5_turn_29 rfl (lv_at hl 0 rfl) ?_
    refine gf_X5_49 cx hw hL.1 dX5_turn_30 ?_
    refine lv_aload_n hx hb dX5_turn_33 rfl (lv_at hl 0 rfl) ?_
    refine gf_X5_39 cx hw hL.1 dX5_turn_34 ?_
    refine r_VN_v (As := [.ref (gg_o g 10)]) (rest := []) cx hw hf (nw_at cx) hL.2.2.1.2.1 (by rw [hL.2.2.1.1]; rfl) lk_X5_150 (fun q5 hq => k_X2_keep l g hg 10 hL.2.2.1 hL.2.2.2.2 (hL.2.2.2.1 0 (by decide)) S  q5 hq) ⟨⟨rfl, rfl⟩, Nat.le_of_ble_eq_true rfl, Nat.le_of_ble_eq_true rfl⟩ rfl hl.1 rfl (Nat.le_of_ble_eq_true rfl) dX5_turn_37 ⟨Nat.zero_le _, Nat.zero_le _⟩ (fun q5 H locs hw hf => ?_)
    refine lv_aload_n hx hb dX5_turn_40 rfl (lv_at hl 0 rfl) ?_
    refine gf_X5_39 cx hw hL.1 dX5_turn_41 ?_
    refine lv_iload_n hx hb dX5_turn_44 rfl (lv_at hl 1 rfl) ?_
    refine lv_iload_n hx hb dX5_turn_45 rfl (lv_at hl 2 rfl) ?_
    refine r_VN_v (As := [.int x1, .int x2]) (rest := []) cx hw hf (nw_at cx) (hL.2.2.2.1 0 (by decide)).2.1 (by rw [(hL.2.2.2.1 0 (by decide)).1]; rfl) lk_X5_176 (fun q6 hq => k_X0_putWall l g hg 10 (hL.2.2.2.1 0 (by decide)) hL.2.2.2.2 q5 x1 x2 q6 hq) ⟨⟨rfl, rfl⟩, Nat.le_of_ble_eq_true rfl, Nat.le_of_ble_eq_true rfl⟩ rfl hl.1 rfl (Nat.le_of_ble_eq_true rfl) dX5_turn_46 ⟨Nat.zero_le _, Nat.zero_le _⟩ (fun q6 H locs hw hf => ?_)
    refine lv_iconst (v := 1) hx hb dX5_turn_49 (by decide) ?_
    exact r_zretw cx hw hr hlk (Or.inr rfl) hf dX5_turn_50
  replace hf := h_pos hc4 hf
  refine lv_iconst (v := 0) hx hb dX5_turn_27 (by decide) ?_
  exact r_zretw cx hw hr hlk (Or.inl rfl) hf dX5_turn_28
theorem dX5_smash_0 : decode cX5_smash 0 = .ok (.aload_n 0, 1) := by decide +kernel
theorem dX5_smash_1 : decode cX5_smash 1 = .ok (.iload_n 1, 1) := by decide +kernel
theorem dX5_smash_2 : decode cX5_smash 2 = .ok (.invokevirtual 123, 3) := by decide +kernel
theorem dX5_smash_5 : decode cX5_smash 5 = .ok (.ifCond .eq 21, 3) := by decide +kernel
theorem dX5_smash_8 : decode cX5_smash 8 = .ok (.aload_n 0, 1) := by decide +kernel
theorem dX5_smash_9 : decode cX5_smash 9 = .ok (.getfield 39, 3) := by decide +kernel
theorem dX5_smash_12 : decode cX5_smash 12 = .ok (.iload_n 1, 1) := by decide +kernel
theorem dX5_smash_13 : decode cX5_smash 13 = .ok (.aload_n 0, 1) := by decide +kernel
theorem dX5_smash_14 : decode cX5_smash 14 = .ok (.getfield 39, 3) := by decide +kernel
theorem dX5_smash_17 : decode cX5_smash 17 = .ok (.getfield 147, 3) := by decide +kernel
theorem dX5_smash_20 : decode cX5_smash 20 = .ok (.invokevirtual 135, 3) := by decide +kernel
theorem dX5_smash_23 : decode cX5_smash 23 = .ok (.ifCond .eq 5, 3) := by decide +kernel
theorem dX5_smash_26 : decode cX5_smash 26 = .ok (.iconst 0, 1) := by decide +kernel
theorem dX5_smash_27 : decode cX5_smash 27 = .ok (.ireturn, 1) := by decide +kernel
theorem dX5_smash_28 : decode cX5_smash 28 = .ok (.aload_n 0, 1) := by decide +kernel
theorem dX5_smash_29 : decode cX5_smash 29 = .ok (.getfield 49, 3) := by decide +kernel
theorem dX5_smash_32 : decode cX5_smash 32 = .ok (.aload_n 0, 1) := by decide +kernel
theorem dX5_smash_33 : decode cX5_smash 33 = .ok (.getfield 39, 3) := by decide +kernel
theorem dX5_smash_36 : decode cX5_smash 36 = .ok (.invokevirtual 150, 3) := by decide +kernel
theorem dX5_smash_39 : decode cX5_smash 39 = .ok (.aload_n 0, 1) := by decide +kernel
theorem dX5_smash_40 : decode cX5_smash 40 = .ok (.getfield 39, 3) := by decide +kernel
theorem dX5_smash_43 : decode cX5_smash 43 = .ok (.iload_n 1, 1) := by decide +kernel
theorem dX5_smash_44 : decode cX5_smash 44 = .ok (.invokevirtual 180, 3) := by decide +kernel
theorem dX5_smash_47 : decode cX5_smash 47 = .ok (.iconst 1, 1) := by decide +kernel
theorem dX5_smash_48 : decode cX5_smash 48 = .ok (.ireturn, 1) := by decide +kernel
abbrev rm_X5_smash : Room := { frames := 4, cells := 0, slots := 0, locals := 188 }
def f_X5_smash (S : St) (x1 : Int32) : Option (Int32 × St) :=
  (f_X5_isMirror  S x1).bind (fun (q1 : Int32) => if q1 = 0 then (some ((0 : Int32), S)) else ((f_X0_isBroken 10 S x1 (st_I S (ky 10 1))).bind (fun (q3 : Int32) => if q3 = 0 then ((f_X2_keep 10 S ).bind (fun (q5 : St) => (f_X0_breakNow 10 q5 x1).bind (fun (q6 : St) => some ((1 : Int32), q6)))) else (some ((0 : Int32), S)))))
set_option maxRecDepth 100000 in
set_option maxHeartbeats 4000000 in
theorem k_X5_smash (l : Launch) (g : GG) (hg : gd wd_C g)  (hL : hAll g) (S : St) (x1 : Int32) (q : Int32 × St) (hf : f_X5_smash  S x1 = some q) : Met l yX5_smash (Cond.code yX5_smash cX5_smash 2 (some .boolean) :: gw_tbl) rm_X5_smash (va_Pc [.ref (gg_o g 0), .int x1] (wI wd_C g S)) (qc_w wd_C g q) 0 0 (aw g) := by
  refine mt_start (own := RX5) hg (by decide) rfl (Nat.le_of_ble_eq_true rfl) (fun p e s m args below meth c ls H locs cx hw hr hlk hl => ?_)
  have hx := cx.1
  have hb := cx.2.1
  have hown := cx.2.2.2.1
  have hts := cx.2.2.2.2.1
  have hl : lv_has ls 2 [(0, .ref (gg_o g 0)), (1, .int x1)] := hl
  replace hf := h_top hf
  unfold f_X5_smash at hf
  refine lv_aload_n hx hb dX5_smash_0 rfl (lv_at hl 0 rfl) ?_
  refine lv_iload_n hx hb dX5_smash_1 rfl (lv_at hl 1 rfl) ?_
  refine r_V_i (As := [.int x1]) (rest := []) cx hw hf hL.1.2.1 (by rw [hL.1.1]; rfl) lk_X5_123 (fun q1 hq => k_X5_isMirror l g hg  hL S x1 q1 hq) ⟨⟨rfl, rfl⟩, Nat.le_of_ble_eq_true rfl, Nat.le_of_ble_eq_true rfl⟩ rfl hl.1 rfl (Nat.le_of_ble_eq_true rfl) dX5_smash_2 ⟨Nat.zero_le _, Nat.zero_le _⟩ (fun q1 H locs hw hf => ?_)
  refine lv_if_eq hx hb dX5_smash_5 (tgt := 26) rfl (fun hc2 => ?_) (fun hc2 => ?_)
  · replace hf := h_pos hc2 hf
    refine lv_iconst (v := 0) hx hb dX5_smash_26 (by decide) ?_
    exact r_zretw cx hw hr hlk (Or.inl rfl) hf dX5_smash_27
  replace hf := h_neg hc2 hf
  refine lv_aload_n hx hb dX5_smash_8 rfl (lv_at hl 0 rfl) ?_
  refine gf_X5_39 cx hw hL.1 dX5_smash_9 ?_
  refine lv_iload_n hx hb dX5_smash_12 rfl (lv_at hl 1 rfl) ?_
  refine lv_aload_n hx hb dX5_smash_13 rfl (lv_at hl 0 rfl) ?_
  refine gf_X5_39 cx hw hL.1 dX5_smash_14 ?_
  refine gf_X5_147 cx hw (hL.2.2.2.1 0 (by decide)) dX5_smash_17 ?_
  refine r_VN_i (As := [.int x1, .int (st_I S (ky 10 1))]) (rest := []) cx hw hf (nw_at cx) (hL.2.2.2.1 0 (by decide)).2.1 (by rw [(hL.2.2.2.1 0 (by decide)).1]; rfl) lk_X5_135 (fun q3 hq => k_X0_isBroken l g hg 10 (hL.2.2.2.1 0 (by decide)) hL.2.2.2.2 S x1 (st_I S (ky 10 1)) q3 hq) ⟨⟨rfl, rfl⟩, Nat.le_of_ble_eq_true rfl, Nat.le_of_ble_eq_true rfl⟩ rfl hl.1 rfl (Nat.le_of_ble_eq_true rfl) dX5_smash_20 ⟨Nat.zero_le _, Nat.zero_le _⟩ (fun q3 H locs hw hf => ?_)
  refine lv_if_eq hx hb dX5_smash_23 (tgt := 28) rfl (fun hc4 => ?_) (fun hc4 => ?_)
  · replace hf := h_pos hc4 hf
    refine lv_aload_n hx hb dX5_smash_28 rfl (lv_at hl 0 rfl) ?_
    refine gf_X5_49 cx hw hL.1 dX5_smash_29 ?_
    refine lv_aload_n hx hb dX5_smash_32 rfl (lv_at hl 0 rfl) ?_
    refine gf_X5_39 cx hw hL.1 dX5_smash_33 ?_
    refine r_VN_v (As := [.ref (gg_o g 10)]) (rest := []) cx hw hf (nw_at cx) hL.2.2.1.2.1 (by rw [hL.2.2.1.1]; rfl) lk_X5_150 (fun q5 hq => k_X2_keep l g hg 10 hL.2.2.1 hL.2.2.2.2 (hL.2.2.2.1 0 (by decide)) S  q5 hq) ⟨⟨rfl, rfl⟩, Nat.le_of_ble_eq_true rfl, Nat.le_of_ble_eq_true rfl⟩ rfl hl.1 rfl (Nat.le_of_ble_eq_true rfl) dX5_smash_36 ⟨Nat.zero_le _, Nat.zero_le _⟩ (fun q5 H locs hw hf => ?_)
    refine lv_aload_n hx hb dX5_smash_39 rfl (lv_at hl 0 rfl) ?_
    refine gf_X5_39 cx hw hL.1 dX5_smash_40 ?_
    refine lv_iload_n hx hb dX5_smash_43 rfl (lv_at hl 1 rfl) ?_
    refine r_VN_v (As := [.int x1]) (rest := []) cx hw hf (nw_at cx) (hL.2.2.2.1 0 (by decide)).2.1 (by rw [(hL.2.2.2.1 0 (by decide)).1]; rfl) lk_X5_180 (fun q6 hq => k_X0_breakNow l g hg 10 (hL.2.2.2.1 0 (by decide)) hL.2.2.2.2 q5 x1 q6 hq) ⟨⟨rfl, rfl⟩, Nat.le_of_ble_eq_true rfl, Nat.le_of_ble_eq_true rfl⟩ rfl hl.1 rfl (Nat.le_of_ble_eq_true rfl) dX5_smash_44 ⟨Nat.zero_le _, Nat.zero_le _⟩ (fun q6 H locs hw hf => ?_)
    refine lv_iconst (v := 1) hx hb dX5_smash_47 (by decide) ?_
    exact r_zretw cx hw hr hlk (Or.inr rfl) hf dX5_smash_48
  replace hf := h_neg hc4 hf
  refine lv_iconst (v := 0) hx hb dX5_smash_26 (by decide) ?_
  exact r_zretw cx hw hr hlk (Or.inl rfl) hf dX5_smash_27
theorem dX5_undo_0 : decode cX5_undo 0 = .ok (.aload_n 0, 1) := by decide +kernel
theorem dX5_undo_1 : decode cX5_undo 1 = .ok (.getfield 49, 3) := by decide +kernel
theorem dX5_undo_4 : decode cX5_undo 4 = .ok (.aload_n 0, 1) := by decide +kernel
theorem dX5_undo_5 : decode cX5_undo 5 = .ok (.getfield 39, 3) := by decide +kernel
theorem dX5_undo_8 : decode cX5_undo 8 = .ok (.invokevirtual 183, 3) := by decide +kernel
theorem dX5_undo_11 : decode cX5_undo 11 = .ok (.ireturn, 1) := by decide +kernel
abbrev rm_X5_undo : Room := { frames := 6, cells := 0, slots := 0, locals := 188 }
def f_X5_undo (S : St)  : Option (Int32 × St) :=
  (f_X2_takeBack 10 S ).bind (fun (q1 : Int32 × St) => chk (isb q1.1) (some (q1.1, q1.2)))
set_option maxRecDepth 100000 in
set_option maxHeartbeats 4000000 in
theorem k_X5_undo (l : Launch) (g : GG) (hg : gd wd_C g)  (hL : hAll g) (S : St)  (q : Int32 × St) (hf : f_X5_undo  S  = some q) : Met l yX5_undo (Cond.code yX5_undo cX5_undo 1 (some .boolean) :: gw_tbl) rm_X5_undo (va_Pc [.ref (gg_o g 0)] (wI wd_C g S)) (qc_w wd_C g q) 0 0 (aw g) := by
  refine mt_start (own := RX5) hg (by decide) rfl (Nat.le_of_ble_eq_true rfl) (fun p e s m args below meth c ls H locs cx hw hr hlk hl => ?_)
  have hx := cx.1
  have hb := cx.2.1
  have hown := cx.2.2.2.1
  have hts := cx.2.2.2.2.1
  have hl : lv_has ls 1 [(0, .ref (gg_o g 0))] := hl
  replace hf := h_top hf
  unfold f_X5_undo at hf
  refine lv_aload_n hx hb dX5_undo_0 rfl (lv_at hl 0 rfl) ?_
  refine gf_X5_49 cx hw hL.1 dX5_undo_1 ?_
  refine lv_aload_n hx hb dX5_undo_4 rfl (lv_at hl 0 rfl) ?_
  refine gf_X5_39 cx hw hL.1 dX5_undo_5 ?_
  refine r_VN_w (As := [.ref (gg_o g 10)]) (rest := []) cx hw hf (nw_at cx) hL.2.2.1.2.1 (by rw [hL.2.2.1.1]; rfl) lk_X5_183 (fun q1 hq => k_X2_takeBack l g hg 10 hL.2.2.1 hL.2.2.2.2 (hL.2.2.2.1 0 (by decide)) S  q1 hq) ⟨⟨rfl, rfl⟩, Nat.le_of_ble_eq_true rfl, Nat.le_of_ble_eq_true rfl⟩ rfl hl.1 rfl (Nat.le_of_ble_eq_true rfl) dX5_undo_8 ⟨Nat.zero_le _, Nat.zero_le _⟩ (fun q1 H locs hw hf => ?_)
  obtain ⟨hc2, hf⟩ := h_chk hf
  exact r_zretw cx hw hr hlk hc2 hf dX5_undo_11
theorem dX5_look_0 : decode cX5_look 0 = .ok (.iload_n 3, 1) := by decide +kernel
theorem dX5_look_1 : decode cX5_look 1 = .ok (.iconst (-1), 1) := by decide +kernel
theorem dX5_look_2 : decode cX5_look 2 = .ok (.if_icmp .ne 7, 3) := by decide +kernel
theorem dX5_look_5 : decode cX5_look 5 = .ok (.iconst 1, 1) := by decide +kernel
theorem dX5_look_6 : decode cX5_look 6 = .ok (.goto 4, 3) := by decide +kernel
theorem dX5_look_9 : decode cX5_look 9 = .ok (.iconst 0, 1) := by decide +kernel
theorem dX5_look_10 : decode cX5_look 10 = .ok (.istore 5, 2) := by decide +kernel
theorem dX5_look_12 : decode cX5_look 12 = .ok (.aload_n 0, 1) := by decide +kernel
theorem dX5_look_13 : decode cX5_look 13 = .ok (.iload_n 1, 1) := by decide +kernel
theorem dX5_look_14 : decode cX5_look 14 = .ok (.invokevirtual 123, 3) := by decide +kernel
theorem dX5_look_17 : decode cX5_look 17 = .ok (.ifCond .eq 33, 3) := by decide +kernel
theorem dX5_look_20 : decode cX5_look 20 = .ok (.aload_n 0, 1) := by decide +kernel
theorem dX5_look_21 : decode cX5_look 21 = .ok (.iload_n 2, 1) := by decide +kernel
theorem dX5_look_22 : decode cX5_look 22 = .ok (.invokevirtual 123, 3) := by decide +kernel
theorem dX5_look_25 : decode cX5_look 25 = .ok (.ifCond .eq 25, 3) := by decide +kernel
theorem dX5_look_28 : decode cX5_look 28 = .ok (.iload 5, 2) := by decide +kernel
theorem dX5_look_30 : decode cX5_look 30 = .ok (.ifCond .ne 11, 3) := by decide +kernel
theorem dX5_look_33 : decode cX5_look 33 = .ok (.aload_n 0, 1) := by decide +kernel
theorem dX5_look_34 : decode cX5_look 34 = .ok (.iload_n 3, 1) := by decide +kernel
theorem dX5_look_35 : decode cX5_look 35 = .ok (.invokevirtual 123, 3) := by decide +kernel
theorem dX5_look_38 : decode cX5_look 38 = .ok (.ifCond .eq 12, 3) := by decide +kernel
theorem dX5_look_41 : decode cX5_look 41 = .ok (.iload 4, 2) := by decide +kernel
theorem dX5_look_43 : decode cX5_look 43 = .ok (.iconst 3, 1) := by decide +kernel
theorem dX5_look_44 : decode cX5_look 44 = .ok (.invokestatic 112, 3) := by decide +kernel
theorem dX5_look_47 : decode cX5_look 47 = .ok (.ifCond .ne 5, 3) := by decide +kernel
theorem dX5_look_50 : decode cX5_look 50 = .ok (.iconst (-1), 1) := by decide +kernel
theorem dX5_look_51 : decode cX5_look 51 = .ok (.ireturn, 1) := by decide +kernel
theorem dX5_look_52 : decode cX5_look 52 = .ok (.aload_n 0, 1) := by decide +kernel
theorem dX5_look_53 : decode cX5_look 53 = .ok (.getfield 39, 3) := by decide +kernel
theorem dX5_look_56 : decode cX5_look 56 = .ok (.iload_n 1, 1) := by decide +kernel
theorem dX5_look_57 : decode cX5_look 57 = .ok (.aload_n 0, 1) := by decide +kernel
theorem dX5_look_58 : decode cX5_look 58 = .ok (.getfield 39, 3) := by decide +kernel
theorem dX5_look_61 : decode cX5_look 61 = .ok (.iload_n 1, 1) := by decide +kernel
theorem dX5_look_62 : decode cX5_look 62 = .ok (.aload_n 0, 1) := by decide +kernel
theorem dX5_look_63 : decode cX5_look 63 = .ok (.getfield 39, 3) := by decide +kernel
theorem dX5_look_66 : decode cX5_look 66 = .ok (.getfield 147, 3) := by decide +kernel
theorem dX5_look_69 : decode cX5_look 69 = .ok (.invokevirtual 138, 3) := by decide +kernel
theorem dX5_look_72 : decode cX5_look 72 = .ok (.iload_n 2, 1) := by decide +kernel
theorem dX5_look_73 : decode cX5_look 73 = .ok (.invokevirtual 187, 3) := by decide +kernel
theorem dX5_look_76 : decode cX5_look 76 = .ok (.istore 6, 2) := by decide +kernel
theorem dX5_look_78 : decode cX5_look 78 = .ok (.iload_n 2, 1) := by decide +kernel
theorem dX5_look_79 : decode cX5_look 79 = .ok (.istore 7, 2) := by decide +kernel
theorem dX5_look_81 : decode cX5_look 81 = .ok (.iload 5, 2) := by decide +kernel
theorem dX5_look_83 : decode cX5_look 83 = .ok (.ifCond .ne 19, 3) := by decide +kernel
theorem dX5_look_86 : decode cX5_look 86 = .ok (.aload_n 0, 1) := by decide +kernel
theorem dX5_look_87 : decode cX5_look 87 = .ok (.getfield 39, 3) := by decide +kernel
theorem dX5_look_90 : decode cX5_look 90 = .ok (.iload_n 2, 1) := by decide +kernel
theorem dX5_look_91 : decode cX5_look 91 = .ok (.iload 6, 2) := by decide +kernel
theorem dX5_look_93 : decode cX5_look 93 = .ok (.iload_n 3, 1) := by decide +kernel
theorem dX5_look_94 : decode cX5_look 94 = .ok (.invokevirtual 187, 3) := by decide +kernel
theorem dX5_look_97 : decode cX5_look 97 = .ok (.istore 6, 2) := by decide +kernel
theorem dX5_look_99 : decode cX5_look 99 = .ok (.iload_n 3, 1) := by decide +kernel
theorem dX5_look_100 : decode cX5_look 100 = .ok (.istore 7, 2) := by decide +kernel
theorem dX5_look_102 : decode cX5_look 102 = .ok (.iload 6, 2) := by decide +kernel
theorem dX5_look_104 : decode cX5_look 104 = .ok (.ifCond .ge 6, 3) := by decide +kernel
theorem dX5_look_107 : decode cX5_look 107 = .ok (.bipush (-2), 2) := by decide +kernel
theorem dX5_look_109 : decode cX5_look 109 = .ok (.ireturn, 1) := by decide +kernel
theorem dX5_look_110 : decode cX5_look 110 = .ok (.aload_n 0, 1) := by decide +kernel
theorem dX5_look_111 : decode cX5_look 111 = .ok (.getfield 39, 3) := by decide +kernel
theorem dX5_look_114 : decode cX5_look 114 = .ok (.iload 7, 2) := by decide +kernel
theorem dX5_look_116 : decode cX5_look 116 = .ok (.iload 6, 2) := by decide +kernel
theorem dX5_look_118 : decode cX5_look 118 = .ok (.invokevirtual 126, 3) := by decide +kernel
theorem dX5_look_121 : decode cX5_look 121 = .ok (.istore 8, 2) := by decide +kernel
theorem dX5_look_123 : decode cX5_look 123 = .ok (.iload 4, 2) := by decide +kernel
theorem dX5_look_125 : decode cX5_look 125 = .ok (.ifCond .ne 8, 3) := by decide +kernel
theorem dX5_look_128 : decode cX5_look 128 = .ok (.iload 6, 2) := by decide +kernel
theorem dX5_look_130 : decode cX5_look 130 = .ok (.goto 25, 3) := by decide +kernel
theorem dX5_look_133 : decode cX5_look 133 = .ok (.iload 4, 2) := by decide +kernel
theorem dX5_look_135 : decode cX5_look 135 = .ok (.iconst 1, 1) := by decide +kernel
theorem dX5_look_136 : decode cX5_look 136 = .ok (.if_icmp .ne 8, 3) := by decide +kernel
theorem dX5_look_139 : decode cX5_look 139 = .ok (.iload 8, 2) := by decide +kernel
theorem dX5_look_141 : decode cX5_look 141 = .ok (.goto 14, 3) := by decide +kernel
theorem dX5_look_144 : decode cX5_look 144 = .ok (.aload_n 0, 1) := by decide +kernel
theorem dX5_look_145 : decode cX5_look 145 = .ok (.getfield 39, 3) := by decide +kernel
theorem dX5_look_148 : decode cX5_look 148 = .ok (.iload 8, 2) := by decide +kernel
theorem dX5_look_150 : decode cX5_look 150 = .ok (.iload 6, 2) := by decide +kernel
theorem dX5_look_152 : decode cX5_look 152 = .ok (.invokevirtual 191, 3) := by decide +kernel
theorem dX5_look_155 : decode cX5_look 155 = .ok (.ireturn, 1) := by decide +kernel
abbrev rm_X5_look : Room := { frames := 4, cells := 0, slots := 0, locals := 89 }
def f_X5_look_J102 (S : St) (x4 : Int32) (x6 : Int32) (x7 : Int32) : Option (Int32) :=
  if 0 ≤ x6 then ((f_X0_hangOf 10 S x7 x6).bind (fun (q13 : Int32) => if x4 = 0 then (some x6) else (if x4 = (1 : Int32) then (some q13) else ((f_X0_menIn 10 S q13 x6).bind (fun (q16 : Int32) => some q16))))) else (some (-2 : Int32))
def f_X5_look_J41 (S : St) (x1 : Int32) (x2 : Int32) (x3 : Int32) (x4 : Int32) (x5 : Int32) : Option (Int32) :=
  (f_X5_within   x4 (3 : Int32)).bind (fun (q7 : Int32) => if q7 = 0 then (some (-1 : Int32)) else ((f_X0_showing 10 S x1 (st_I S (ky 10 1))).bind (fun (q9 : Int32) => (f_X0_seenIn 10 S x1 q9 x2).bind (fun (q10 : Int32) => if x5 = 0 then ((f_X0_seenIn 10 S x2 q10 x3).bind (fun (q17 : Int32) => f_X5_look_J102  S x4 q17 x3)) else (f_X5_look_J102  S x4 q10 x2)))))
def f_X5_look_J10 (S : St) (x1 : Int32) (x2 : Int32) (x3 : Int32) (x4 : Int32) (y0 : Int32) : Option (Int32) :=
  (f_X5_isMirror  S x1).bind (fun (q2 : Int32) => if q2 = 0 then (some (-1 : Int32)) else ((f_X5_isMirror  S x2).bind (fun (q4 : Int32) => if q4 = 0 then (some (-1 : Int32)) else (if y0 = 0 then ((f_X5_isMirror  S x3).bind (fun (q18 : Int32) => if q18 = 0 then (some (-1 : Int32)) else (f_X5_look_J41  S x1 x2 x3 x4 y0))) else (f_X5_look_J41  S x1 x2 x3 x4 y0)))))
def f_X5_look (S : St) (x1 : Int32) (x2 : Int32) (x3 : Int32) (x4 : Int32) : Option (Int32) :=
  if x3 = (-1 : Int32) then (f_X5_look_J10  S x1 x2 x3 x4 (1 : Int32)) else (f_X5_look_J10  S x1 x2 x3 x4 (0 : Int32))
set_option maxRecDepth 100000 in
set_option maxHeartbeats 4000000 in
theorem k_X5_look (l : Launch) (g : GG) (hg : gd wd_C g)  (hL : hAll g) (S : St) (x1 : Int32) (x2 : Int32) (x3 : Int32) (x4 : Int32) (q : Int32) (hf : f_X5_look  S x1 x2 x3 x4 = some q) : Met l yX5_look (Cond.code yX5_look cX5_look 9 (some .int) :: gw_tbl) rm_X5_look (va_Pc [.ref (gg_o g 0), .int x1, .int x2, .int x3, .int x4] (wI wd_C g S)) (qc_i wd_C g S q) 0 0 (aw g) := by
  refine mt_start (own := RX5) hg (by decide) rfl (Nat.le_of_ble_eq_true rfl) (fun p e s m args below meth c ls H locs cx hw hr hlk hl => ?_)
  have hx := cx.1
  have hb := cx.2.1
  have hown := cx.2.2.2.1
  have hts := cx.2.2.2.2.1
  have hl : lv_has ls 9 [(0, .ref (gg_o g 0)), (1, .int x1), (2, .int x2), (3, .int x3), (4, .int x4)] := hl
  replace hf := h_top hf
  unfold f_X5_look at hf
  have J102 : ∀ (ls : Array Slot) (H : Heap) (locs : List Loc) (x4 : Int32) (x6 : Int32) (x7 : Int32), lv_has ls 9 [(0, .ref (gg_o g 0)), (4, .int x4), (6, .int x6), (7, .int x7)] → HH wd_C g s S H locs → (f_X5_look_J102  S x4 x6 x7).bind some = some q → W p l e rm_X5_look s m args below meth c H locs 0 0 (MQ below (qc_i wd_C g S q) args s 0 0 (aw g)) (F0 m 102 ls []) := by
    intro ls H locs x4 x6 x7 hl hw hf
    unfold f_X5_look_J102 at hf
    refine lv_iload hx hb dX5_look_102 (lv_at hl 2 rfl) ?_
    refine lv_if_ge hx hb dX5_look_104 (tgt := 110) rfl (fun hc12 => ?_) (fun hc12 => ?_)
    · replace hf := h_pos hc12 hf
      refine lv_aload_n hx hb dX5_look_110 rfl (lv_at hl 0 rfl) ?_
      refine gf_X5_39 cx hw hL.1 dX5_look_111 ?_
      refine lv_iload hx hb dX5_look_114 (lv_at hl 3 rfl) ?_
      refine lv_iload hx hb dX5_look_116 (lv_at hl 2 rfl) ?_
      refine r_VN_i (As := [.int x7, .int x6]) (rest := []) cx hw hf (nw_at cx) (hL.2.2.2.1 0 (by decide)).2.1 (by rw [(hL.2.2.2.1 0 (by decide)).1]; rfl) lk_X5_126 (fun q13 hq => k_X0_hangOf l g hg 10 (hL.2.2.2.1 0 (by decide)) hL.2.2.2.2 S x7 x6 q13 hq) ⟨⟨rfl, rfl⟩, Nat.le_of_ble_eq_true rfl, Nat.le_of_ble_eq_true rfl⟩ rfl hl.1 rfl (Nat.le_of_ble_eq_true rfl) dX5_look_118 ⟨Nat.zero_le _, Nat.zero_le _⟩ (fun q13 H locs hw hf => ?_)
      refine lv_istore hx hb dX5_look_121 hl (by decide) (lv' := [(8, .int q13), (0, .ref (gg_o g 0)), (4, .int x4), (6, .int x6), (7, .int x7)]) rfl (fun ls hl => ?_)
      refine lv_iload hx hb dX5_look_123 (lv_at hl 2 rfl) ?_
      refine lv_if_ne hx hb dX5_look_125 (tgt := 133) rfl (fun hc14 => ?_) (fun hc14 => ?_)
      · replace hf := h_neg hc14 hf
        refine lv_iload hx hb dX5_look_133 (lv_at hl 2 rfl) ?_
        refine lv_iconst (v := 1) hx hb dX5_look_135 (by decide) ?_
        refine lv_icmp_ne hx hb dX5_look_136 (tgt := 144) rfl (fun hc15 => ?_) (fun hc15 => ?_)
        · replace hf := h_neg hc15 hf
          refine lv_aload_n hx hb dX5_look_144 rfl (lv_at hl 1 rfl) ?_
          refine gf_X5_39 cx hw hL.1 dX5_look_145 ?_
          refine lv_iload hx hb dX5_look_148 (lv_at hl 0 rfl) ?_
          refine lv_iload hx hb dX5_look_150 (lv_at hl 3 rfl) ?_
          refine r_VN_i (As := [.int q13, .int x6]) (rest := []) cx hw hf (nw_at cx) (hL.2.2.2.1 0 (by decide)).2.1 (by rw [(hL.2.2.2.1 0 (by decide)).1]; rfl) lk_X5_191 (fun q16 hq => k_X0_menIn l g hg 10 (hL.2.2.2.1 0 (by decide)) hL.2.2.2.2 S q13 x6 q16 hq) ⟨⟨rfl, rfl⟩, Nat.le_of_ble_eq_true rfl, Nat.le_of_ble_eq_true rfl⟩ rfl hl.1 rfl (Nat.le_of_ble_eq_true rfl) dX5_look_152 ⟨Nat.zero_le _, Nat.zero_le _⟩ (fun q16 H locs hw hf => ?_)
          exact r_iret cx hw hr hlk hf dX5_look_155
        replace hf := h_pos hc15 hf
        refine lv_iload hx hb dX5_look_139 (lv_at hl 0 rfl) ?_
        refine lv_goto hx hb dX5_look_141 (tgt := 155) rfl ?_
        exact r_iret cx hw hr hlk hf dX5_look_155
      replace hf := h_pos hc14 hf
      refine lv_iload hx hb dX5_look_128 (lv_at hl 3 rfl) ?_
      refine lv_goto hx hb dX5_look_130 (tgt := 155) rfl ?_
      exact r_iret cx hw hr hlk hf dX5_look_155
    replace hf := h_neg hc12 hf
    refine lv_bipush (v := -2) hx hb dX5_look_107 (by decide) ?_
    exact r_iret cx hw hr hlk hf dX5_look_109
  have J41 : ∀ (ls : Array Slot) (H : Heap) (locs : List Loc) (x1 : Int32) (x2 : Int32) (x3 : Int32) (x4 : Int32) (x5 : Int32), lv_has ls 9 [(0, .ref (gg_o g 0)), (1, .int x1), (2, .int x2), (3, .int x3), (4, .int x4), (5, .int x5)] → HH wd_C g s S H locs → (f_X5_look_J41  S x1 x2 x3 x4 x5).bind some = some q → W p l e rm_X5_look s m args below meth c H locs 0 0 (MQ below (qc_i wd_C g S q) args s 0 0 (aw g)) (F0 m 41 ls []) := by
    intro ls H locs x1 x2 x3 x4 x5 hl hw hf
    unfold f_X5_look_J41 at hf
    refine lv_iload hx hb dX5_look_41 (lv_at hl 4 rfl) ?_
    refine lv_iconst (v := 3) hx hb dX5_look_43 (by decide) ?_
    refine r_S_i (As := [.int x4, .int (3 : Int32)]) (rest := []) cx hw hf lk_X5_112 (fun q7 hq => k_X5_within l g hg   S x4 (3 : Int32) q7 hq) ⟨⟨rfl, rfl⟩, Nat.le_of_ble_eq_true rfl, Nat.le_of_ble_eq_true rfl⟩ rfl hl.1 rfl (Nat.le_of_ble_eq_true rfl) dX5_look_44 ⟨Nat.zero_le _, Nat.zero_le _⟩ (fun q7 H locs hw hf => ?_)
    refine lv_if_ne hx hb dX5_look_47 (tgt := 52) rfl (fun hc8 => ?_) (fun hc8 => ?_)
    · replace hf := h_neg hc8 hf
      refine lv_aload_n hx hb dX5_look_52 rfl (lv_at hl 0 rfl) ?_
      refine gf_X5_39 cx hw hL.1 dX5_look_53 ?_
      refine lv_iload_n hx hb dX5_look_56 rfl (lv_at hl 1 rfl) ?_
      refine lv_aload_n hx hb dX5_look_57 rfl (lv_at hl 0 rfl) ?_
      refine gf_X5_39 cx hw hL.1 dX5_look_58 ?_
      refine lv_iload_n hx hb dX5_look_61 rfl (lv_at hl 1 rfl) ?_
      refine lv_aload_n hx hb dX5_look_62 rfl (lv_at hl 0 rfl) ?_
      refine gf_X5_39 cx hw hL.1 dX5_look_63 ?_
      refine gf_X5_147 cx hw (hL.2.2.2.1 0 (by decide)) dX5_look_66 ?_
      refine r_VN_i (As := [.int x1, .int (st_I S (ky 10 1))]) (rest := [.int x1, .ref (gg_o g 10)]) cx hw hf (nw_at cx) (hL.2.2.2.1 0 (by decide)).2.1 (by rw [(hL.2.2.2.1 0 (by decide)).1]; rfl) lk_X5_138 (fun q9 hq => k_X0_showing l g hg 10 (hL.2.2.2.1 0 (by decide)) hL.2.2.2.2 S x1 (st_I S (ky 10 1)) q9 hq) ⟨⟨rfl, rfl⟩, Nat.le_of_ble_eq_true rfl, Nat.le_of_ble_eq_true rfl⟩ rfl hl.1 rfl (Nat.le_of_ble_eq_true rfl) dX5_look_69 ⟨Nat.zero_le _, Nat.zero_le _⟩ (fun q9 H locs hw hf => ?_)
      refine lv_iload_n hx hb dX5_look_72 rfl (lv_at hl 2 rfl) ?_
      refine r_VN_i (As := [.int x1, .int q9, .int x2]) (rest := []) cx hw hf (nw_at cx) (hL.2.2.2.1 0 (by decide)).2.1 (by rw [(hL.2.2.2.1 0 (by decide)).1]; rfl) lk_X5_187 (fun q10 hq => k_X0_seenIn l g hg 10 (hL.2.2.2.1 0 (by decide)) hL.2.2.2.2 S x1 q9 x2 q10 hq) ⟨⟨rfl, rfl⟩, Nat.le_of_ble_eq_true rfl, Nat.le_of_ble_eq_true rfl⟩ rfl hl.1 rfl (Nat.le_of_ble_eq_true rfl) dX5_look_73 ⟨Nat.zero_le _, Nat.zero_le _⟩ (fun q10 H locs hw hf => ?_)
      refine lv_istore hx hb dX5_look_76 hl (by decide) (lv' := [(6, .int q10), (0, .ref (gg_o g 0)), (1, .int x1), (2, .int x2), (3, .int x3), (4, .int x4), (5, .int x5)]) rfl (fun ls hl => ?_)
      refine lv_iload_n hx hb dX5_look_78 rfl (lv_at hl 3 rfl) ?_
      refine lv_istore hx hb dX5_look_79 hl (by decide) (lv' := [(7, .int x2), (6, .int q10), (0, .ref (gg_o g 0)), (1, .int x1), (2, .int x2), (3, .int x3), (4, .int x4), (5, .int x5)]) rfl (fun ls hl => ?_)
      refine lv_iload hx hb dX5_look_81 (lv_at hl 7 rfl) ?_
      refine lv_if_ne hx hb dX5_look_83 (tgt := 102) rfl (fun hc11 => ?_) (fun hc11 => ?_)
      · replace hf := h_neg hc11 hf
        exact J102 _ _ _ x4 q10 x2 (lv_sub hl [2, 6, 1, 0] rfl) hw hf
      replace hf := h_pos hc11 hf
      refine lv_aload_n hx hb dX5_look_86 rfl (lv_at hl 2 rfl) ?_
      refine gf_X5_39 cx hw hL.1 dX5_look_87 ?_
      refine lv_iload_n hx hb dX5_look_90 rfl (lv_at hl 4 rfl) ?_
      refine lv_iload hx hb dX5_look_91 (lv_at hl 1 rfl) ?_
      refine lv_iload_n hx hb dX5_look_93 rfl (lv_at hl 5 rfl) ?_
      refine r_VN_i (As := [.int x2, .int q10, .int x3]) (rest := []) cx hw hf (nw_at cx) (hL.2.2.2.1 0 (by decide)).2.1 (by rw [(hL.2.2.2.1 0 (by decide)).1]; rfl) lk_X5_187 (fun q17 hq => k_X0_seenIn l g hg 10 (hL.2.2.2.1 0 (by decide)) hL.2.2.2.2 S x2 q10 x3 q17 hq) ⟨⟨rfl, rfl⟩, Nat.le_of_ble_eq_true rfl, Nat.le_of_ble_eq_true rfl⟩ rfl hl.1 rfl (Nat.le_of_ble_eq_true rfl) dX5_look_94 ⟨Nat.zero_le _, Nat.zero_le _⟩ (fun q17 H locs hw hf => ?_)
      refine lv_istore hx hb dX5_look_97 hl (by decide) (lv' := [(6, .int q17), (7, .int x2), (0, .ref (gg_o g 0)), (1, .int x1), (2, .int x2), (3, .int x3), (4, .int x4), (5, .int x5)]) rfl (fun ls hl => ?_)
      refine lv_iload_n hx hb dX5_look_99 rfl (lv_at hl 5 rfl) ?_
      refine lv_istore hx hb dX5_look_100 hl (by decide) (lv' := [(7, .int x3), (6, .int q17), (0, .ref (gg_o g 0)), (1, .int x1), (2, .int x2), (3, .int x3), (4, .int x4), (5, .int x5)]) rfl (fun ls hl => ?_)
      exact J102 _ _ _ x4 q17 x3 (lv_sub hl [2, 6, 1, 0] rfl) hw hf
    replace hf := h_pos hc8 hf
    refine lv_iconst (v := -1) hx hb dX5_look_50 (by decide) ?_
    exact r_iret cx hw hr hlk hf dX5_look_51
  have J10 : ∀ (ls : Array Slot) (H : Heap) (locs : List Loc) (x1 : Int32) (x2 : Int32) (x3 : Int32) (x4 : Int32) (y0 : Int32), lv_has ls 9 [(0, .ref (gg_o g 0)), (1, .int x1), (2, .int x2), (3, .int x3), (4, .int x4)] → HH wd_C g s S H locs → (f_X5_look_J10  S x1 x2 x3 x4 y0).bind some = some q → W p l e rm_X5_look s m args below meth c H locs 0 0 (MQ below (qc_i wd_C g S q) args s 0 0 (aw g)) (F0 m 10 ls [.int y0]) := by
    intro ls H locs x1 x2 x3 x4 y0 hl hw hf
    unfold f_X5_look_J10 at hf
    refine lv_istore hx hb dX5_look_10 hl (by decide) (lv' := [(5, .int y0), (0, .ref (gg_o g 0)), (1, .int x1), (2, .int x2), (3, .int x3), (4, .int x4)]) rfl (fun ls hl => ?_)
    refine lv_aload_n hx hb dX5_look_12 rfl (lv_at hl 1 rfl) ?_
    refine lv_iload_n hx hb dX5_look_13 rfl (lv_at hl 2 rfl) ?_
    refine r_V_i (As := [.int x1]) (rest := []) cx hw hf hL.1.2.1 (by rw [hL.1.1]; rfl) lk_X5_123 (fun q2 hq => k_X5_isMirror l g hg  hL S x1 q2 hq) ⟨⟨rfl, rfl⟩, Nat.le_of_ble_eq_true rfl, Nat.le_of_ble_eq_true rfl⟩ rfl hl.1 rfl (Nat.le_of_ble_eq_true rfl) dX5_look_14 ⟨Nat.zero_le _, Nat.zero_le _⟩ (fun q2 H locs hw hf => ?_)
    refine lv_if_eq hx hb dX5_look_17 (tgt := 50) rfl (fun hc3 => ?_) (fun hc3 => ?_)
    · replace hf := h_pos hc3 hf
      refine lv_iconst (v := -1) hx hb dX5_look_50 (by decide) ?_
      exact r_iret cx hw hr hlk hf dX5_look_51
    replace hf := h_neg hc3 hf
    refine lv_aload_n hx hb dX5_look_20 rfl (lv_at hl 1 rfl) ?_
    refine lv_iload_n hx hb dX5_look_21 rfl (lv_at hl 3 rfl) ?_
    refine r_V_i (As := [.int x2]) (rest := []) cx hw hf hL.1.2.1 (by rw [hL.1.1]; rfl) lk_X5_123 (fun q4 hq => k_X5_isMirror l g hg  hL S x2 q4 hq) ⟨⟨rfl, rfl⟩, Nat.le_of_ble_eq_true rfl, Nat.le_of_ble_eq_true rfl⟩ rfl hl.1 rfl (Nat.le_of_ble_eq_true rfl) dX5_look_22 ⟨Nat.zero_le _, Nat.zero_le _⟩ (fun q4 H locs hw hf => ?_)
    refine lv_if_eq hx hb dX5_look_25 (tgt := 50) rfl (fun hc5 => ?_) (fun hc5 => ?_)
    · replace hf := h_pos hc5 hf
      refine lv_iconst (v := -1) hx hb dX5_look_50 (by decide) ?_
      exact r_iret cx hw hr hlk hf dX5_look_51
    replace hf := h_neg hc5 hf
    refine lv_iload hx hb dX5_look_28 (lv_at hl 0 rfl) ?_
    refine lv_if_ne hx hb dX5_look_30 (tgt := 41) rfl (fun hc6 => ?_) (fun hc6 => ?_)
    · replace hf := h_neg hc6 hf
      exact J41 _ _ _ x1 x2 x3 x4 y0 (lv_sub hl [1, 2, 3, 4, 5, 0] rfl) hw hf
    replace hf := h_pos hc6 hf
    refine lv_aload_n hx hb dX5_look_33 rfl (lv_at hl 1 rfl) ?_
    refine lv_iload_n hx hb dX5_look_34 rfl (lv_at hl 4 rfl) ?_
    refine r_V_i (As := [.int x3]) (rest := []) cx hw hf hL.1.2.1 (by rw [hL.1.1]; rfl) lk_X5_123 (fun q18 hq => k_X5_isMirror l g hg  hL S x3 q18 hq) ⟨⟨rfl, rfl⟩, Nat.le_of_ble_eq_true rfl, Nat.le_of_ble_eq_true rfl⟩ rfl hl.1 rfl (Nat.le_of_ble_eq_true rfl) dX5_look_35 ⟨Nat.zero_le _, Nat.zero_le _⟩ (fun q18 H locs hw hf => ?_)
    refine lv_if_eq hx hb dX5_look_38 (tgt := 50) rfl (fun hc19 => ?_) (fun hc19 => ?_)
    · replace hf := h_pos hc19 hf
      refine lv_iconst (v := -1) hx hb dX5_look_50 (by decide) ?_
      exact r_iret cx hw hr hlk hf dX5_look_51
    replace hf := h_neg hc19 hf
    exact J41 _ _ _ x1 x2 x3 x4 y0 (lv_sub hl [1, 2, 3, 4, 5, 0] rfl) hw hf
  refine lv_iload_n hx hb dX5_look_0 rfl (lv_at hl 3 rfl) ?_
  refine lv_iconst (v := -1) hx hb dX5_look_1 (by decide) ?_
  refine lv_icmp_ne hx hb dX5_look_2 (tgt := 9) rfl (fun hc1 => ?_) (fun hc1 => ?_)
  · replace hf := h_neg hc1 hf
    refine lv_iconst (v := 0) hx hb dX5_look_9 (by decide) ?_
    exact J10 _ _ _ x1 x2 x3 x4 (0 : Int32) (lv_sub hl [0, 1, 2, 3, 4] rfl) hw hf
  replace hf := h_pos hc1 hf
  refine lv_iconst (v := 1) hx hb dX5_look_5 (by decide) ?_
  refine lv_goto hx hb dX5_look_6 (tgt := 10) rfl ?_
  exact J10 _ _ _ x1 x2 x3 x4 (1 : Int32) (lv_sub hl [0, 1, 2, 3, 4] rfl) hw hf
theorem dX5_facingMinute_0 : decode cX5_facingMinute 0 = .ok (.aload_n 0, 1) := by decide +kernel
theorem dX5_facingMinute_1 : decode cX5_facingMinute 1 = .ok (.getfield 39, 3) := by decide +kernel
theorem dX5_facingMinute_4 : decode cX5_facingMinute 4 = .ok (.iload_n 1, 1) := by decide +kernel
theorem dX5_facingMinute_5 : decode cX5_facingMinute 5 = .ok (.aload_n 0, 1) := by decide +kernel
theorem dX5_facingMinute_6 : decode cX5_facingMinute 6 = .ok (.getfield 39, 3) := by decide +kernel
theorem dX5_facingMinute_9 : decode cX5_facingMinute 9 = .ok (.getfield 147, 3) := by decide +kernel
theorem dX5_facingMinute_12 : decode cX5_facingMinute 12 = .ok (.invokevirtual 138, 3) := by decide +kernel
theorem dX5_facingMinute_15 : decode cX5_facingMinute 15 = .ok (.istore 4, 2) := by decide +kernel
theorem dX5_facingMinute_17 : decode cX5_facingMinute 17 = .ok (.iconst 1, 1) := by decide +kernel
theorem dX5_facingMinute_18 : decode cX5_facingMinute 18 = .ok (.istore 5, 2) := by decide +kernel
theorem dX5_facingMinute_20 : decode cX5_facingMinute 20 = .ok (.iload 5, 2) := by decide +kernel
theorem dX5_facingMinute_22 : decode cX5_facingMinute 22 = .ok (.iload_n 3, 1) := by decide +kernel
theorem dX5_facingMinute_23 : decode cX5_facingMinute 23 = .ok (.if_icmp .gt 55, 3) := by decide +kernel
theorem dX5_facingMinute_26 : decode cX5_facingMinute 26 = .ok (.iload 5, 2) := by decide +kernel
theorem dX5_facingMinute_28 : decode cX5_facingMinute 28 = .ok (.iconst 1, 1) := by decide +kernel
theorem dX5_facingMinute_29 : decode cX5_facingMinute 29 = .ok (.iand, 1) := by decide +kernel
theorem dX5_facingMinute_30 : decode cX5_facingMinute 30 = .ok (.iconst 1, 1) := by decide +kernel
theorem dX5_facingMinute_31 : decode cX5_facingMinute 31 = .ok (.if_icmp .ne 7, 3) := by decide +kernel
theorem dX5_facingMinute_34 : decode cX5_facingMinute 34 = .ok (.iconst 1, 1) := by decide +kernel
theorem dX5_facingMinute_35 : decode cX5_facingMinute 35 = .ok (.goto 4, 3) := by decide +kernel
theorem dX5_facingMinute_38 : decode cX5_facingMinute 38 = .ok (.iconst 0, 1) := by decide +kernel
theorem dX5_facingMinute_39 : decode cX5_facingMinute 39 = .ok (.istore 6, 2) := by decide +kernel
theorem dX5_facingMinute_41 : decode cX5_facingMinute 41 = .ok (.aload_n 0, 1) := by decide +kernel
theorem dX5_facingMinute_42 : decode cX5_facingMinute 42 = .ok (.getfield 39, 3) := by decide +kernel
theorem dX5_facingMinute_45 : decode cX5_facingMinute 45 = .ok (.iload 6, 2) := by decide +kernel
theorem dX5_facingMinute_47 : decode cX5_facingMinute 47 = .ok (.ifCond .eq 7, 3) := by decide +kernel
theorem dX5_facingMinute_50 : decode cX5_facingMinute 50 = .ok (.iload_n 1, 1) := by decide +kernel
theorem dX5_facingMinute_51 : decode cX5_facingMinute 51 = .ok (.goto 4, 3) := by decide +kernel
theorem dX5_facingMinute_54 : decode cX5_facingMinute 54 = .ok (.iload_n 2, 1) := by decide +kernel
theorem dX5_facingMinute_55 : decode cX5_facingMinute 55 = .ok (.iload 4, 2) := by decide +kernel
theorem dX5_facingMinute_57 : decode cX5_facingMinute 57 = .ok (.iload 6, 2) := by decide +kernel
theorem dX5_facingMinute_59 : decode cX5_facingMinute 59 = .ok (.ifCond .eq 7, 3) := by decide +kernel
theorem dX5_facingMinute_62 : decode cX5_facingMinute 62 = .ok (.iload_n 2, 1) := by decide +kernel
theorem dX5_facingMinute_63 : decode cX5_facingMinute 63 = .ok (.goto 4, 3) := by decide +kernel
theorem dX5_facingMinute_66 : decode cX5_facingMinute 66 = .ok (.iload_n 1, 1) := by decide +kernel
theorem dX5_facingMinute_67 : decode cX5_facingMinute 67 = .ok (.invokevirtual 187, 3) := by decide +kernel
theorem dX5_facingMinute_70 : decode cX5_facingMinute 70 = .ok (.istore 4, 2) := by decide +kernel
theorem dX5_facingMinute_72 : decode cX5_facingMinute 72 = .ok (.iinc 5 1, 3) := by decide +kernel
theorem dX5_facingMinute_75 : decode cX5_facingMinute 75 = .ok (.goto (-55), 3) := by decide +kernel
theorem dX5_facingMinute_78 : decode cX5_facingMinute 78 = .ok (.iload 4, 2) := by decide +kernel
theorem dX5_facingMinute_80 : decode cX5_facingMinute 80 = .ok (.ireturn, 1) := by decide +kernel
abbrev rm_X5_facingMinute : Room := { frames := 4, cells := 0, slots := 0, locals := 89 }
def f_X5_facingMinute_J67 (S : St) (x1 : Int32) (x2 : Int32) (x3 : Int32) (x5 : Int32) (y0 : Int32) (y1 : Int32) (y2 : Int32) : Option ((Int32 × Int32) ⊕ (Int32)) :=
  (f_X0_seenIn 10 S y2 y1 y0).bind (fun (q6 : Int32) => some (.inl (q6, (x5 + 1))))
def f_X5_facingMinute_J55 (S : St) (x1 : Int32) (x2 : Int32) (x3 : Int32) (x4 : Int32) (x5 : Int32) (x6 : Int32) (y0 : Int32) : Option ((Int32 × Int32) ⊕ (Int32)) :=
  if x6 = 0 then (f_X5_facingMinute_J67  S x1 x2 x3 x5 x1 x4 y0) else (f_X5_facingMinute_J67  S x1 x2 x3 x5 x2 x4 y0)
def f_X5_facingMinute_J39 (S : St) (x1 : Int32) (x2 : Int32) (x3 : Int32) (x4 : Int32) (x5 : Int32) (y0 : Int32) : Option ((Int32 × Int32) ⊕ (Int32)) :=
  if y0 = 0 then (f_X5_facingMinute_J55  S x1 x2 x3 x4 x5 y0 x2) else (f_X5_facingMinute_J55  S x1 x2 x3 x4 x5 y0 x1)
def f_X5_facingMinute_L20 (S : St) (x1 : Int32) (x2 : Int32) (x3 : Int32) (z20 : Int32 × Int32) : Option ((Int32 × Int32) ⊕ (Int32)) :=
  if x3 < z20.2 then (some (.inr z20.1)) else (if (z20.2 &&& (1 : Int32)) = (1 : Int32) then (f_X5_facingMinute_J39  S x1 x2 x3 z20.1 z20.2 (1 : Int32)) else (f_X5_facingMinute_J39  S x1 x2 x3 z20.1 z20.2 (0 : Int32)))
def f_X5_facingMinute (S : St) (x1 : Int32) (x2 : Int32) (x3 : Int32) : Option (Int32) :=
  (f_X0_showing 10 S x1 (st_I S (ky 10 1))).bind (fun (q1 : Int32) => iter (f_X5_facingMinute_L20  S x1 x2 x3) FU (q1, (1 : Int32)))
set_option maxRecDepth 100000 in
set_option maxHeartbeats 4000000 in
theorem k_X5_facingMinute (l : Launch) (g : GG) (hg : gd wd_C g)  (hL : hAll g) (S : St) (x1 : Int32) (x2 : Int32) (x3 : Int32) (q : Int32) (hf : f_X5_facingMinute  S x1 x2 x3 = some q) : Met l yX5_facingMinute (Cond.code yX5_facingMinute cX5_facingMinute 7 (some .int) :: gw_tbl) rm_X5_facingMinute (va_Pc [.ref (gg_o g 0), .int x1, .int x2, .int x3] (wI wd_C g S)) (qc_i wd_C g S q) 0 0 (aw g) := by
  refine mt_start (own := RX5) hg (by decide) rfl (Nat.le_of_ble_eq_true rfl) (fun p e s m args below meth c ls H locs cx hw hr hlk hl => ?_)
  have hx := cx.1
  have hb := cx.2.1
  have hown := cx.2.2.2.1
  have hts := cx.2.2.2.2.1
  have hl : lv_has ls 7 [(0, .ref (gg_o g 0)), (1, .int x1), (2, .int x2), (3, .int x3)] := hl
  replace hf := h_top hf
  unfold f_X5_facingMinute at hf
  refine lv_aload_n hx hb dX5_facingMinute_0 rfl (lv_at hl 0 rfl) ?_
  refine gf_X5_39 cx hw hL.1 dX5_facingMinute_1 ?_
  refine lv_iload_n hx hb dX5_facingMinute_4 rfl (lv_at hl 1 rfl) ?_
  refine lv_aload_n hx hb dX5_facingMinute_5 rfl (lv_at hl 0 rfl) ?_
  refine gf_X5_39 cx hw hL.1 dX5_facingMinute_6 ?_
  refine gf_X5_147 cx hw (hL.2.2.2.1 0 (by decide)) dX5_facingMinute_9 ?_
  refine r_VN_i (As := [.int x1, .int (st_I S (ky 10 1))]) (rest := []) cx hw hf (nw_at cx) (hL.2.2.2.1 0 (by decide)).2.1 (by rw [(hL.2.2.2.1 0 (by decide)).1]; rfl) lk_X5_138 (fun q1 hq => k_X0_showing l g hg 10 (hL.2.2.2.1 0 (by decide)) hL.2.2.2.2 S x1 (st_I S (ky 10 1)) q1 hq) ⟨⟨rfl, rfl⟩, Nat.le_of_ble_eq_true rfl, Nat.le_of_ble_eq_true rfl⟩ rfl hl.1 rfl (Nat.le_of_ble_eq_true rfl) dX5_facingMinute_12 ⟨Nat.zero_le _, Nat.zero_le _⟩ (fun q1 H locs hw hf => ?_)
  refine lv_istore hx hb dX5_facingMinute_15 hl (by decide) (lv' := [(4, .int q1), (0, .ref (gg_o g 0)), (1, .int x1), (2, .int x2), (3, .int x3)]) rfl (fun ls hl => ?_)
  refine lv_iconst (v := 1) hx hb dX5_facingMinute_17 (by decide) ?_
  refine lv_istore hx hb dX5_facingMinute_18 hl (by decide) (lv' := [(5, .int (1 : Int32)), (4, .int q1), (0, .ref (gg_o g 0)), (1, .int x1), (2, .int x2), (3, .int x3)]) rfl (fun ls hl => ?_)
  have L20 : ∀ (x1 : Int32) (x2 : Int32) (x3 : Int32) (aft20 : Int32 → Option (Int32)), (∀ v : Int32, aft20 v = some q → (some v : Option (Int32)).bind some = some q) → ∀ (n20 : Nat) (ls : Array Slot) (H : Heap) (locs : List Loc) (z20 : Int32 × Int32), lv_has ls 7 [(0, .ref (gg_o g 0)), (1, .int x1), (2, .int x2), (3, .int x3), (4, .int z20.1), (5, .int z20.2)] → HH wd_C g s S H locs → (iter (f_X5_facingMinute_L20  S x1 x2 x3) n20 z20).bind aft20 = some q → W p l e rm_X5_facingMinute s m args below meth c H locs 0 0 (MQ below (qc_i wd_C g S q) args s 0 0 (aw g)) (F0 m 20 ls []) := by
    intro x1 x2 x3 aft20 hR20 n20
    induction n20 with
    | zero => intro ls H locs z20 hl hw hf; exact h_iter0 hf
    | succ n20 ih20 =>
      intro ls H locs z20 hl hw hf
      replace hf := h_iter hf
      unfold f_X5_facingMinute_L20 at hf
      have J67 : ∀ (ls : Array Slot) (H : Heap) (locs : List Loc) (x5 : Int32) (y0 : Int32) (y1 : Int32) (y2 : Int32), lv_has ls 7 [(0, .ref (gg_o g 0)), (1, .int x1), (2, .int x2), (3, .int x3), (5, .int x5)] → HH wd_C g s S H locs → (f_X5_facingMinute_J67  S x1 x2 x3 x5 y0 y1 y2).bind (it_K (f_X5_facingMinute_L20  S x1 x2 x3) n20 aft20) = some q → W p l e rm_X5_facingMinute s m args below meth c H locs 0 0 (MQ below (qc_i wd_C g S q) args s 0 0 (aw g)) (F0 m 67 ls [.int y0, .int y1, .int y2, .ref (gg_o g 10)]) := by
        intro ls H locs x5 y0 y1 y2 hl hw hf
        unfold f_X5_facingMinute_J67 at hf
        refine r_VN_i (As := [.int y2, .int y1, .int y0]) (rest := []) cx hw hf (nw_at cx) (hL.2.2.2.1 0 (by decide)).2.1 (by rw [(hL.2.2.2.1 0 (by decide)).1]; rfl) lk_X5_187 (fun q6 hq => k_X0_seenIn l g hg 10 (hL.2.2.2.1 0 (by decide)) hL.2.2.2.2 S y2 y1 y0 q6 hq) ⟨⟨rfl, rfl⟩, Nat.le_of_ble_eq_true rfl, Nat.le_of_ble_eq_true rfl⟩ rfl hl.1 rfl (Nat.le_of_ble_eq_true rfl) dX5_facingMinute_67 ⟨Nat.zero_le _, Nat.zero_le _⟩ (fun q6 H locs hw hf => ?_)
        refine lv_istore hx hb dX5_facingMinute_70 hl (by decide) (lv' := [(4, .int q6), (0, .ref (gg_o g 0)), (1, .int x1), (2, .int x2), (3, .int x3), (5, .int x5)]) rfl (fun ls hl => ?_)
        refine lv_iinc hx hb dX5_facingMinute_72 hl (k := 5) rfl (congrArg (HAdd.hAdd _) (show Int32.ofInt (1) = 1 by decide)) (by decide) (lv' := [(5, .int (x5 + 1)), (4, .int q6), (0, .ref (gg_o g 0)), (1, .int x1), (2, .int x2), (3, .int x3)]) rfl (fun ls hl => ?_)
        refine lv_goto hx hb dX5_facingMinute_75 (tgt := 20) rfl ?_
        exact ih20 _ _ _ (q6, (x5 + 1)) (lv_sub hl [2, 3, 4, 5, 1, 0] rfl) hw hf
      have J55 : ∀ (ls : Array Slot) (H : Heap) (locs : List Loc) (x4 : Int32) (x5 : Int32) (x6 : Int32) (y0 : Int32), lv_has ls 7 [(0, .ref (gg_o g 0)), (1, .int x1), (2, .int x2), (3, .int x3), (4, .int x4), (5, .int x5), (6, .int x6)] → HH wd_C g s S H locs → (f_X5_facingMinute_J55  S x1 x2 x3 x4 x5 x6 y0).bind (it_K (f_X5_facingMinute_L20  S x1 x2 x3) n20 aft20) = some q → W p l e rm_X5_facingMinute s m args below meth c H locs 0 0 (MQ below (qc_i wd_C g S q) args s 0 0 (aw g)) (F0 m 55 ls [.int y0, .ref (gg_o g 10)]) := by
        intro ls H locs x4 x5 x6 y0 hl hw hf
        unfold f_X5_facingMinute_J55 at hf
        refine lv_iload hx hb dX5_facingMinute_55 (lv_at hl 4 rfl) ?_
        refine lv_iload hx hb dX5_facingMinute_57 (lv_at hl 6 rfl) ?_
        refine lv_if_eq hx hb dX5_facingMinute_59 (tgt := 66) rfl (fun hc5 => ?_) (fun hc5 => ?_)
        · replace hf := h_pos hc5 hf
          refine lv_iload_n hx hb dX5_facingMinute_66 rfl (lv_at hl 1 rfl) ?_
          exact J67 _ _ _ x5 x1 x4 y0 (lv_sub hl [0, 1, 2, 3, 5] rfl) hw hf
        replace hf := h_neg hc5 hf
        refine lv_iload_n hx hb dX5_facingMinute_62 rfl (lv_at hl 2 rfl) ?_
        refine lv_goto hx hb dX5_facingMinute_63 (tgt := 67) rfl ?_
        exact J67 _ _ _ x5 x2 x4 y0 (lv_sub hl [0, 1, 2, 3, 5] rfl) hw hf
      have J39 : ∀ (ls : Array Slot) (H : Heap) (locs : List Loc) (x4 : Int32) (x5 : Int32) (y0 : Int32), lv_has ls 7 [(0, .ref (gg_o g 0)), (1, .int x1), (2, .int x2), (3, .int x3), (4, .int x4), (5, .int x5)] → HH wd_C g s S H locs → (f_X5_facingMinute_J39  S x1 x2 x3 x4 x5 y0).bind (it_K (f_X5_facingMinute_L20  S x1 x2 x3) n20 aft20) = some q → W p l e rm_X5_facingMinute s m args below meth c H locs 0 0 (MQ below (qc_i wd_C g S q) args s 0 0 (aw g)) (F0 m 39 ls [.int y0]) := by
        intro ls H locs x4 x5 y0 hl hw hf
        unfold f_X5_facingMinute_J39 at hf
        refine lv_istore hx hb dX5_facingMinute_39 hl (by decide) (lv' := [(6, .int y0), (0, .ref (gg_o g 0)), (1, .int x1), (2, .int x2), (3, .int x3), (4, .int x4), (5, .int x5)]) rfl (fun ls hl => ?_)
        refine lv_aload_n hx hb dX5_facingMinute_41 rfl (lv_at hl 1 rfl) ?_
        refine gf_X5_39 cx hw hL.1 dX5_facingMinute_42 ?_
        refine lv_iload hx hb dX5_facingMinute_45 (lv_at hl 0 rfl) ?_
        refine lv_if_eq hx hb dX5_facingMinute_47 (tgt := 54) rfl (fun hc4 => ?_) (fun hc4 => ?_)
        · replace hf := h_pos hc4 hf
          refine lv_iload_n hx hb dX5_facingMinute_54 rfl (lv_at hl 3 rfl) ?_
          exact J55 _ _ _ x4 x5 y0 x2 (lv_sub hl [1, 2, 3, 4, 5, 6, 0] rfl) hw hf
        replace hf := h_neg hc4 hf
        refine lv_iload_n hx hb dX5_facingMinute_50 rfl (lv_at hl 2 rfl) ?_
        refine lv_goto hx hb dX5_facingMinute_51 (tgt := 55) rfl ?_
        exact J55 _ _ _ x4 x5 y0 x1 (lv_sub hl [1, 2, 3, 4, 5, 6, 0] rfl) hw hf
      refine lv_iload hx hb dX5_facingMinute_20 (lv_at hl 5 rfl) ?_
      refine lv_iload_n hx hb dX5_facingMinute_22 rfl (lv_at hl 3 rfl) ?_
      refine lv_icmp_gt hx hb dX5_facingMinute_23 (tgt := 78) rfl (fun hc2 => ?_) (fun hc2 => ?_)
      · replace hf := h_pos hc2 hf
        refine lv_iload hx hb dX5_facingMinute_78 (lv_at hl 4 rfl) ?_
        replace hf := hR20 z20.1 hf
        exact r_iret cx hw hr hlk hf dX5_facingMinute_80
      replace hf := h_neg hc2 hf
      refine lv_iload hx hb dX5_facingMinute_26 (lv_at hl 5 rfl) ?_
      refine lv_iconst (v := 1) hx hb dX5_facingMinute_28 (by decide) ?_
      refine lv_iand hx hb dX5_facingMinute_29 ?_
      refine lv_iconst (v := 1) hx hb dX5_facingMinute_30 (by decide) ?_
      refine lv_icmp_ne hx hb dX5_facingMinute_31 (tgt := 38) rfl (fun hc3 => ?_) (fun hc3 => ?_)
      · replace hf := h_neg hc3 hf
        refine lv_iconst (v := 0) hx hb dX5_facingMinute_38 (by decide) ?_
        exact J39 _ _ _ z20.1 z20.2 (0 : Int32) (lv_sub hl [0, 1, 2, 3, 4, 5] rfl) hw hf
      replace hf := h_pos hc3 hf
      refine lv_iconst (v := 1) hx hb dX5_facingMinute_34 (by decide) ?_
      refine lv_goto hx hb dX5_facingMinute_35 (tgt := 39) rfl ?_
      exact J39 _ _ _ z20.1 z20.2 (1 : Int32) (lv_sub hl [0, 1, 2, 3, 4, 5] rfl) hw hf
  exact L20 x1 x2 x3 some (fun v h => h) FU _ _ _ (q1, (1 : Int32)) (lv_sub hl [2, 3, 4, 5, 1, 0] rfl) hw hf
theorem dX5_facingTimes_0 : decode cX5_facingTimes 0 = .ok (.iconst 0, 1) := by decide +kernel
theorem dX5_facingTimes_1 : decode cX5_facingTimes 1 = .ok (.istore_n 3, 1) := by decide +kernel
theorem dX5_facingTimes_2 : decode cX5_facingTimes 2 = .ok (.iload_n 3, 1) := by decide +kernel
theorem dX5_facingTimes_3 : decode cX5_facingTimes 3 = .ok (.bipush 20, 2) := by decide +kernel
theorem dX5_facingTimes_5 : decode cX5_facingTimes 5 = .ok (.if_icmp .ge 21, 3) := by decide +kernel
theorem dX5_facingTimes_8 : decode cX5_facingTimes 8 = .ok (.aload_n 0, 1) := by decide +kernel
theorem dX5_facingTimes_9 : decode cX5_facingTimes 9 = .ok (.iload_n 1, 1) := by decide +kernel
theorem dX5_facingTimes_10 : decode cX5_facingTimes 10 = .ok (.iload_n 2, 1) := by decide +kernel
theorem dX5_facingTimes_11 : decode cX5_facingTimes 11 = .ok (.iload_n 3, 1) := by decide +kernel
theorem dX5_facingTimes_12 : decode cX5_facingTimes 12 = .ok (.invokevirtual 197, 3) := by decide +kernel
theorem dX5_facingTimes_15 : decode cX5_facingTimes 15 = .ok (.ifCond .ge 5, 3) := by decide +kernel
theorem dX5_facingTimes_18 : decode cX5_facingTimes 18 = .ok (.iload_n 3, 1) := by decide +kernel
theorem dX5_facingTimes_19 : decode cX5_facingTimes 19 = .ok (.ireturn, 1) := by decide +kernel
theorem dX5_facingTimes_20 : decode cX5_facingTimes 20 = .ok (.iinc 3 1, 3) := by decide +kernel
theorem dX5_facingTimes_23 : decode cX5_facingTimes 23 = .ok (.goto (-21), 3) := by decide +kernel
theorem dX5_facingTimes_26 : decode cX5_facingTimes 26 = .ok (.bipush 20, 2) := by decide +kernel
theorem dX5_facingTimes_28 : decode cX5_facingTimes 28 = .ok (.ireturn, 1) := by decide +kernel
abbrev rm_X5_facingTimes : Room := { frames := 5, cells := 0, slots := 0, locals := 115 }
def f_X5_facingTimes_L2 (S : St) (x1 : Int32) (x2 : Int32) (z2 : Int32) : Option ((Int32) ⊕ (Int32)) :=
  if (20 : Int32) ≤ z2 then (some (.inr (20 : Int32))) else ((f_X5_facingMinute  S x1 x2 z2).bind (fun (q2 : Int32) => if 0 ≤ q2 then (some (.inl (z2 + 1))) else (some (.inr z2))))
def f_X5_facingTimes (S : St) (x1 : Int32) (x2 : Int32) : Option (Int32) :=
  iter (f_X5_facingTimes_L2  S x1 x2) FU (0 : Int32)
set_option maxRecDepth 100000 in
set_option maxHeartbeats 4000000 in
theorem k_X5_facingTimes (l : Launch) (g : GG) (hg : gd wd_C g)  (hL : hAll g) (S : St) (x1 : Int32) (x2 : Int32) (q : Int32) (hf : f_X5_facingTimes  S x1 x2 = some q) : Met l yX5_facingTimes (Cond.code yX5_facingTimes cX5_facingTimes 4 (some .int) :: gw_tbl) rm_X5_facingTimes (va_Pc [.ref (gg_o g 0), .int x1, .int x2] (wI wd_C g S)) (qc_i wd_C g S q) 0 0 (aw g) := by
  refine mt_start (own := RX5) hg (by decide) rfl (Nat.le_of_ble_eq_true rfl) (fun p e s m args below meth c ls H locs cx hw hr hlk hl => ?_)
  have hx := cx.1
  have hb := cx.2.1
  have hown := cx.2.2.2.1
  have hts := cx.2.2.2.2.1
  have hl : lv_has ls 4 [(0, .ref (gg_o g 0)), (1, .int x1), (2, .int x2)] := hl
  replace hf := h_top hf
  unfold f_X5_facingTimes at hf
  refine lv_iconst (v := 0) hx hb dX5_facingTimes_0 (by decide) ?_
  refine lv_istore_n hx hb dX5_facingTimes_1 rfl hl (by decide) (lv' := [(3, .int (0 : Int32)), (0, .ref (gg_o g 0)), (1, .int x1), (2, .int x2)]) rfl (fun ls hl => ?_)
  have L2 : ∀ (x1 : Int32) (x2 : Int32) (aft2 : Int32 → Option (Int32)), (∀ v : Int32, aft2 v = some q → (some v : Option (Int32)).bind some = some q) → ∀ (n2 : Nat) (ls : Array Slot) (H : Heap) (locs : List Loc) (z2 : Int32), lv_has ls 4 [(0, .ref (gg_o g 0)), (1, .int x1), (2, .int x2), (3, .int z2)] → HH wd_C g s S H locs → (iter (f_X5_facingTimes_L2  S x1 x2) n2 z2).bind aft2 = some q → W p l e rm_X5_facingTimes s m args below meth c H locs 0 0 (MQ below (qc_i wd_C g S q) args s 0 0 (aw g)) (F0 m 2 ls []) := by
    intro x1 x2 aft2 hR2 n2
    induction n2 with
    | zero => intro ls H locs z2 hl hw hf; exact h_iter0 hf
    | succ n2 ih2 =>
      intro ls H locs z2 hl hw hf
      replace hf := h_iter hf
      unfold f_X5_facingTimes_L2 at hf
      refine lv_iload_n hx hb dX5_facingTimes_2 rfl (lv_at hl 3 rfl) ?_
      refine lv_bipush (v := 20) hx hb dX5_facingTimes_3 (by decide) ?_
      refine lv_icmp_ge hx hb dX5_facingTimes_5 (tgt := 26) rfl (fun hc1 => ?_) (fun hc1 => ?_)
      · replace hf := h_pos hc1 hf
        refine lv_bipush (v := 20) hx hb dX5_facingTimes_26 (by decide) ?_
        replace hf := hR2 (20 : Int32) hf
        exact r_iret cx hw hr hlk hf dX5_facingTimes_28
      replace hf := h_neg hc1 hf
      refine lv_aload_n hx hb dX5_facingTimes_8 rfl (lv_at hl 0 rfl) ?_
      refine lv_iload_n hx hb dX5_facingTimes_9 rfl (lv_at hl 1 rfl) ?_
      refine lv_iload_n hx hb dX5_facingTimes_10 rfl (lv_at hl 2 rfl) ?_
      refine lv_iload_n hx hb dX5_facingTimes_11 rfl (lv_at hl 3 rfl) ?_
      refine r_V_i (As := [.int x1, .int x2, .int z2]) (rest := []) cx hw hf hL.1.2.1 (by rw [hL.1.1]; rfl) lk_X5_197 (fun q2 hq => k_X5_facingMinute l g hg  hL S x1 x2 z2 q2 hq) ⟨⟨rfl, rfl⟩, Nat.le_of_ble_eq_true rfl, Nat.le_of_ble_eq_true rfl⟩ rfl hl.1 rfl (Nat.le_of_ble_eq_true rfl) dX5_facingTimes_12 ⟨Nat.zero_le _, Nat.zero_le _⟩ (fun q2 H locs hw hf => ?_)
      refine lv_if_ge hx hb dX5_facingTimes_15 (tgt := 20) rfl (fun hc3 => ?_) (fun hc3 => ?_)
      · replace hf := h_pos hc3 hf
        refine lv_iinc hx hb dX5_facingTimes_20 hl (k := 3) rfl (congrArg (HAdd.hAdd _) (show Int32.ofInt (1) = 1 by decide)) (by decide) (lv' := [(3, .int (z2 + 1)), (0, .ref (gg_o g 0)), (1, .int x1), (2, .int x2)]) rfl (fun ls hl => ?_)
        refine lv_goto hx hb dX5_facingTimes_23 (tgt := 2) rfl ?_
        exact ih2 _ _ _ (z2 + 1) (lv_sub hl [1, 2, 3, 0] rfl) hw hf
      replace hf := h_neg hc3 hf
      refine lv_iload_n hx hb dX5_facingTimes_18 rfl (lv_at hl 3 rfl) ?_
      replace hf := hR2 z2 hf
      exact r_iret cx hw hr hlk hf dX5_facingTimes_19
  exact L2 x1 x2 some (fun v h => h) FU _ _ _ (0 : Int32) (lv_sub hl [1, 2, 3, 0] rfl) hw hf
theorem dX5_facing_0 : decode cX5_facing 0 = .ok (.aload_n 0, 1) := by decide +kernel
theorem dX5_facing_1 : decode cX5_facing 1 = .ok (.iload_n 1, 1) := by decide +kernel
theorem dX5_facing_2 : decode cX5_facing 2 = .ok (.invokevirtual 123, 3) := by decide +kernel
theorem dX5_facing_5 : decode cX5_facing 5 = .ok (.ifCond .eq 16, 3) := by decide +kernel
theorem dX5_facing_8 : decode cX5_facing 8 = .ok (.aload_n 0, 1) := by decide +kernel
theorem dX5_facing_9 : decode cX5_facing 9 = .ok (.iload_n 2, 1) := by decide +kernel
theorem dX5_facing_10 : decode cX5_facing 10 = .ok (.invokevirtual 123, 3) := by decide +kernel
theorem dX5_facing_13 : decode cX5_facing 13 = .ok (.ifCond .eq 8, 3) := by decide +kernel
theorem dX5_facing_16 : decode cX5_facing 16 = .ok (.iload_n 1, 1) := by decide +kernel
theorem dX5_facing_17 : decode cX5_facing 17 = .ok (.iload_n 2, 1) := by decide +kernel
theorem dX5_facing_18 : decode cX5_facing 18 = .ok (.if_icmp .ne 5, 3) := by decide +kernel
theorem dX5_facing_21 : decode cX5_facing 21 = .ok (.iconst (-1), 1) := by decide +kernel
theorem dX5_facing_22 : decode cX5_facing 22 = .ok (.ireturn, 1) := by decide +kernel
theorem dX5_facing_23 : decode cX5_facing 23 = .ok (.iload_n 3, 1) := by decide +kernel
theorem dX5_facing_24 : decode cX5_facing 24 = .ok (.iconst (-1), 1) := by decide +kernel
theorem dX5_facing_25 : decode cX5_facing 25 = .ok (.if_icmp .ne 10, 3) := by decide +kernel
theorem dX5_facing_28 : decode cX5_facing 28 = .ok (.aload_n 0, 1) := by decide +kernel
theorem dX5_facing_29 : decode cX5_facing 29 = .ok (.iload_n 1, 1) := by decide +kernel
theorem dX5_facing_30 : decode cX5_facing 30 = .ok (.iload_n 2, 1) := by decide +kernel
theorem dX5_facing_31 : decode cX5_facing 31 = .ok (.invokevirtual 194, 3) := by decide +kernel
theorem dX5_facing_34 : decode cX5_facing 34 = .ok (.ireturn, 1) := by decide +kernel
theorem dX5_facing_35 : decode cX5_facing 35 = .ok (.iload_n 3, 1) := by decide +kernel
theorem dX5_facing_36 : decode cX5_facing 36 = .ok (.bipush 20, 2) := by decide +kernel
theorem dX5_facing_38 : decode cX5_facing 38 = .ok (.invokestatic 112, 3) := by decide +kernel
theorem dX5_facing_41 : decode cX5_facing 41 = .ok (.ifCond .ne 5, 3) := by decide +kernel
theorem dX5_facing_44 : decode cX5_facing 44 = .ok (.iconst (-1), 1) := by decide +kernel
theorem dX5_facing_45 : decode cX5_facing 45 = .ok (.ireturn, 1) := by decide +kernel
theorem dX5_facing_46 : decode cX5_facing 46 = .ok (.aload_n 0, 1) := by decide +kernel
theorem dX5_facing_47 : decode cX5_facing 47 = .ok (.iload_n 1, 1) := by decide +kernel
theorem dX5_facing_48 : decode cX5_facing 48 = .ok (.iload_n 2, 1) := by decide +kernel
theorem dX5_facing_49 : decode cX5_facing 49 = .ok (.iload_n 3, 1) := by decide +kernel
theorem dX5_facing_50 : decode cX5_facing 50 = .ok (.invokevirtual 197, 3) := by decide +kernel
theorem dX5_facing_53 : decode cX5_facing 53 = .ok (.istore 4, 2) := by decide +kernel
theorem dX5_facing_55 : decode cX5_facing 55 = .ok (.iload 4, 2) := by decide +kernel
theorem dX5_facing_57 : decode cX5_facing 57 = .ok (.ifCond .ge 7, 3) := by decide +kernel
theorem dX5_facing_60 : decode cX5_facing 60 = .ok (.iconst (-1), 1) := by decide +kernel
theorem dX5_facing_61 : decode cX5_facing 61 = .ok (.goto 5, 3) := by decide +kernel
theorem dX5_facing_64 : decode cX5_facing 64 = .ok (.iload 4, 2) := by decide +kernel
theorem dX5_facing_66 : decode cX5_facing 66 = .ok (.ireturn, 1) := by decide +kernel
abbrev rm_X5_facing : Room := { frames := 6, cells := 0, slots := 0, locals := 138 }
def f_X5_facing (S : St) (x1 : Int32) (x2 : Int32) (x3 : Int32) : Option (Int32) :=
  (f_X5_isMirror  S x1).bind (fun (q1 : Int32) => if q1 = 0 then (some (-1 : Int32)) else ((f_X5_isMirror  S x2).bind (fun (q3 : Int32) => if q3 = 0 then (some (-1 : Int32)) else (if x1 = x2 then (some (-1 : Int32)) else (if x3 = (-1 : Int32) then ((f_X5_facingTimes  S x1 x2).bind (fun (q11 : Int32) => some q11)) else ((f_X5_within   x3 (20 : Int32)).bind (fun (q7 : Int32) => if q7 = 0 then (some (-1 : Int32)) else ((f_X5_facingMinute  S x1 x2 x3).bind (fun (q9 : Int32) => if 0 ≤ q9 then (some q9) else (some (-1 : Int32)))))))))))
set_option maxRecDepth 100000 in
set_option maxHeartbeats 4000000 in
theorem k_X5_facing (l : Launch) (g : GG) (hg : gd wd_C g)  (hL : hAll g) (S : St) (x1 : Int32) (x2 : Int32) (x3 : Int32) (q : Int32) (hf : f_X5_facing  S x1 x2 x3 = some q) : Met l yX5_facing (Cond.code yX5_facing cX5_facing 5 (some .int) :: gw_tbl) rm_X5_facing (va_Pc [.ref (gg_o g 0), .int x1, .int x2, .int x3] (wI wd_C g S)) (qc_i wd_C g S q) 0 0 (aw g) := by
  refine mt_start (own := RX5) hg (by decide) rfl (Nat.le_of_ble_eq_true rfl) (fun p e s m args below meth c ls H locs cx hw hr hlk hl => ?_)
  have hx := cx.1
  have hb := cx.2.1
  have hown := cx.2.2.2.1
  have hts := cx.2.2.2.2.1
  have hl : lv_has ls 5 [(0, .ref (gg_o g 0)), (1, .int x1), (2, .int x2), (3, .int x3)] := hl
  replace hf := h_top hf
  unfold f_X5_facing at hf
  refine lv_aload_n hx hb dX5_facing_0 rfl (lv_at hl 0 rfl) ?_
  refine lv_iload_n hx hb dX5_facing_1 rfl (lv_at hl 1 rfl) ?_
  refine r_V_i (As := [.int x1]) (rest := []) cx hw hf hL.1.2.1 (by rw [hL.1.1]; rfl) lk_X5_123 (fun q1 hq => k_X5_isMirror l g hg  hL S x1 q1 hq) ⟨⟨rfl, rfl⟩, Nat.le_of_ble_eq_true rfl, Nat.le_of_ble_eq_true rfl⟩ rfl hl.1 rfl (Nat.le_of_ble_eq_true rfl) dX5_facing_2 ⟨Nat.zero_le _, Nat.zero_le _⟩ (fun q1 H locs hw hf => ?_)
  refine lv_if_eq hx hb dX5_facing_5 (tgt := 21) rfl (fun hc2 => ?_) (fun hc2 => ?_)
  · replace hf := h_pos hc2 hf
    refine lv_iconst (v := -1) hx hb dX5_facing_21 (by decide) ?_
    exact r_iret cx hw hr hlk hf dX5_facing_22
  replace hf := h_neg hc2 hf
  refine lv_aload_n hx hb dX5_facing_8 rfl (lv_at hl 0 rfl) ?_
  refine lv_iload_n hx hb dX5_facing_9 rfl (lv_at hl 2 rfl) ?_
  refine r_V_i (As := [.int x2]) (rest := []) cx hw hf hL.1.2.1 (by rw [hL.1.1]; rfl) lk_X5_123 (fun q3 hq => k_X5_isMirror l g hg  hL S x2 q3 hq) ⟨⟨rfl, rfl⟩, Nat.le_of_ble_eq_true rfl, Nat.le_of_ble_eq_true rfl⟩ rfl hl.1 rfl (Nat.le_of_ble_eq_true rfl) dX5_facing_10 ⟨Nat.zero_le _, Nat.zero_le _⟩ (fun q3 H locs hw hf => ?_)
  refine lv_if_eq hx hb dX5_facing_13 (tgt := 21) rfl (fun hc4 => ?_) (fun hc4 => ?_)
  · replace hf := h_pos hc4 hf
    refine lv_iconst (v := -1) hx hb dX5_facing_21 (by decide) ?_
    exact r_iret cx hw hr hlk hf dX5_facing_22
  replace hf := h_neg hc4 hf
  refine lv_iload_n hx hb dX5_facing_16 rfl (lv_at hl 1 rfl) ?_
  refine lv_iload_n hx hb dX5_facing_17 rfl (lv_at hl 2 rfl) ?_
  refine lv_icmp_ne hx hb dX5_facing_18 (tgt := 23) rfl (fun hc5 => ?_) (fun hc5 => ?_)
  · replace hf := h_neg hc5 hf
    refine lv_iload_n hx hb dX5_facing_23 rfl (lv_at hl 3 rfl) ?_
    refine lv_iconst (v := -1) hx hb dX5_facing_24 (by decide) ?_
    refine lv_icmp_ne hx hb dX5_facing_25 (tgt := 35) rfl (fun hc6 => ?_) (fun hc6 => ?_)
    · replace hf := h_neg hc6 hf
      refine lv_iload_n hx hb dX5_facing_35 rfl (lv_at hl 3 rfl) ?_
      refine lv_bipush (v := 20) hx hb dX5_facing_36 (by decide) ?_
      refine r_S_i (As := [.int x3, .int (20 : Int32)]) (rest := []) cx hw hf lk_X5_112 (fun q7 hq => k_X5_within l g hg   S x3 (20 : Int32) q7 hq) ⟨⟨rfl, rfl⟩, Nat.le_of_ble_eq_true rfl, Nat.le_of_ble_eq_true rfl⟩ rfl hl.1 rfl (Nat.le_of_ble_eq_true rfl) dX5_facing_38 ⟨Nat.zero_le _, Nat.zero_le _⟩ (fun q7 H locs hw hf => ?_)
      refine lv_if_ne hx hb dX5_facing_41 (tgt := 46) rfl (fun hc8 => ?_) (fun hc8 => ?_)
      · replace hf := h_neg hc8 hf
        refine lv_aload_n hx hb dX5_facing_46 rfl (lv_at hl 0 rfl) ?_
        refine lv_iload_n hx hb dX5_facing_47 rfl (lv_at hl 1 rfl) ?_
        refine lv_iload_n hx hb dX5_facing_48 rfl (lv_at hl 2 rfl) ?_
        refine lv_iload_n hx hb dX5_facing_49 rfl (lv_at hl 3 rfl) ?_
        refine r_V_i (As := [.int x1, .int x2, .int x3]) (rest := []) cx hw hf hL.1.2.1 (by rw [hL.1.1]; rfl) lk_X5_197 (fun q9 hq => k_X5_facingMinute l g hg  hL S x1 x2 x3 q9 hq) ⟨⟨rfl, rfl⟩, Nat.le_of_ble_eq_true rfl, Nat.le_of_ble_eq_true rfl⟩ rfl hl.1 rfl (Nat.le_of_ble_eq_true rfl) dX5_facing_50 ⟨Nat.zero_le _, Nat.zero_le _⟩ (fun q9 H locs hw hf => ?_)
        refine lv_istore hx hb dX5_facing_53 hl (by decide) (lv' := [(4, .int q9), (0, .ref (gg_o g 0)), (1, .int x1), (2, .int x2), (3, .int x3)]) rfl (fun ls hl => ?_)
        refine lv_iload hx hb dX5_facing_55 (lv_at hl 0 rfl) ?_
        refine lv_if_ge hx hb dX5_facing_57 (tgt := 64) rfl (fun hc10 => ?_) (fun hc10 => ?_)
        · replace hf := h_pos hc10 hf
          refine lv_iload hx hb dX5_facing_64 (lv_at hl 0 rfl) ?_
          exact r_iret cx hw hr hlk hf dX5_facing_66
        replace hf := h_neg hc10 hf
        refine lv_iconst (v := -1) hx hb dX5_facing_60 (by decide) ?_
        refine lv_goto hx hb dX5_facing_61 (tgt := 66) rfl ?_
        exact r_iret cx hw hr hlk hf dX5_facing_66
      replace hf := h_pos hc8 hf
      refine lv_iconst (v := -1) hx hb dX5_facing_44 (by decide) ?_
      exact r_iret cx hw hr hlk hf dX5_facing_45
    replace hf := h_pos hc6 hf
    refine lv_aload_n hx hb dX5_facing_28 rfl (lv_at hl 0 rfl) ?_
    refine lv_iload_n hx hb dX5_facing_29 rfl (lv_at hl 1 rfl) ?_
    refine lv_iload_n hx hb dX5_facing_30 rfl (lv_at hl 2 rfl) ?_
    refine r_V_i (As := [.int x1, .int x2]) (rest := []) cx hw hf hL.1.2.1 (by rw [hL.1.1]; rfl) lk_X5_194 (fun q11 hq => k_X5_facingTimes l g hg  hL S x1 x2 q11 hq) ⟨⟨rfl, rfl⟩, Nat.le_of_ble_eq_true rfl, Nat.le_of_ble_eq_true rfl⟩ rfl hl.1 rfl (Nat.le_of_ble_eq_true rfl) dX5_facing_31 ⟨Nat.zero_le _, Nat.zero_le _⟩ (fun q11 H locs hw hf => ?_)
    exact r_iret cx hw hr hlk hf dX5_facing_34
  replace hf := h_pos hc5 hf
  refine lv_iconst (v := -1) hx hb dX5_facing_21 (by decide) ?_
  exact r_iret cx hw hr hlk hf dX5_facing_22
theorem dX5_glimpses_0 : decode cX5_glimpses 0 = .ok (.aload_n 0, 1) := by decide +kernel
theorem dX5_glimpses_1 : decode cX5_glimpses 1 = .ok (.iload_n 1, 1) := by decide +kernel
theorem dX5_glimpses_2 : decode cX5_glimpses 2 = .ok (.invokevirtual 105, 3) := by decide +kernel
theorem dX5_glimpses_5 : decode cX5_glimpses 5 = .ok (.ifCond .eq 24, 3) := by decide +kernel
theorem dX5_glimpses_8 : decode cX5_glimpses 8 = .ok (.aload_n 0, 1) := by decide +kernel
theorem dX5_glimpses_9 : decode cX5_glimpses 9 = .ok (.iload_n 2, 1) := by decide +kernel
theorem dX5_glimpses_10 : decode cX5_glimpses 10 = .ok (.invokevirtual 105, 3) := by decide +kernel
theorem dX5_glimpses_13 : decode cX5_glimpses 13 = .ok (.ifCond .eq 16, 3) := by decide +kernel
theorem dX5_glimpses_16 : decode cX5_glimpses 16 = .ok (.iload_n 1, 1) := by decide +kernel
theorem dX5_glimpses_17 : decode cX5_glimpses 17 = .ok (.iload_n 2, 1) := by decide +kernel
theorem dX5_glimpses_18 : decode cX5_glimpses 18 = .ok (.if_icmp .eq 11, 3) := by decide +kernel
theorem dX5_glimpses_21 : decode cX5_glimpses 21 = .ok (.iload_n 3, 1) := by decide +kernel
theorem dX5_glimpses_22 : decode cX5_glimpses 22 = .ok (.iconst 2, 1) := by decide +kernel
theorem dX5_glimpses_23 : decode cX5_glimpses 23 = .ok (.invokestatic 112, 3) := by decide +kernel
theorem dX5_glimpses_26 : decode cX5_glimpses 26 = .ok (.ifCond .ne 5, 3) := by decide +kernel
theorem dX5_glimpses_29 : decode cX5_glimpses 29 = .ok (.iconst (-1), 1) := by decide +kernel
theorem dX5_glimpses_30 : decode cX5_glimpses 30 = .ok (.ireturn, 1) := by decide +kernel
theorem dX5_glimpses_31 : decode cX5_glimpses 31 = .ok (.iconst 0, 1) := by decide +kernel
theorem dX5_glimpses_32 : decode cX5_glimpses 32 = .ok (.istore 4, 2) := by decide +kernel
theorem dX5_glimpses_34 : decode cX5_glimpses 34 = .ok (.bipush (-2), 2) := by decide +kernel
theorem dX5_glimpses_36 : decode cX5_glimpses 36 = .ok (.istore 5, 2) := by decide +kernel
theorem dX5_glimpses_38 : decode cX5_glimpses 38 = .ok (.iconst 0, 1) := by decide +kernel
theorem dX5_glimpses_39 : decode cX5_glimpses 39 = .ok (.istore 6, 2) := by decide +kernel
theorem dX5_glimpses_41 : decode cX5_glimpses 41 = .ok (.iload 6, 2) := by decide +kernel
theorem dX5_glimpses_43 : decode cX5_glimpses 43 = .ok (.aload_n 0, 1) := by decide +kernel
theorem dX5_glimpses_44 : decode cX5_glimpses 44 = .ok (.getfield 39, 3) := by decide +kernel
theorem dX5_glimpses_47 : decode cX5_glimpses 47 = .ok (.getfield 147, 3) := by decide +kernel
theorem dX5_glimpses_50 : decode cX5_glimpses 50 = .ok (.if_icmp .gt 56, 3) := by decide +kernel
theorem dX5_glimpses_53 : decode cX5_glimpses 53 = .ok (.aload_n 0, 1) := by decide +kernel
theorem dX5_glimpses_54 : decode cX5_glimpses 54 = .ok (.getfield 39, 3) := by decide +kernel
theorem dX5_glimpses_57 : decode cX5_glimpses 57 = .ok (.iload_n 1, 1) := by decide +kernel
theorem dX5_glimpses_58 : decode cX5_glimpses 58 = .ok (.iload 6, 2) := by decide +kernel
theorem dX5_glimpses_60 : decode cX5_glimpses 60 = .ok (.invokevirtual 116, 3) := by decide +kernel
theorem dX5_glimpses_63 : decode cX5_glimpses 63 = .ok (.istore 7, 2) := by decide +kernel
theorem dX5_glimpses_65 : decode cX5_glimpses 65 = .ok (.aload_n 0, 1) := by decide +kernel
theorem dX5_glimpses_66 : decode cX5_glimpses 66 = .ok (.getfield 39, 3) := by decide +kernel
theorem dX5_glimpses_69 : decode cX5_glimpses 69 = .ok (.iload 7, 2) := by decide +kernel
theorem dX5_glimpses_71 : decode cX5_glimpses 71 = .ok (.iload 6, 2) := by decide +kernel
theorem dX5_glimpses_73 : decode cX5_glimpses 73 = .ok (.invokevirtual 200, 3) := by decide +kernel
theorem dX5_glimpses_76 : decode cX5_glimpses 76 = .ok (.iload_n 2, 1) := by decide +kernel
theorem dX5_glimpses_77 : decode cX5_glimpses 77 = .ok (.invokestatic 203, 3) := by decide +kernel
theorem dX5_glimpses_80 : decode cX5_glimpses 80 = .ok (.ifCond .eq 20, 3) := by decide +kernel
theorem dX5_glimpses_83 : decode cX5_glimpses 83 = .ok (.iload 4, 2) := by decide +kernel
theorem dX5_glimpses_85 : decode cX5_glimpses 85 = .ok (.ifCond .ne 8, 3) := by decide +kernel
theorem dX5_glimpses_88 : decode cX5_glimpses 88 = .ok (.iload 6, 2) := by decide +kernel
theorem dX5_glimpses_90 : decode cX5_glimpses 90 = .ok (.goto 5, 3) := by decide +kernel
theorem dX5_glimpses_93 : decode cX5_glimpses 93 = .ok (.iload 5, 2) := by decide +kernel
theorem dX5_glimpses_95 : decode cX5_glimpses 95 = .ok (.istore 5, 2) := by decide +kernel
theorem dX5_glimpses_97 : decode cX5_glimpses 97 = .ok (.iinc 4 1, 3) := by decide +kernel
theorem dX5_glimpses_100 : decode cX5_glimpses 100 = .ok (.iinc 6 1, 3) := by decide +kernel
theorem dX5_glimpses_103 : decode cX5_glimpses 103 = .ok (.goto (-62), 3) := by decide +kernel
theorem dX5_glimpses_106 : decode cX5_glimpses 106 = .ok (.iload_n 3, 1) := by decide +kernel
theorem dX5_glimpses_107 : decode cX5_glimpses 107 = .ok (.ifCond .ne 8, 3) := by decide +kernel
theorem dX5_glimpses_110 : decode cX5_glimpses 110 = .ok (.iload 4, 2) := by decide +kernel
theorem dX5_glimpses_112 : decode cX5_glimpses 112 = .ok (.goto 5, 3) := by decide +kernel
theorem dX5_glimpses_115 : decode cX5_glimpses 115 = .ok (.iload 5, 2) := by decide +kernel
theorem dX5_glimpses_117 : decode cX5_glimpses 117 = .ok (.ireturn, 1) := by decide +kernel
abbrev rm_X5_glimpses : Room := { frames := 5, cells := 0, slots := 0, locals := 113 }
def f_X5_glimpses_L41 (S : St) (x1 : Int32) (x2 : Int32) (x3 : Int32) (z41 : Int32 × Int32 × Int32) : Option ((Int32 × Int32 × Int32) ⊕ (Int32 × Int32)) :=
  if (st_I S (ky 10 1)) < z41.2.2 then (some (.inr (z41.1, z41.2.1))) else ((f_X0_roomOf 10 S x1 z41.2.2).bind (fun (q9 : Int32) => (f_X0_menShownIn 10 S q9 z41.2.2).bind (fun (q10 : Int32) => (f_X5_has   q10 x2).bind (fun (q11 : Int32) => if q11 = 0 then (some (.inl (z41.1, z41.2.1, (z41.2.2 + 1)))) else (if z41.1 = 0 then (some (.inl ((z41.1 + 1), z41.2.2, (z41.2.2 + 1)))) else (some (.inl ((z41.1 + 1), z41.2.1, (z41.2.2 + 1)))))))))
def f_X5_glimpses (S : St) (x1 : Int32) (x2 : Int32) (x3 : Int32) : Option (Int32) :=
  (f_X5_isMan  S x1).bind (fun (q1 : Int32) => if q1 = 0 then (some (-1 : Int32)) else ((f_X5_isMan  S x2).bind (fun (q3 : Int32) => if q3 = 0 then (some (-1 : Int32)) else (if x1 = x2 then (some (-1 : Int32)) else ((f_X5_within   x3 (2 : Int32)).bind (fun (q6 : Int32) => if q6 = 0 then (some (-1 : Int32)) else ((iter (f_X5_glimpses_L41  S x1 x2 x3) FU ((0 : Int32), (-2 : Int32), (0 : Int32))).bind (fun (u17 : Int32 × Int32) => (fun (e14 : Int32) (e15 : Int32) => if x3 = 0 then (some e14) else (some e15)) u17.1 u17.2))))))))
set_option maxRecDepth 100000 in
set_option maxHeartbeats 4000000 in
theorem k_X5_glimpses (l : Launch) (g : GG) (hg : gd wd_C g)  (hL : hAll g) (S : St) (x1 : Int32) (x2 : Int32) (x3 : Int32) (q : Int32) (hf : f_X5_glimpses  S x1 x2 x3 = some q) : Met l yX5_glimpses (Cond.code yX5_glimpses cX5_glimpses 8 (some .int) :: gw_tbl) rm_X5_glimpses (va_Pc [.ref (gg_o g 0), .int x1, .int x2, .int x3] (wI wd_C g S)) (qc_i wd_C g S q) 0 0 (aw g) := by
  refine mt_start (own := RX5) hg (by decide) rfl (Nat.le_of_ble_eq_true rfl) (fun p e s m args below meth c ls H locs cx hw hr hlk hl => ?_)
  have hx := cx.1
  have hb := cx.2.1
  have hown := cx.2.2.2.1
  have hts := cx.2.2.2.2.1
  have hl : lv_has ls 8 [(0, .ref (gg_o g 0)), (1, .int x1), (2, .int x2), (3, .int x3)] := hl
  replace hf := h_top hf
  unfold f_X5_glimpses at hf
  refine lv_aload_n hx hb dX5_glimpses_0 rfl (lv_at hl 0 rfl) ?_
  refine lv_iload_n hx hb dX5_glimpses_1 rfl (lv_at hl 1 rfl) ?_
  refine r_V_i (As := [.int x1]) (rest := []) cx hw hf hL.1.2.1 (by rw [hL.1.1]; rfl) lk_X5_105 (fun q1 hq => k_X5_isMan l g hg  hL S x1 q1 hq) ⟨⟨rfl, rfl⟩, Nat.le_of_ble_eq_true rfl, Nat.le_of_ble_eq_true rfl⟩ rfl hl.1 rfl (Nat.le_of_ble_eq_true rfl) dX5_glimpses_2 ⟨Nat.zero_le _, Nat.zero_le _⟩ (fun q1 H locs hw hf => ?_)
  refine lv_if_eq hx hb dX5_glimpses_5 (tgt := 29) rfl (fun hc2 => ?_) (fun hc2 => ?_)
  · replace hf := h_pos hc2 hf
    refine lv_iconst (v := -1) hx hb dX5_glimpses_29 (by decide) ?_
    exact r_iret cx hw hr hlk hf dX5_glimpses_30
  replace hf := h_neg hc2 hf
  refine lv_aload_n hx hb dX5_glimpses_8 rfl (lv_at hl 0 rfl) ?_
  refine lv_iload_n hx hb dX5_glimpses_9 rfl (lv_at hl 2 rfl) ?_
  refine r_V_i (As := [.int x2]) (rest := []) cx hw hf hL.1.2.1 (by rw [hL.1.1]; rfl) lk_X5_105 (fun q3 hq => k_X5_isMan l g hg  hL S x2 q3 hq) ⟨⟨rfl, rfl⟩, Nat.le_of_ble_eq_true rfl, Nat.le_of_ble_eq_true rfl⟩ rfl hl.1 rfl (Nat.le_of_ble_eq_true rfl) dX5_glimpses_10 ⟨Nat.zero_le _, Nat.zero_le _⟩ (fun q3 H locs hw hf => ?_)
  refine lv_if_eq hx hb dX5_glimpses_13 (tgt := 29) rfl (fun hc4 => ?_) (fun hc4 => ?_)
  · replace hf := h_pos hc4 hf
    refine lv_iconst (v := -1) hx hb dX5_glimpses_29 (by decide) ?_
    exact r_iret cx hw hr hlk hf dX5_glimpses_30
  replace hf := h_neg hc4 hf
  refine lv_iload_n hx hb dX5_glimpses_16 rfl (lv_at hl 1 rfl) ?_
  refine lv_iload_n hx hb dX5_glimpses_17 rfl (lv_at hl 2 rfl) ?_
  refine lv_icmp_eq hx hb dX5_glimpses_18 (tgt := 29) rfl (fun hc5 => ?_) (fun hc5 => ?_)
  · replace hf := h_pos hc5 hf
    refine lv_iconst (v := -1) hx hb dX5_glimpses_29 (by decide) ?_
    exact r_iret cx hw hr hlk hf dX5_glimpses_30
  replace hf := h_neg hc5 hf
  refine lv_iload_n hx hb dX5_glimpses_21 rfl (lv_at hl 3 rfl) ?_
  refine lv_iconst (v := 2) hx hb dX5_glimpses_22 (by decide) ?_
  refine r_S_i (As := [.int x3, .int (2 : Int32)]) (rest := []) cx hw hf lk_X5_112 (fun q6 hq => k_X5_within l g hg   S x3 (2 : Int32) q6 hq) ⟨⟨rfl, rfl⟩, Nat.le_of_ble_eq_true rfl, Nat.le_of_ble_eq_true rfl⟩ rfl hl.1 rfl (Nat.le_of_ble_eq_true rfl) dX5_glimpses_23 ⟨Nat.zero_le _, Nat.zero_le _⟩ (fun q6 H locs hw hf => ?_)
  refine lv_if_ne hx hb dX5_glimpses_26 (tgt := 31) rfl (fun hc7 => ?_) (fun hc7 => ?_)
  · replace hf := h_neg hc7 hf
    refine lv_iconst (v := 0) hx hb dX5_glimpses_31 (by decide) ?_
    refine lv_istore hx hb dX5_glimpses_32 hl (by decide) (lv' := [(4, .int (0 : Int32)), (0, .ref (gg_o g 0)), (1, .int x1), (2, .int x2), (3, .int x3)]) rfl (fun ls hl => ?_)
    refine lv_bipush (v := -2) hx hb dX5_glimpses_34 (by decide) ?_
    refine lv_istore hx hb dX5_glimpses_36 hl (by decide) (lv' := [(5, .int (-2 : Int32)), (4, .int (0 : Int32)), (0, .ref (gg_o g 0)), (1, .int x1), (2, .int x2), (3, .int x3)]) rfl (fun ls hl => ?_)
    refine lv_iconst (v := 0) hx hb dX5_glimpses_38 (by decide) ?_
    refine lv_istore hx hb dX5_glimpses_39 hl (by decide) (lv' := [(6, .int (0 : Int32)), (5, .int (-2 : Int32)), (4, .int (0 : Int32)), (0, .ref (gg_o g 0)), (1, .int x1), (2, .int x2), (3, .int x3)]) rfl (fun ls hl => ?_)
    have L41 : ∀ (x1 : Int32) (x2 : Int32) (x3 : Int32) (aft41 : (Int32 × Int32) → Option (Int32)), (∀ (ls : Array Slot) (H : Heap) (locs : List Loc) (e4 : Int32) (e5 : Int32), lv_has ls 8 [(3, .int x3), (4, .int e4), (5, .int e5)] → HH wd_C g s S H locs → aft41 (e4, e5) = some q → W p l e rm_X5_glimpses s m args below meth c H locs 0 0 (MQ below (qc_i wd_C g S q) args s 0 0 (aw g)) (F0 m 106 ls [])) → ∀ (n41 : Nat) (ls : Array Slot) (H : Heap) (locs : List Loc) (z41 : Int32 × Int32 × Int32), lv_has ls 8 [(0, .ref (gg_o g 0)), (1, .int x1), (2, .int x2), (3, .int x3), (4, .int z41.1), (5, .int z41.2.1), (6, .int z41.2.2)] → HH wd_C g s S H locs → (iter (f_X5_glimpses_L41  S x1 x2 x3) n41 z41).bind aft41 = some q → W p l e rm_X5_glimpses s m args below meth c H locs 0 0 (MQ below (qc_i wd_C g S q) args s 0 0 (aw g)) (F0 m 41 ls []) := by
      intro x1 x2 x3 aft41 hX41 n41
      induction n41 with
      | zero => intro ls H locs z41 hl hw hf; exact h_iter0 hf
      | succ n41 ih41 =>
        intro ls H locs z41 hl hw hf
        replace hf := h_iter hf
        unfold f_X5_glimpses_L41 at hf
        refine lv_iload hx hb dX5_glimpses_41 (lv_at hl 6 rfl) ?_
        refine lv_aload_n hx hb dX5_glimpses_43 rfl (lv_at hl 0 rfl) ?_
        refine gf_X5_39 cx hw hL.1 dX5_glimpses_44 ?_
        refine gf_X5_147 cx hw (hL.2.2.2.1 0 (by decide)) dX5_glimpses_47 ?_
        refine lv_icmp_gt hx hb dX5_glimpses_50 (tgt := 106) rfl (fun hc8 => ?_) (fun hc8 => ?_)
        · replace hf := h_pos hc8 hf
          exact hX41 _ _ _ z41.1 z41.2.1 (lv_sub hl [3, 4, 5] rfl) hw hf
        replace hf := h_neg hc8 hf
        refine lv_aload_n hx hb dX5_glimpses_53 rfl (lv_at hl 0 rfl) ?_
        refine gf_X5_39 cx hw hL.1 dX5_glimpses_54 ?_
        refine lv_iload_n hx hb dX5_glimpses_57 rfl (lv_at hl 1 rfl) ?_
        refine lv_iload hx hb dX5_glimpses_58 (lv_at hl 6 rfl) ?_
        refine r_VN_i (As := [.int x1, .int z41.2.2]) (rest := []) cx hw hf (nw_at cx) (hL.2.2.2.1 0 (by decide)).2.1 (by rw [(hL.2.2.2.1 0 (by decide)).1]; rfl) lk_X5_116 (fun q9 hq => k_X0_roomOf l g hg 10 (hL.2.2.2.1 0 (by decide)) hL.2.2.2.2 S x1 z41.2.2 q9 hq) ⟨⟨rfl, rfl⟩, Nat.le_of_ble_eq_true rfl, Nat.le_of_ble_eq_true rfl⟩ rfl hl.1 rfl (Nat.le_of_ble_eq_true rfl) dX5_glimpses_60 ⟨Nat.zero_le _, Nat.zero_le _⟩ (fun q9 H locs hw hf => ?_)
        refine lv_istore hx hb dX5_glimpses_63 hl (by decide) (lv' := [(7, .int q9), (0, .ref (gg_o g 0)), (1, .int x1), (2, .int x2), (3, .int x3), (4, .int z41.1), (5, .int z41.2.1), (6, .int z41.2.2)]) rfl (fun ls hl => ?_)
        refine lv_aload_n hx hb dX5_glimpses_65 rfl (lv_at hl 1 rfl) ?_
        refine gf_X5_39 cx hw hL.1 dX5_glimpses_66 ?_
        refine lv_iload hx hb dX5_glimpses_69 (lv_at hl 0 rfl) ?_
        refine lv_iload hx hb dX5_glimpses_71 (lv_at hl 7 rfl) ?_
        refine r_VN_i (As := [.int q9, .int z41.2.2]) (rest := []) cx hw hf (nw_at cx) (hL.2.2.2.1 0 (by decide)).2.1 (by rw [(hL.2.2.2.1 0 (by decide)).1]; rfl) lk_X5_200 (fun q10 hq => k_X0_menShownIn l g hg 10 (hL.2.2.2.1 0 (by decide)) hL.2.2.2.2 S q9 z41.2.2 q10 hq) ⟨⟨rfl, rfl⟩, Nat.le_of_ble_eq_true rfl, Nat.le_of_ble_eq_true rfl⟩ rfl hl.1 rfl (Nat.le_of_ble_eq_true rfl) dX5_glimpses_73 ⟨Nat.zero_le _, Nat.zero_le _⟩ (fun q10 H locs hw hf => ?_)
        refine lv_iload_n hx hb dX5_glimpses_76 rfl (lv_at hl 3 rfl) ?_
        refine r_S_i (As := [.int q10, .int x2]) (rest := []) cx hw hf lk_X5_203 (fun q11 hq => k_X5_has l g hg   S q10 x2 q11 hq) ⟨⟨rfl, rfl⟩, Nat.le_of_ble_eq_true rfl, Nat.le_of_ble_eq_true rfl⟩ rfl hl.1 rfl (Nat.le_of_ble_eq_true rfl) dX5_glimpses_77 ⟨Nat.zero_le _, Nat.zero_le _⟩ (fun q11 H locs hw hf => ?_)
        refine lv_if_eq hx hb dX5_glimpses_80 (tgt := 100) rfl (fun hc12 => ?_) (fun hc12 => ?_)
        · replace hf := h_pos hc12 hf
          refine lv_iinc hx hb dX5_glimpses_100 hl (k := 7) rfl (congrArg (HAdd.hAdd _) (show Int32.ofInt (1) = 1 by decide)) (by decide) (lv' := [(6, .int (z41.2.2 + 1)), (7, .int q9), (0, .ref (gg_o g 0)), (1, .int x1), (2, .int x2), (3, .int x3), (4, .int z41.1), (5, .int z41.2.1)]) rfl (fun ls hl => ?_)
          refine lv_goto hx hb dX5_glimpses_103 (tgt := 41) rfl ?_
          exact ih41 _ _ _ (z41.1, z41.2.1, (z41.2.2 + 1)) (lv_sub hl [2, 3, 4, 5, 6, 7, 0] rfl) hw hf
        replace hf := h_neg hc12 hf
        refine lv_iload hx hb dX5_glimpses_83 (lv_at hl 5 rfl) ?_
        refine lv_if_ne hx hb dX5_glimpses_85 (tgt := 93) rfl (fun hc13 => ?_) (fun hc13 => ?_)
        · replace hf := h_neg hc13 hf
          refine lv_iload hx hb dX5_glimpses_93 (lv_at hl 6 rfl) ?_
          refine lv_istore hx hb dX5_glimpses_95 hl (by decide) (lv' := [(5, .int z41.2.1), (7, .int q9), (0, .ref (gg_o g 0)), (1, .int x1), (2, .int x2), (3, .int x3), (4, .int z41.1), (6, .int z41.2.2)]) rfl (fun ls hl => ?_)
          refine lv_iinc hx hb dX5_glimpses_97 hl (k := 6) rfl (congrArg (HAdd.hAdd _) (show Int32.ofInt (1) = 1 by decide)) (by decide) (lv' := [(4, .int (z41.1 + 1)), (5, .int z41.2.1), (7, .int q9), (0, .ref (gg_o g 0)), (1, .int x1), (2, .int x2), (3, .int x3), (6, .int z41.2.2)]) rfl (fun ls hl => ?_)
          refine lv_iinc hx hb dX5_glimpses_100 hl (k := 7) rfl (congrArg (HAdd.hAdd _) (show Int32.ofInt (1) = 1 by decide)) (by decide) (lv' := [(6, .int (z41.2.2 + 1)), (4, .int (z41.1 + 1)), (5, .int z41.2.1), (7, .int q9), (0, .ref (gg_o g 0)), (1, .int x1), (2, .int x2), (3, .int x3)]) rfl (fun ls hl => ?_)
          refine lv_goto hx hb dX5_glimpses_103 (tgt := 41) rfl ?_
          exact ih41 _ _ _ ((z41.1 + 1), z41.2.1, (z41.2.2 + 1)) (lv_sub hl [4, 5, 6, 7, 1, 2, 0] rfl) hw hf
        replace hf := h_pos hc13 hf
        refine lv_iload hx hb dX5_glimpses_88 (lv_at hl 7 rfl) ?_
        refine lv_goto hx hb dX5_glimpses_90 (tgt := 95) rfl ?_
        refine lv_istore hx hb dX5_glimpses_95 hl (by decide) (lv' := [(5, .int z41.2.2), (7, .int q9), (0, .ref (gg_o g 0)), (1, .int x1), (2, .int x2), (3, .int x3), (4, .int z41.1), (6, .int z41.2.2)]) rfl (fun ls hl => ?_)
        refine lv_iinc hx hb dX5_glimpses_97 hl (k := 6) rfl (congrArg (HAdd.hAdd _) (show Int32.ofInt (1) = 1 by decide)) (by decide) (lv' := [(4, .int (z41.1 + 1)), (5, .int z41.2.2), (7, .int q9), (0, .ref (gg_o g 0)), (1, .int x1), (2, .int x2), (3, .int x3), (6, .int z41.2.2)]) rfl (fun ls hl => ?_)
        refine lv_iinc hx hb dX5_glimpses_100 hl (k := 7) rfl (congrArg (HAdd.hAdd _) (show Int32.ofInt (1) = 1 by decide)) (by decide) (lv' := [(6, .int (z41.2.2 + 1)), (4, .int (z41.1 + 1)), (5, .int z41.2.2), (7, .int q9), (0, .ref (gg_o g 0)), (1, .int x1), (2, .int x2), (3, .int x3)]) rfl (fun ls hl => ?_)
        refine lv_goto hx hb dX5_glimpses_103 (tgt := 41) rfl ?_
        exact ih41 _ _ _ ((z41.1 + 1), z41.2.2, (z41.2.2 + 1)) (lv_sub hl [4, 5, 6, 7, 1, 2, 0] rfl) hw hf
    refine L41 x1 x2 x3 _ (fun ls H locs e14 e15 hl hw hf => ?_) FU _ _ _ ((0 : Int32), (-2 : Int32), (0 : Int32)) (lv_sub hl [3, 4, 5, 6, 2, 1, 0] rfl) hw (h_assoc hf)
    try dsimp only at hf
    refine lv_iload_n hx hb dX5_glimpses_106 rfl (lv_at hl 0 rfl) ?_
    refine lv_if_ne hx hb dX5_glimpses_107 (tgt := 115) rfl (fun hc16 => ?_) (fun hc16 => ?_)
    · replace hf := h_neg hc16 hf
      refine lv_iload hx hb dX5_glimpses_115 (lv_at hl 2 rfl) ?_
      exact r_iret cx hw hr hlk hf dX5_glimpses_117
    replace hf := h_pos hc16 hf
    refine lv_iload hx hb dX5_glimpses_110 (lv_at hl 1 rfl) ?_
    refine lv_goto hx hb dX5_glimpses_112 (tgt := 117) rfl ?_
    exact r_iret cx hw hr hlk hf dX5_glimpses_117
  replace hf := h_pos hc7 hf
  refine lv_iconst (v := -1) hx hb dX5_glimpses_29 (by decide) ?_
  exact r_iret cx hw hr hlk hf dX5_glimpses_30
theorem dX5_ghosts_0 : decode cX5_ghosts 0 = .ok (.aload_n 0, 1) := by decide +kernel
theorem dX5_ghosts_1 : decode cX5_ghosts 1 = .ok (.iload_n 1, 1) := by decide +kernel
theorem dX5_ghosts_2 : decode cX5_ghosts 2 = .ok (.invokevirtual 170, 3) := by decide +kernel
theorem dX5_ghosts_5 : decode cX5_ghosts 5 = .ok (.ifCond .ne 5, 3) := by decide +kernel
theorem dX5_ghosts_8 : decode cX5_ghosts 8 = .ok (.iconst (-1), 1) := by decide +kernel
theorem dX5_ghosts_9 : decode cX5_ghosts 9 = .ok (.ireturn, 1) := by decide +kernel
theorem dX5_ghosts_10 : decode cX5_ghosts 10 = .ok (.aload_n 0, 1) := by decide +kernel
theorem dX5_ghosts_11 : decode cX5_ghosts 11 = .ok (.getfield 39, 3) := by decide +kernel
theorem dX5_ghosts_14 : decode cX5_ghosts 14 = .ok (.getfield 147, 3) := by decide +kernel
theorem dX5_ghosts_17 : decode cX5_ghosts 17 = .ok (.istore_n 2, 1) := by decide +kernel
theorem dX5_ghosts_18 : decode cX5_ghosts 18 = .ok (.iconst 0, 1) := by decide +kernel
theorem dX5_ghosts_19 : decode cX5_ghosts 19 = .ok (.istore_n 3, 1) := by decide +kernel
theorem dX5_ghosts_20 : decode cX5_ghosts 20 = .ok (.iconst 0, 1) := by decide +kernel
theorem dX5_ghosts_21 : decode cX5_ghosts 21 = .ok (.istore 4, 2) := by decide +kernel
theorem dX5_ghosts_23 : decode cX5_ghosts 23 = .ok (.iload 4, 2) := by decide +kernel
theorem dX5_ghosts_25 : decode cX5_ghosts 25 = .ok (.aload_n 0, 1) := by decide +kernel
theorem dX5_ghosts_26 : decode cX5_ghosts 26 = .ok (.getfield 27, 3) := by decide +kernel
theorem dX5_ghosts_29 : decode cX5_ghosts 29 = .ok (.getfield 206, 3) := by decide +kernel
theorem dX5_ghosts_32 : decode cX5_ghosts 32 = .ok (.if_icmp .ge 74, 3) := by decide +kernel
theorem dX5_ghosts_35 : decode cX5_ghosts 35 = .ok (.aload_n 0, 1) := by decide +kernel
theorem dX5_ghosts_36 : decode cX5_ghosts 36 = .ok (.getfield 39, 3) := by decide +kernel
theorem dX5_ghosts_39 : decode cX5_ghosts 39 = .ok (.iload 4, 2) := by decide +kernel
theorem dX5_ghosts_41 : decode cX5_ghosts 41 = .ok (.iload_n 2, 1) := by decide +kernel
theorem dX5_ghosts_42 : decode cX5_ghosts 42 = .ok (.invokevirtual 126, 3) := by decide +kernel
theorem dX5_ghosts_45 : decode cX5_ghosts 45 = .ok (.iload_n 1, 1) := by decide +kernel
theorem dX5_ghosts_46 : decode cX5_ghosts 46 = .ok (.if_icmp .ne 54, 3) := by decide +kernel
theorem dX5_ghosts_49 : decode cX5_ghosts 49 = .ok (.aload_n 0, 1) := by decide +kernel
theorem dX5_ghosts_50 : decode cX5_ghosts 50 = .ok (.getfield 39, 3) := by decide +kernel
theorem dX5_ghosts_53 : decode cX5_ghosts 53 = .ok (.iload 4, 2) := by decide +kernel
theorem dX5_ghosts_55 : decode cX5_ghosts 55 = .ok (.iload_n 2, 1) := by decide +kernel
theorem dX5_ghosts_56 : decode cX5_ghosts 56 = .ok (.invokevirtual 138, 3) := by decide +kernel
theorem dX5_ghosts_59 : decode cX5_ghosts 59 = .ok (.ifCond .lt 41, 3) := by decide +kernel
theorem dX5_ghosts_62 : decode cX5_ghosts 62 = .ok (.aload_n 0, 1) := by decide +kernel
theorem dX5_ghosts_63 : decode cX5_ghosts 63 = .ok (.getfield 39, 3) := by decide +kernel
theorem dX5_ghosts_66 : decode cX5_ghosts 66 = .ok (.aload_n 0, 1) := by decide +kernel
theorem dX5_ghosts_67 : decode cX5_ghosts 67 = .ok (.getfield 39, 3) := by decide +kernel
theorem dX5_ghosts_70 : decode cX5_ghosts 70 = .ok (.iload 4, 2) := by decide +kernel
theorem dX5_ghosts_72 : decode cX5_ghosts 72 = .ok (.iload_n 2, 1) := by decide +kernel
theorem dX5_ghosts_73 : decode cX5_ghosts 73 = .ok (.invokevirtual 141, 3) := by decide +kernel
theorem dX5_ghosts_76 : decode cX5_ghosts 76 = .ok (.iload_n 2, 1) := by decide +kernel
theorem dX5_ghosts_77 : decode cX5_ghosts 77 = .ok (.invokevirtual 191, 3) := by decide +kernel
theorem dX5_ghosts_80 : decode cX5_ghosts 80 = .ok (.istore 5, 2) := by decide +kernel
theorem dX5_ghosts_82 : decode cX5_ghosts 82 = .ok (.iload_n 3, 1) := by decide +kernel
theorem dX5_ghosts_83 : decode cX5_ghosts 83 = .ok (.aload_n 0, 1) := by decide +kernel
theorem dX5_ghosts_84 : decode cX5_ghosts 84 = .ok (.getfield 39, 3) := by decide +kernel
theorem dX5_ghosts_87 : decode cX5_ghosts 87 = .ok (.iload 4, 2) := by decide +kernel
theorem dX5_ghosts_89 : decode cX5_ghosts 89 = .ok (.iload_n 2, 1) := by decide +kernel
theorem dX5_ghosts_90 : decode cX5_ghosts 90 = .ok (.invokevirtual 144, 3) := by decide +kernel
theorem dX5_ghosts_93 : decode cX5_ghosts 93 = .ok (.iload 5, 2) := by decide +kernel
theorem dX5_ghosts_95 : decode cX5_ghosts 95 = .ok (.iconst (-1), 1) := by decide +kernel
theorem dX5_ghosts_96 : decode cX5_ghosts 96 = .ok (.ixor, 1) := by decide +kernel
theorem dX5_ghosts_97 : decode cX5_ghosts 97 = .ok (.iand, 1) := by decide +kernel
theorem dX5_ghosts_98 : decode cX5_ghosts 98 = .ok (.ior, 1) := by decide +kernel
theorem dX5_ghosts_99 : decode cX5_ghosts 99 = .ok (.istore_n 3, 1) := by decide +kernel
theorem dX5_ghosts_100 : decode cX5_ghosts 100 = .ok (.iinc 4 1, 3) := by decide +kernel
theorem dX5_ghosts_103 : decode cX5_ghosts 103 = .ok (.goto (-80), 3) := by decide +kernel
theorem dX5_ghosts_106 : decode cX5_ghosts 106 = .ok (.iload_n 3, 1) := by decide +kernel
theorem dX5_ghosts_107 : decode cX5_ghosts 107 = .ok (.ireturn, 1) := by decide +kernel
abbrev rm_X5_ghosts : Room := { frames := 4, cells := 0, slots := 0, locals := 89 }
def f_X5_ghosts_L23 (S : St) (x1 : Int32) (x2 : Int32) (z23 : Int32 × Int32) : Option ((Int32 × Int32) ⊕ (Int32)) :=
  chk (isT (st_P S (ky 0 4))) (if (st_I S (ky (st_P S (ky 0 4)) 3)) ≤ z23.2 then (some (.inr z23.1)) else ((f_X0_hangOf 10 S z23.2 x2).bind (fun (q5 : Int32) => if q5 = x1 then ((f_X0_showing 10 S z23.2 x2).bind (fun (q7 : Int32) => if q7 < 0 then (some (.inl (z23.1, (z23.2 + 1)))) else ((f_X0_roomShown 10 S z23.2 x2).bind (fun (q9 : Int32) => (f_X0_menIn 10 S q9 x2).bind (fun (q10 : Int32) => (f_X0_menShown 10 S z23.2 x2).bind (fun (q11 : Int32) => lt_v (z23.1 ||| (q11 &&& (q10 ^^^ (-1 : Int32)))) (fun (u12 : Int32) => some (.inl (u12, (z23.2 + 1)))))))))) else (some (.inl (z23.1, (z23.2 + 1)))))))
def f_X5_ghosts (S : St) (x1 : Int32) : Option (Int32) :=
  (f_X5_isRoom  S x1).bind (fun (q1 : Int32) => if q1 = 0 then (some (-1 : Int32)) else (iter (f_X5_ghosts_L23  S x1 (st_I S (ky 10 1))) FU ((0 : Int32), (0 : Int32))))
set_option maxRecDepth 100000 in
set_option maxHeartbeats 4000000 in
theorem k_X5_ghosts (l : Launch) (g : GG) (hg : gd wd_C g)  (hL : hAll g) (S : St) (x1 : Int32) (q : Int32) (hf : f_X5_ghosts  S x1 = some q) : Met l yX5_ghosts (Cond.code yX5_ghosts cX5_ghosts 6 (some .int) :: gw_tbl) rm_X5_ghosts (va_Pc [.ref (gg_o g 0), .int x1] (wI wd_C g S)) (qc_i wd_C g S q) 0 0 (aw g) := by
  refine mt_start (own := RX5) hg (by decide) rfl (Nat.le_of_ble_eq_true rfl) (fun p e s m args below meth c ls H locs cx hw hr hlk hl => ?_)
  have hx := cx.1
  have hb := cx.2.1
  have hown := cx.2.2.2.1
  have hts := cx.2.2.2.2.1
  have hl : lv_has ls 6 [(0, .ref (gg_o g 0)), (1, .int x1)] := hl
  replace hf := h_top hf
  unfold f_X5_ghosts at hf
  refine lv_aload_n hx hb dX5_ghosts_0 rfl (lv_at hl 0 rfl) ?_
  refine lv_iload_n hx hb dX5_ghosts_1 rfl (lv_at hl 1 rfl) ?_
  refine r_V_i (As := [.int x1]) (rest := []) cx hw hf hL.1.2.1 (by rw [hL.1.1]; rfl) lk_X5_170 (fun q1 hq => k_X5_isRoom l g hg  hL S x1 q1 hq) ⟨⟨rfl, rfl⟩, Nat.le_of_ble_eq_true rfl, Nat.le_of_ble_eq_true rfl⟩ rfl hl.1 rfl (Nat.le_of_ble_eq_true rfl) dX5_ghosts_2 ⟨Nat.zero_le _, Nat.zero_le _⟩ (fun q1 H locs hw hf => ?_)
  refine lv_if_ne hx hb dX5_ghosts_5 (tgt := 10) rfl (fun hc2 => ?_) (fun hc2 => ?_)
  · replace hf := h_neg hc2 hf
    refine lv_aload_n hx hb dX5_ghosts_10 rfl (lv_at hl 0 rfl) ?_
    refine gf_X5_39 cx hw hL.1 dX5_ghosts_11 ?_
    refine gf_X5_147 cx hw (hL.2.2.2.1 0 (by decide)) dX5_ghosts_14 ?_
    refine lv_istore_n hx hb dX5_ghosts_17 rfl hl (by decide) (lv' := [(2, .int (st_I S (ky 10 1))), (0, .ref (gg_o g 0)), (1, .int x1)]) rfl (fun ls hl => ?_)
    refine lv_iconst (v := 0) hx hb dX5_ghosts_18 (by decide) ?_
    refine lv_istore_n hx hb dX5_ghosts_19 rfl hl (by decide) (lv' := [(3, .int (0 : Int32)), (2, .int (st_I S (ky 10 1))), (0, .ref (gg_o g 0)), (1, .int x1)]) rfl (fun ls hl => ?_)
    refine lv_iconst (v := 0) hx hb dX5_ghosts_20 (by decide) ?_
    refine lv_istore hx hb dX5_ghosts_21 hl (by decide) (lv' := [(4, .int (0 : Int32)), (3, .int (0 : Int32)), (2, .int (st_I S (ky 10 1))), (0, .ref (gg_o g 0)), (1, .int x1)]) rfl (fun ls hl => ?_)
    have L23 : ∀ (x1 : Int32) (x2 : Int32) (aft23 : Int32 → Option (Int32)), (∀ v : Int32, aft23 v = some q → (some v : Option (Int32)).bind some = some q) → ∀ (n23 : Nat) (ls : Array Slot) (H : Heap) (locs : List Loc) (z23 : Int32 × Int32), lv_has ls 6 [(0, .ref (gg_o g 0)), (1, .int x1), (2, .int x2), (3, .int z23.1), (4, .int z23.2)] → HH wd_C g s S H locs → (iter (f_X5_ghosts_L23  S x1 x2) n23 z23).bind aft23 = some q → W p l e rm_X5_ghosts s m args below meth c H locs 0 0 (MQ below (qc_i wd_C g S q) args s 0 0 (aw g)) (F0 m 23 ls []) := by
      intro x1 x2 aft23 hR23 n23
      induction n23 with
      | zero => intro ls H locs z23 hl hw hf; exact h_iter0 hf
      | succ n23 ih23 =>
        intro ls H locs z23 hl hw hf
        replace hf := h_iter hf
        unfold f_X5_ghosts_L23 at hf
        refine lv_iload hx hb dX5_ghosts_23 (lv_at hl 4 rfl) ?_
        refine lv_aload_n hx hb dX5_ghosts_25 rfl (lv_at hl 0 rfl) ?_
        obtain ⟨hc3, hf⟩ := h_chk hf
        refine gf_X5_27 cx hw hL.1 dX5_ghosts_26 ?_
        refine gf_X5_206 cx hw ((allT_at hL.2.2.2.2 hc3).1) dX5_ghosts_29 ?_
        refine lv_icmp_ge hx hb dX5_ghosts_32 (tgt := 106) rfl (fun hc4 => ?_) (fun hc4 => ?_)
        · replace hf := h_pos hc4 hf
          refine lv_iload_n hx hb dX5_ghosts_106 rfl (lv_at hl 3 rfl) ?_
          replace hf := hR23 z23.1 hf
          exact r_iret cx hw hr hlk hf dX5_ghosts_107
        replace hf := h_neg hc4 hf
        refine lv_aload_n hx hb dX5_ghosts_35 rfl (lv_at hl 0 rfl) ?_
        refine gf_X5_39 cx hw hL.1 dX5_ghosts_36 ?_
        refine lv_iload hx hb dX5_ghosts_39 (lv_at hl 4 rfl) ?_
        refine lv_iload_n hx hb dX5_ghosts_41 rfl (lv_at hl 2 rfl) ?_
        refine r_VN_i (As := [.int z23.2, .int x2]) (rest := []) cx hw hf (nw_at cx) (hL.2.2.2.1 0 (by decide)).2.1 (by rw [(hL.2.2.2.1 0 (by decide)).1]; rfl) lk_X5_126 (fun q5 hq => k_X0_hangOf l g hg 10 (hL.2.2.2.1 0 (by decide)) hL.2.2.2.2 S z23.2 x2 q5 hq) ⟨⟨rfl, rfl⟩, Nat.le_of_ble_eq_true rfl, Nat.le_of_ble_eq_true rfl⟩ rfl hl.1 rfl (Nat.le_of_ble_eq_true rfl) dX5_ghosts_42 ⟨Nat.zero_le _, Nat.zero_le _⟩ (fun q5 H locs hw hf => ?_)
        refine lv_iload_n hx hb dX5_ghosts_45 rfl (lv_at hl 1 rfl) ?_
        refine lv_icmp_ne hx hb dX5_ghosts_46 (tgt := 100) rfl (fun hc6 => ?_) (fun hc6 => ?_)
        · replace hf := h_neg hc6 hf
          refine lv_iinc hx hb dX5_ghosts_100 hl (k := 4) rfl (congrArg (HAdd.hAdd _) (show Int32.ofInt (1) = 1 by decide)) (by decide) (lv' := [(4, .int (z23.2 + 1)), (0, .ref (gg_o g 0)), (1, .int x1), (2, .int x2), (3, .int z23.1)]) rfl (fun ls hl => ?_)
          refine lv_goto hx hb dX5_ghosts_103 (tgt := 23) rfl ?_
          exact ih23 _ _ _ (z23.1, (z23.2 + 1)) (lv_sub hl [1, 2, 3, 4, 0] rfl) hw hf
        replace hf := h_pos hc6 hf
        refine lv_aload_n hx hb dX5_ghosts_49 rfl (lv_at hl 0 rfl) ?_
        refine gf_X5_39 cx hw hL.1 dX5_ghosts_50 ?_
        refine lv_iload hx hb dX5_ghosts_53 (lv_at hl 4 rfl) ?_
        refine lv_iload_n hx hb dX5_ghosts_55 rfl (lv_at hl 2 rfl) ?_
        refine r_VN_i (As := [.int z23.2, .int x2]) (rest := []) cx hw hf (nw_at cx) (hL.2.2.2.1 0 (by decide)).2.1 (by rw [(hL.2.2.2.1 0 (by decide)).1]; rfl) lk_X5_138 (fun q7 hq => k_X0_showing l g hg 10 (hL.2.2.2.1 0 (by decide)) hL.2.2.2.2 S z23.2 x2 q7 hq) ⟨⟨rfl, rfl⟩, Nat.le_of_ble_eq_true rfl, Nat.le_of_ble_eq_true rfl⟩ rfl hl.1 rfl (Nat.le_of_ble_eq_true rfl) dX5_ghosts_56 ⟨Nat.zero_le _, Nat.zero_le _⟩ (fun q7 H locs hw hf => ?_)
        refine lv_if_lt hx hb dX5_ghosts_59 (tgt := 100) rfl (fun hc8 => ?_) (fun hc8 => ?_)
        · replace hf := h_pos hc8 hf
          refine lv_iinc hx hb dX5_ghosts_100 hl (k := 4) rfl (congrArg (HAdd.hAdd _) (show Int32.ofInt (1) = 1 by decide)) (by decide) (lv' := [(4, .int (z23.2 + 1)), (0, .ref (gg_o g 0)), (1, .int x1), (2, .int x2), (3, .int z23.1)]) rfl (fun ls hl => ?_)
          refine lv_goto hx hb dX5_ghosts_103 (tgt := 23) rfl ?_
          exact ih23 _ _ _ (z23.1, (z23.2 + 1)) (lv_sub hl [1, 2, 3, 4, 0] rfl) hw hf
        replace hf := h_neg hc8 hf
        refine lv_aload_n hx hb dX5_ghosts_62 rfl (lv_at hl 0 rfl) ?_
        refine gf_X5_39 cx hw hL.1 dX5_ghosts_63 ?_
        refine lv_aload_n hx hb dX5_ghosts_66 rfl (lv_at hl 0 rfl) ?_
        refine gf_X5_39 cx hw hL.1 dX5_ghosts_67 ?_
        refine lv_iload hx hb dX5_ghosts_70 (lv_at hl 4 rfl) ?_
        refine lv_iload_n hx hb dX5_ghosts_72 rfl (lv_at hl 2 rfl) ?_
        refine r_VN_i (As := [.int z23.2, .int x2]) (rest := [.ref (gg_o g 10)]) cx hw hf (nw_at cx) (hL.2.2.2.1 0 (by decide)).2.1 (by rw [(hL.2.2.2.1 0 (by decide)).1]; rfl) lk_X5_141 (fun q9 hq => k_X0_roomShown l g hg 10 (hL.2.2.2.1 0 (by decide)) hL.2.2.2.2 S z23.2 x2 q9 hq) ⟨⟨rfl, rfl⟩, Nat.le_of_ble_eq_true rfl, Nat.le_of_ble_eq_true rfl⟩ rfl hl.1 rfl (Nat.le_of_ble_eq_true rfl) dX5_ghosts_73 ⟨Nat.zero_le _, Nat.zero_le _⟩ (fun q9 H locs hw hf => ?_)
        refine lv_iload_n hx hb dX5_ghosts_76 rfl (lv_at hl 2 rfl) ?_
        refine r_VN_i (As := [.int q9, .int x2]) (rest := []) cx hw hf (nw_at cx) (hL.2.2.2.1 0 (by decide)).2.1 (by rw [(hL.2.2.2.1 0 (by decide)).1]; rfl) lk_X5_191 (fun q10 hq => k_X0_menIn l g hg 10 (hL.2.2.2.1 0 (by decide)) hL.2.2.2.2 S q9 x2 q10 hq) ⟨⟨rfl, rfl⟩, Nat.le_of_ble_eq_true rfl, Nat.le_of_ble_eq_true rfl⟩ rfl hl.1 rfl (Nat.le_of_ble_eq_true rfl) dX5_ghosts_77 ⟨Nat.zero_le _, Nat.zero_le _⟩ (fun q10 H locs hw hf => ?_)
        refine lv_istore hx hb dX5_ghosts_80 hl (by decide) (lv' := [(5, .int q10), (0, .ref (gg_o g 0)), (1, .int x1), (2, .int x2), (3, .int z23.1), (4, .int z23.2)]) rfl (fun ls hl => ?_)
        refine lv_iload_n hx hb dX5_ghosts_82 rfl (lv_at hl 4 rfl) ?_
        refine lv_aload_n hx hb dX5_ghosts_83 rfl (lv_at hl 1 rfl) ?_
        refine gf_X5_39 cx hw hL.1 dX5_ghosts_84 ?_
        refine lv_iload hx hb dX5_ghosts_87 (lv_at hl 5 rfl) ?_
        refine lv_iload_n hx hb dX5_ghosts_89 rfl (lv_at hl 3 rfl) ?_
        refine r_VN_i (As := [.int z23.2, .int x2]) (rest := [.int z23.1]) cx hw hf (nw_at cx) (hL.2.2.2.1 0 (by decide)).2.1 (by rw [(hL.2.2.2.1 0 (by decide)).1]; rfl) lk_X5_144 (fun q11 hq => k_X0_menShown l g hg 10 (hL.2.2.2.1 0 (by decide)) hL.2.2.2.2 S z23.2 x2 q11 hq) ⟨⟨rfl, rfl⟩, Nat.le_of_ble_eq_true rfl, Nat.le_of_ble_eq_true rfl⟩ rfl hl.1 rfl (Nat.le_of_ble_eq_true rfl) dX5_ghosts_90 ⟨Nat.zero_le _, Nat.zero_le _⟩ (fun q11 H locs hw hf => ?_)
        refine lv_iload hx hb dX5_ghosts_93 (lv_at hl 0 rfl) ?_
        refine lv_iconst (v := -1) hx hb dX5_ghosts_95 (by decide) ?_
        refine lv_ixor hx hb dX5_ghosts_96 ?_
        refine lv_iand hx hb dX5_ghosts_97 ?_
        refine lv_ior hx hb dX5_ghosts_98 ?_
        refine r_leti hf (fun u12 hf => ?_)
        refine lv_istore_n hx hb dX5_ghosts_99 rfl hl (by decide) (lv' := [(3, .int u12), (5, .int q10), (0, .ref (gg_o g 0)), (1, .int x1), (2, .int x2), (4, .int z23.2)]) rfl (fun ls hl => ?_)
        refine lv_iinc hx hb dX5_ghosts_100 hl (k := 5) rfl (congrArg (HAdd.hAdd _) (show Int32.ofInt (1) = 1 by decide)) (by decide) (lv' := [(4, .int (z23.2 + 1)), (3, .int u12), (5, .int q10), (0, .ref (gg_o g 0)), (1, .int x1), (2, .int x2)]) rfl (fun ls hl => ?_)
        refine lv_goto hx hb dX5_ghosts_103 (tgt := 23) rfl ?_
        exact ih23 _ _ _ (u12, (z23.2 + 1)) (lv_sub hl [3, 4, 5, 1, 0] rfl) hw hf
    exact L23 x1 (st_I S (ky 10 1)) some (fun v h => h) FU _ _ _ ((0 : Int32), (0 : Int32)) (lv_sub hl [3, 4, 2, 1, 0] rfl) hw hf
  replace hf := h_pos hc2 hf
  refine lv_iconst (v := -1) hx hb dX5_ghosts_8 (by decide) ?_
  exact r_iret cx hw hr hlk hf dX5_ghosts_9
theorem dX5_oldest_0 : decode cX5_oldest 0 = .ok (.iload_n 1, 1) := by decide +kernel
theorem dX5_oldest_1 : decode cX5_oldest 1 = .ok (.iconst 2, 1) := by decide +kernel
theorem dX5_oldest_2 : decode cX5_oldest 2 = .ok (.invokestatic 112, 3) := by decide +kernel
theorem dX5_oldest_5 : decode cX5_oldest 5 = .ok (.ifCond .ne 5, 3) := by decide +kernel
theorem dX5_oldest_8 : decode cX5_oldest 8 = .ok (.iconst (-1), 1) := by decide +kernel
theorem dX5_oldest_9 : decode cX5_oldest 9 = .ok (.ireturn, 1) := by decide +kernel
theorem dX5_oldest_10 : decode cX5_oldest 10 = .ok (.bipush (-2), 2) := by decide +kernel
theorem dX5_oldest_12 : decode cX5_oldest 12 = .ok (.istore_n 2, 1) := by decide +kernel
theorem dX5_oldest_13 : decode cX5_oldest 13 = .ok (.bipush (-2), 2) := by decide +kernel
theorem dX5_oldest_15 : decode cX5_oldest 15 = .ok (.istore_n 3, 1) := by decide +kernel
theorem dX5_oldest_16 : decode cX5_oldest 16 = .ok (.iconst 0, 1) := by decide +kernel
theorem dX5_oldest_17 : decode cX5_oldest 17 = .ok (.istore 4, 2) := by decide +kernel
theorem dX5_oldest_19 : decode cX5_oldest 19 = .ok (.iload 4, 2) := by decide +kernel
theorem dX5_oldest_21 : decode cX5_oldest 21 = .ok (.aload_n 0, 1) := by decide +kernel
theorem dX5_oldest_22 : decode cX5_oldest 22 = .ok (.getfield 27, 3) := by decide +kernel
theorem dX5_oldest_25 : decode cX5_oldest 25 = .ok (.getfield 206, 3) := by decide +kernel
theorem dX5_oldest_28 : decode cX5_oldest 28 = .ok (.if_icmp .ge 48, 3) := by decide +kernel
theorem dX5_oldest_31 : decode cX5_oldest 31 = .ok (.aload_n 0, 1) := by decide +kernel
theorem dX5_oldest_32 : decode cX5_oldest 32 = .ok (.getfield 39, 3) := by decide +kernel
theorem dX5_oldest_35 : decode cX5_oldest 35 = .ok (.iload 4, 2) := by decide +kernel
theorem dX5_oldest_37 : decode cX5_oldest 37 = .ok (.aload_n 0, 1) := by decide +kernel
theorem dX5_oldest_38 : decode cX5_oldest 38 = .ok (.getfield 39, 3) := by decide +kernel
theorem dX5_oldest_41 : decode cX5_oldest 41 = .ok (.getfield 147, 3) := by decide +kernel
theorem dX5_oldest_44 : decode cX5_oldest 44 = .ok (.invokevirtual 138, 3) := by decide +kernel
theorem dX5_oldest_47 : decode cX5_oldest 47 = .ok (.istore 5, 2) := by decide +kernel
theorem dX5_oldest_49 : decode cX5_oldest 49 = .ok (.iload 5, 2) := by decide +kernel
theorem dX5_oldest_51 : decode cX5_oldest 51 = .ok (.ifCond .lt 19, 3) := by decide +kernel
theorem dX5_oldest_54 : decode cX5_oldest 54 = .ok (.iload_n 3, 1) := by decide +kernel
theorem dX5_oldest_55 : decode cX5_oldest 55 = .ok (.ifCond .lt 9, 3) := by decide +kernel
theorem dX5_oldest_58 : decode cX5_oldest 58 = .ok (.iload 5, 2) := by decide +kernel
theorem dX5_oldest_60 : decode cX5_oldest 60 = .ok (.iload_n 3, 1) := by decide +kernel
theorem dX5_oldest_61 : decode cX5_oldest 61 = .ok (.if_icmp .ge 9, 3) := by decide +kernel
theorem dX5_oldest_64 : decode cX5_oldest 64 = .ok (.iload 4, 2) := by decide +kernel
theorem dX5_oldest_66 : decode cX5_oldest 66 = .ok (.istore_n 2, 1) := by decide +kernel
theorem dX5_oldest_67 : decode cX5_oldest 67 = .ok (.iload 5, 2) := by decide +kernel
theorem dX5_oldest_69 : decode cX5_oldest 69 = .ok (.istore_n 3, 1) := by decide +kernel
theorem dX5_oldest_70 : decode cX5_oldest 70 = .ok (.iinc 4 1, 3) := by decide +kernel
theorem dX5_oldest_73 : decode cX5_oldest 73 = .ok (.goto (-54), 3) := by decide +kernel
theorem dX5_oldest_76 : decode cX5_oldest 76 = .ok (.iload_n 1, 1) := by decide +kernel
theorem dX5_oldest_77 : decode cX5_oldest 77 = .ok (.ifCond .ne 7, 3) := by decide +kernel
theorem dX5_oldest_80 : decode cX5_oldest 80 = .ok (.iload_n 2, 1) := by decide +kernel
theorem dX5_oldest_81 : decode cX5_oldest 81 = .ok (.goto 4, 3) := by decide +kernel
theorem dX5_oldest_84 : decode cX5_oldest 84 = .ok (.iload_n 3, 1) := by decide +kernel
theorem dX5_oldest_85 : decode cX5_oldest 85 = .ok (.ireturn, 1) := by decide +kernel
abbrev rm_X5_oldest : Room := { frames := 3, cells := 0, slots := 0, locals := 66 }
def f_X5_oldest_L19 (S : St) (x1 : Int32) (z19 : Int32 × Int32 × Int32) : Option ((Int32 × Int32 × Int32) ⊕ (Int32 × Int32)) :=
  chk (isT (st_P S (ky 0 4))) (if (st_I S (ky (st_P S (ky 0 4)) 3)) ≤ z19.2.2 then (some (.inr (z19.1, z19.2.1))) else ((f_X0_showing 10 S z19.2.2 (st_I S (ky 10 1))).bind (fun (q5 : Int32) => if q5 < 0 then (some (.inl (z19.1, z19.2.1, (z19.2.2 + 1)))) else (if z19.2.1 < 0 then (some (.inl (z19.2.2, q5, (z19.2.2 + 1)))) else (if z19.2.1 ≤ q5 then (some (.inl (z19.1, z19.2.1, (z19.2.2 + 1)))) else (some (.inl (z19.2.2, q5, (z19.2.2 + 1)))))))))
def f_X5_oldest (S : St) (x1 : Int32) : Option (Int32) :=
  (f_X5_within   x1 (2 : Int32)).bind (fun (q1 : Int32) => if q1 = 0 then (some (-1 : Int32)) else ((iter (f_X5_oldest_L19  S x1) FU ((-2 : Int32), (-2 : Int32), (0 : Int32))).bind (fun (u12 : Int32 × Int32) => (fun (e9 : Int32) (e10 : Int32) => if x1 = 0 then (some e9) else (some e10)) u12.1 u12.2)))
set_option maxRecDepth 100000 in
set_option maxHeartbeats 4000000 in
theorem k_X5_oldest (l : Launch) (g : GG) (hg : gd wd_C g)  (hL : hAll g) (S : St) (x1 : Int32) (q : Int32) (hf : f_X5_oldest  S x1 = some q) : Met l yX5_oldest (Cond.code yX5_oldest cX5_oldest 6 (some .int) :: gw_tbl) rm_X5_oldest (va_Pc [.ref (gg_o g 0), .int x1] (wI wd_C g S)) (qc_i wd_C g S q) 0 0 (aw g) := by
  refine mt_start (own := RX5) hg (by decide) rfl (Nat.le_of_ble_eq_true rfl) (fun p e s m args below meth c ls H locs cx hw hr hlk hl => ?_)
  have hx := cx.1
  have hb := cx.2.1
  have hown := cx.2.2.2.1
  have hts := cx.2.2.2.2.1
  have hl : lv_has ls 6 [(0, .ref (gg_o g 0)), (1, .int x1)] := hl
  replace hf := h_top hf
  unfold f_X5_oldest at hf
  refine lv_iload_n hx hb dX5_oldest_0 rfl (lv_at hl 1 rfl) ?_
  refine lv_iconst (v := 2) hx hb dX5_oldest_1 (by decide) ?_
  refine r_S_i (As := [.int x1, .int (2 : Int32)]) (rest := []) cx hw hf lk_X5_112 (fun q1 hq => k_X5_within l g hg   S x1 (2 : Int32) q1 hq) ⟨⟨rfl, rfl⟩, Nat.le_of_ble_eq_true rfl, Nat.le_of_ble_eq_true rfl⟩ rfl hl.1 rfl (Nat.le_of_ble_eq_true rfl) dX5_oldest_2 ⟨Nat.zero_le _, Nat.zero_le _⟩ (fun q1 H locs hw hf => ?_)
  refine lv_if_ne hx hb dX5_oldest_5 (tgt := 10) rfl (fun hc2 => ?_) (fun hc2 => ?_)
  · replace hf := h_neg hc2 hf
    refine lv_bipush (v := -2) hx hb dX5_oldest_10 (by decide) ?_
    refine lv_istore_n hx hb dX5_oldest_12 rfl hl (by decide) (lv' := [(2, .int (-2 : Int32)), (0, .ref (gg_o g 0)), (1, .int x1)]) rfl (fun ls hl => ?_)
    refine lv_bipush (v := -2) hx hb dX5_oldest_13 (by decide) ?_
    refine lv_istore_n hx hb dX5_oldest_15 rfl hl (by decide) (lv' := [(3, .int (-2 : Int32)), (2, .int (-2 : Int32)), (0, .ref (gg_o g 0)), (1, .int x1)]) rfl (fun ls hl => ?_)
    refine lv_iconst (v := 0) hx hb dX5_oldest_16 (by decide) ?_
    refine lv_istore hx hb dX5_oldest_17 hl (by decide) (lv' := [(4, .int (0 : Int32)), (3, .int (-2 : Int32)), (2, .int (-2 : Int32)), (0, .ref (gg_o g 0)), (1, .int x1)]) rfl (fun ls hl => ?_)
    have L19 : ∀ (x1 : Int32) (aft19 : (Int32 × Int32) → Option (Int32)), (∀ (ls : Array Slot) (H : Heap) (locs : List Loc) (e2 : Int32) (e3 : Int32), lv_has ls 6 [(1, .int x1), (2, .int e2), (3, .int e3)] → HH wd_C g s S H locs → aft19 (e2, e3) = some q → W p l e rm_X5_oldest s m args below meth c H locs 0 0 (MQ below (qc_i wd_C g S q) args s 0 0 (aw g)) (F0 m 76 ls [])) → ∀ (n19 : Nat) (ls : Array Slot) (H : Heap) (locs : List Loc) (z19 : Int32 × Int32 × Int32), lv_has ls 6 [(0, .ref (gg_o g 0)), (1, .int x1), (2, .int z19.1), (3, .int z19.2.1), (4, .int z19.2.2)] → HH wd_C g s S H locs → (iter (f_X5_oldest_L19  S x1) n19 z19).bind aft19 = some q → W p l e rm_X5_oldest s m args below meth c H locs 0 0 (MQ below (qc_i wd_C g S q) args s 0 0 (aw g)) (F0 m 19 ls []) := by
      intro x1 aft19 hX19 n19
      induction n19 with
      | zero => intro ls H locs z19 hl hw hf; exact h_iter0 hf
      | succ n19 ih19 =>
        intro ls H locs z19 hl hw hf
        replace hf := h_iter hf
        unfold f_X5_oldest_L19 at hf
        refine lv_iload hx hb dX5_oldest_19 (lv_at hl 4 rfl) ?_
        refine lv_aload_n hx hb dX5_oldest_21 rfl (lv_at hl 0 rfl) ?_
        obtain ⟨hc3, hf⟩ := h_chk hf
        refine gf_X5_27 cx hw hL.1 dX5_oldest_22 ?_
        refine gf_X5_206 cx hw ((allT_at hL.2.2.2.2 hc3).1) dX5_oldest_25 ?_
        refine lv_icmp_ge hx hb dX5_oldest_28 (tgt := 76) rfl (fun hc4 => ?_) (fun hc4 => ?_)
        · replace hf := h_pos hc4 hf
          exact hX19 _ _ _ z19.1 z19.2.1 (lv_sub hl [1, 2, 3] rfl) hw hf
        replace hf := h_neg hc4 hf
        refine lv_aload_n hx hb dX5_oldest_31 rfl (lv_at hl 0 rfl) ?_
        refine gf_X5_39 cx hw hL.1 dX5_oldest_32 ?_
        refine lv_iload hx hb dX5_oldest_35 (lv_at hl 4 rfl) ?_
        refine lv_aload_n hx hb dX5_oldest_37 rfl (lv_at hl 0 rfl) ?_
        refine gf_X5_39 cx hw hL.1 dX5_oldest_38 ?_
        refine gf_X5_147 cx hw (hL.2.2.2.1 0 (by decide)) dX5_oldest_41 ?_
        refine r_VN_i (As := [.int z19.2.2, .int (st_I S (ky 10 1))]) (rest := []) cx hw hf (nw_at cx) (hL.2.2.2.1 0 (by decide)).2.1 (by rw [(hL.2.2.2.1 0 (by decide)).1]; rfl) lk_X5_138 (fun q5 hq => k_X0_showing l g hg 10 (hL.2.2.2.1 0 (by decide)) hL.2.2.2.2 S z19.2.2 (st_I S (ky 10 1)) q5 hq) ⟨⟨rfl, rfl⟩, Nat.le_of_ble_eq_true rfl, Nat.le_of_ble_eq_true rfl⟩ rfl hl.1 rfl (Nat.le_of_ble_eq_true rfl) dX5_oldest_44 ⟨Nat.zero_le _, Nat.zero_le _⟩ (fun q5 H locs hw hf => ?_)
        refine lv_istore hx hb dX5_oldest_47 hl (by decide) (lv' := [(5, .int q5), (0, .ref (gg_o g 0)), (1, .int x1), (2, .int z19.1), (3, .int z19.2.1), (4, .int z19.2.2)]) rfl (fun ls hl => ?_)
        refine lv_iload hx hb dX5_oldest_49 (lv_at hl 0 rfl) ?_
        refine lv_if_lt hx hb dX5_oldest_51 (tgt := 70) rfl (fun hc6 => ?_) (fun hc6 => ?_)
        · replace hf := h_pos hc6 hf
          refine lv_iinc hx hb dX5_oldest_70 hl (k := 5) rfl (congrArg (HAdd.hAdd _) (show Int32.ofInt (1) = 1 by decide)) (by decide) (lv' := [(4, .int (z19.2.2 + 1)), (5, .int q5), (0, .ref (gg_o g 0)), (1, .int x1), (2, .int z19.1), (3, .int z19.2.1)]) rfl (fun ls hl => ?_)
          refine lv_goto hx hb dX5_oldest_73 (tgt := 19) rfl ?_
          exact ih19 _ _ _ (z19.1, z19.2.1, (z19.2.2 + 1)) (lv_sub hl [2, 3, 4, 5, 0] rfl) hw hf
        replace hf := h_neg hc6 hf
        refine lv_iload_n hx hb dX5_oldest_54 rfl (lv_at hl 4 rfl) ?_
        refine lv_if_lt hx hb dX5_oldest_55 (tgt := 64) rfl (fun hc7 => ?_) (fun hc7 => ?_)
        · replace hf := h_pos hc7 hf
          refine lv_iload hx hb dX5_oldest_64 (lv_at hl 5 rfl) ?_
          refine lv_istore_n hx hb dX5_oldest_66 rfl hl (by decide) (lv' := [(2, .int z19.2.2), (5, .int q5), (0, .ref (gg_o g 0)), (1, .int x1), (3, .int z19.2.1), (4, .int z19.2.2)]) rfl (fun ls hl => ?_)
          refine lv_iload hx hb dX5_oldest_67 (lv_at hl 1 rfl) ?_
          refine lv_istore_n hx hb dX5_oldest_69 rfl hl (by decide) (lv' := [(3, .int q5), (2, .int z19.2.2), (5, .int q5), (0, .ref (gg_o g 0)), (1, .int x1), (4, .int z19.2.2)]) rfl (fun ls hl => ?_)
          refine lv_iinc hx hb dX5_oldest_70 hl (k := 5) rfl (congrArg (HAdd.hAdd _) (show Int32.ofInt (1) = 1 by decide)) (by decide) (lv' := [(4, .int (z19.2.2 + 1)), (3, .int q5), (2, .int z19.2.2), (5, .int q5), (0, .ref (gg_o g 0)), (1, .int x1)]) rfl (fun ls hl => ?_)
          refine lv_goto hx hb dX5_oldest_73 (tgt := 19) rfl ?_
          exact ih19 _ _ _ (z19.2.2, q5, (z19.2.2 + 1)) (lv_sub hl [4, 5, 2, 1, 0] rfl) hw hf
        replace hf := h_neg hc7 hf
        refine lv_iload hx hb dX5_oldest_58 (lv_at hl 0 rfl) ?_
        refine lv_iload_n hx hb dX5_oldest_60 rfl (lv_at hl 4 rfl) ?_
        refine lv_icmp_ge hx hb dX5_oldest_61 (tgt := 70) rfl (fun hc8 => ?_) (fun hc8 => ?_)
        · replace hf := h_pos hc8 hf
          refine lv_iinc hx hb dX5_oldest_70 hl (k := 5) rfl (congrArg (HAdd.hAdd _) (show Int32.ofInt (1) = 1 by decide)) (by decide) (lv' := [(4, .int (z19.2.2 + 1)), (5, .int q5), (0, .ref (gg_o g 0)), (1, .int x1), (2, .int z19.1), (3, .int z19.2.1)]) rfl (fun ls hl => ?_)
          refine lv_goto hx hb dX5_oldest_73 (tgt := 19) rfl ?_
          exact ih19 _ _ _ (z19.1, z19.2.1, (z19.2.2 + 1)) (lv_sub hl [2, 3, 4, 5, 0] rfl) hw hf
        replace hf := h_neg hc8 hf
        refine lv_iload hx hb dX5_oldest_64 (lv_at hl 5 rfl) ?_
        refine lv_istore_n hx hb dX5_oldest_66 rfl hl (by decide) (lv' := [(2, .int z19.2.2), (5, .int q5), (0, .ref (gg_o g 0)), (1, .int x1), (3, .int z19.2.1), (4, .int z19.2.2)]) rfl (fun ls hl => ?_)
        refine lv_iload hx hb dX5_oldest_67 (lv_at hl 1 rfl) ?_
        refine lv_istore_n hx hb dX5_oldest_69 rfl hl (by decide) (lv' := [(3, .int q5), (2, .int z19.2.2), (5, .int q5), (0, .ref (gg_o g 0)), (1, .int x1), (4, .int z19.2.2)]) rfl (fun ls hl => ?_)
        refine lv_iinc hx hb dX5_oldest_70 hl (k := 5) rfl (congrArg (HAdd.hAdd _) (show Int32.ofInt (1) = 1 by decide)) (by decide) (lv' := [(4, .int (z19.2.2 + 1)), (3, .int q5), (2, .int z19.2.2), (5, .int q5), (0, .ref (gg_o g 0)), (1, .int x1)]) rfl (fun ls hl => ?_)
        refine lv_goto hx hb dX5_oldest_73 (tgt := 19) rfl ?_
        exact ih19 _ _ _ (z19.2.2, q5, (z19.2.2 + 1)) (lv_sub hl [4, 5, 2, 1, 0] rfl) hw hf
    refine L19 x1 _ (fun ls H locs e9 e10 hl hw hf => ?_) FU _ _ _ ((-2 : Int32), (-2 : Int32), (0 : Int32)) (lv_sub hl [3, 4, 2, 1, 0] rfl) hw (h_assoc hf)
    try dsimp only at hf
    refine lv_iload_n hx hb dX5_oldest_76 rfl (lv_at hl 0 rfl) ?_
    refine lv_if_ne hx hb dX5_oldest_77 (tgt := 84) rfl (fun hc11 => ?_) (fun hc11 => ?_)
    · replace hf := h_neg hc11 hf
      refine lv_iload_n hx hb dX5_oldest_84 rfl (lv_at hl 2 rfl) ?_
      exact r_iret cx hw hr hlk hf dX5_oldest_85
    replace hf := h_pos hc11 hf
    refine lv_iload_n hx hb dX5_oldest_80 rfl (lv_at hl 1 rfl) ?_
    refine lv_goto hx hb dX5_oldest_81 (tgt := 85) rfl ?_
    exact r_iret cx hw hr hlk hf dX5_oldest_85
  replace hf := h_pos hc2 hf
  refine lv_iconst (v := -1) hx hb dX5_oldest_8 (by decide) ?_
  exact r_iret cx hw hr hlk hf dX5_oldest_9
theorem dX5_tallyShown_0 : decode cX5_tallyShown 0 = .ok (.iconst 0, 1) := by decide +kernel
theorem dX5_tallyShown_1 : decode cX5_tallyShown 1 = .ok (.istore_n 2, 1) := by decide +kernel
theorem dX5_tallyShown_2 : decode cX5_tallyShown 2 = .ok (.iload_n 2, 1) := by decide +kernel
theorem dX5_tallyShown_3 : decode cX5_tallyShown 3 = .ok (.sipush 300, 3) := by decide +kernel
theorem dX5_tallyShown_6 : decode cX5_tallyShown 6 = .ok (.if_icmp .ge 18, 3) := by decide +kernel
theorem dX5_tallyShown_9 : decode cX5_tallyShown 9 = .ok (.aload_n 0, 1) := by decide +kernel
theorem dX5_tallyShown_10 : decode cX5_tallyShown 10 = .ok (.getfield 66, 3) := by decide +kernel
theorem dX5_tallyShown_13 : decode cX5_tallyShown 13 = .ok (.iload_n 2, 1) := by decide +kernel
theorem dX5_tallyShown_14 : decode cX5_tallyShown 14 = .ok (.iconst 0, 1) := by decide +kernel
theorem dX5_tallyShown_15 : decode cX5_tallyShown 15 = .ok (.invokestatic 76, 3) := by decide +kernel
theorem dX5_tallyShown_18 : decode cX5_tallyShown 18 = .ok (.iinc 2 1, 3) := by decide +kernel
theorem dX5_tallyShown_21 : decode cX5_tallyShown 21 = .ok (.goto (-19), 3) := by decide +kernel
theorem dX5_tallyShown_24 : decode cX5_tallyShown 24 = .ok (.iconst 0, 1) := by decide +kernel
theorem dX5_tallyShown_25 : decode cX5_tallyShown 25 = .ok (.istore_n 2, 1) := by decide +kernel
theorem dX5_tallyShown_26 : decode cX5_tallyShown 26 = .ok (.iload_n 2, 1) := by decide +kernel
theorem dX5_tallyShown_27 : decode cX5_tallyShown 27 = .ok (.aload_n 0, 1) := by decide +kernel
theorem dX5_tallyShown_28 : decode cX5_tallyShown 28 = .ok (.getfield 39, 3) := by decide +kernel
theorem dX5_tallyShown_31 : decode cX5_tallyShown 31 = .ok (.getfield 147, 3) := by decide +kernel
theorem dX5_tallyShown_34 : decode cX5_tallyShown 34 = .ok (.if_icmp .gt 41, 3) := by decide +kernel
theorem dX5_tallyShown_37 : decode cX5_tallyShown 37 = .ok (.aload_n 0, 1) := by decide +kernel
theorem dX5_tallyShown_38 : decode cX5_tallyShown 38 = .ok (.getfield 39, 3) := by decide +kernel
theorem dX5_tallyShown_41 : decode cX5_tallyShown 41 = .ok (.iload_n 1, 1) := by decide +kernel
theorem dX5_tallyShown_42 : decode cX5_tallyShown 42 = .ok (.iload_n 2, 1) := by decide +kernel
theorem dX5_tallyShown_43 : decode cX5_tallyShown 43 = .ok (.invokevirtual 138, 3) := by decide +kernel
theorem dX5_tallyShown_46 : decode cX5_tallyShown 46 = .ok (.istore_n 3, 1) := by decide +kernel
theorem dX5_tallyShown_47 : decode cX5_tallyShown 47 = .ok (.iload_n 3, 1) := by decide +kernel
theorem dX5_tallyShown_48 : decode cX5_tallyShown 48 = .ok (.ifCond .lt 21, 3) := by decide +kernel
theorem dX5_tallyShown_51 : decode cX5_tallyShown 51 = .ok (.aload_n 0, 1) := by decide +kernel
theorem dX5_tallyShown_52 : decode cX5_tallyShown 52 = .ok (.getfield 66, 3) := by decide +kernel
theorem dX5_tallyShown_55 : decode cX5_tallyShown 55 = .ok (.iload_n 3, 1) := by decide +kernel
theorem dX5_tallyShown_56 : decode cX5_tallyShown 56 = .ok (.aload_n 0, 1) := by decide +kernel
theorem dX5_tallyShown_57 : decode cX5_tallyShown 57 = .ok (.getfield 66, 3) := by decide +kernel
theorem dX5_tallyShown_60 : decode cX5_tallyShown 60 = .ok (.iload_n 3, 1) := by decide +kernel
theorem dX5_tallyShown_61 : decode cX5_tallyShown 61 = .ok (.invokestatic 212, 3) := by decide +kernel
theorem dX5_tallyShown_64 : decode cX5_tallyShown 64 = .ok (.iconst 1, 1) := by decide +kernel
theorem dX5_tallyShown_65 : decode cX5_tallyShown 65 = .ok (.iadd, 1) := by decide +kernel
theorem dX5_tallyShown_66 : decode cX5_tallyShown 66 = .ok (.invokestatic 76, 3) := by decide +kernel
theorem dX5_tallyShown_69 : decode cX5_tallyShown 69 = .ok (.iinc 2 1, 3) := by decide +kernel
theorem dX5_tallyShown_72 : decode cX5_tallyShown 72 = .ok (.goto (-46), 3) := by decide +kernel
theorem dX5_tallyShown_75 : decode cX5_tallyShown 75 = .ok (.return_, 1) := by decide +kernel
abbrev rm_X5_tallyShown : Room := { frames := 3, cells := 0, slots := 0, locals := 66 }
def f_X5_tallyShown_L2 (x1 : Int32) (z2 : Int32 × St) : Option ((Int32 × St) ⊕ (St)) :=
  if (300 : Int32) ≤ z2.1 then (some (.inr z2.2)) else ((f_X5_put (ky 0 15) z2.2 z2.1 (0 : Int32)).bind (fun (q2 : St) => some (.inl ((z2.1 + 1), q2))))
def f_X5_tallyShown_L26 (x1 : Int32) (z26 : Int32 × St) : Option ((Int32 × St) ⊕ (St)) :=
  if (st_I z26.2 (ky 10 1)) < z26.1 then (some (.inr z26.2)) else ((f_X0_showing 10 z26.2 x1 z26.1).bind (fun (q5 : Int32) => if q5 < 0 then (some (.inl ((z26.1 + 1), z26.2))) else ((f_X5_at (ky 0 15) z26.2 q5).bind (fun (q7 : Int32) => (f_X5_put (ky 0 15) z26.2 q5 (q7 + (1 : Int32))).bind (fun (q8 : St) => some (.inl ((z26.1 + 1), q8)))))))
def f_X5_tallyShown (S : St) (x1 : Int32) : Option (St) :=
  (iter (f_X5_tallyShown_L2   x1) FU ((0 : Int32), S)).bind (fun (S3 : St) => iter (f_X5_tallyShown_L26   x1) FU ((0 : Int32), S3))
set_option maxRecDepth 100000 in
set_option maxHeartbeats 4000000 in
theorem k_X5_tallyShown (l : Launch) (g : GG) (hg : gd wd_C g)  (hL : hAll g) (S : St) (x1 : Int32) (q : St) (hf : f_X5_tallyShown  S x1 = some q) : Met l yX5_tallyShown (Cond.code yX5_tallyShown cX5_tallyShown 4 none :: gw_tbl) rm_X5_tallyShown (va_Pc [.ref (gg_o g 0), .int x1] (wI wd_C g S)) (qc_v wd_C g q) 0 0 (aw g) := by
  refine mt_start (own := RX5) hg (by decide) rfl (Nat.le_of_ble_eq_true rfl) (fun p e s m args below meth c ls H locs cx hw hr hlk hl => ?_)
  have hx := cx.1
  have hb := cx.2.1
  have hown := cx.2.2.2.1
  have hts := cx.2.2.2.2.1
  have hl : lv_has ls 4 [(0, .ref (gg_o g 0)), (1, .int x1)] := hl
  replace hf := h_top hf
  unfold f_X5_tallyShown at hf
  refine lv_iconst (v := 0) hx hb dX5_tallyShown_0 (by decide) ?_
  refine lv_istore_n hx hb dX5_tallyShown_1 rfl hl (by decide) (lv' := [(2, .int (0 : Int32)), (0, .ref (gg_o g 0)), (1, .int x1)]) rfl (fun ls hl => ?_)
  have L2 : ∀ (x1 : Int32) (aft2 : St → Option (St)), (∀ (ls : Array Slot) (H : Heap) (locs : List Loc) (S1 : St), lv_has ls 4 [(0, .ref (gg_o g 0)), (1, .int x1)] → HH wd_C g s S1 H locs → aft2 S1 = some q → W p l e rm_X5_tallyShown s m args below meth c H locs 0 0 (MQ below (qc_v wd_C g q) args s 0 0 (aw g)) (F0 m 24 ls [])) → ∀ (n2 : Nat) (ls : Array Slot) (H : Heap) (locs : List Loc) (z2 : Int32 × St), lv_has ls 4 [(0, .ref (gg_o g 0)), (1, .int x1), (2, .int z2.1)] → HH wd_C g s z2.2 H locs → (iter (f_X5_tallyShown_L2   x1) n2 z2).bind aft2 = some q → W p l e rm_X5_tallyShown s m args below meth c H locs 0 0 (MQ below (qc_v wd_C g q) args s 0 0 (aw g)) (F0 m 2 ls []) := by
    intro x1 aft2 hX2 n2
    induction n2 with
    | zero => intro ls H locs z2 hl hw hf; exact h_iter0 hf
    | succ n2 ih2 =>
      intro ls H locs z2 hl hw hf
      replace hf := h_iter hf
      unfold f_X5_tallyShown_L2 at hf
      refine lv_iload_n hx hb dX5_tallyShown_2 rfl (lv_at hl 2 rfl) ?_
      refine lv_sipush (v := 300) hx hb dX5_tallyShown_3 (by decide) ?_
      refine lv_icmp_ge hx hb dX5_tallyShown_6 (tgt := 24) rfl (fun hc1 => ?_) (fun hc1 => ?_)
      · replace hf := h_pos hc1 hf
        exact hX2 _ _ _ z2.2 (lv_sub hl [0, 1] rfl) hw hf
      replace hf := h_neg hc1 hf
      refine lv_aload_n hx hb dX5_tallyShown_9 rfl (lv_at hl 0 rfl) ?_
      refine gf_X5_66 cx hw hL.1 dX5_tallyShown_10 ?_
      refine lv_iload_n hx hb dX5_tallyShown_13 rfl (lv_at hl 2 rfl) ?_
      refine lv_iconst (v := 0) hx hb dX5_tallyShown_14 (by decide) ?_
      refine r_S_v (As := [.ref (gg_a g (ky 0 15)), .int z2.1, .int (0 : Int32)]) (rest := []) cx hw hf lk_X5_76 (fun q2 hq => k_X5_put l g hg (ky 0 15) (hL.1.2.2.1 15 rfl) z2.2 z2.1 (0 : Int32) q2 hq) ⟨⟨rfl, rfl⟩, Nat.le_of_ble_eq_true rfl, Nat.le_of_ble_eq_true rfl⟩ rfl hl.1 rfl (Nat.le_of_ble_eq_true rfl) dX5_tallyShown_15 ⟨Nat.zero_le _, Nat.zero_le _⟩ (fun q2 H locs hw hf => ?_)
      refine lv_iinc hx hb dX5_tallyShown_18 hl (k := 2) rfl (congrArg (HAdd.hAdd _) (show Int32.ofInt (1) = 1 by decide)) (by decide) (lv' := [(2, .int (z2.1 + 1)), (0, .ref (gg_o g 0)), (1, .int x1)]) rfl (fun ls hl => ?_)
      refine lv_goto hx hb dX5_tallyShown_21 (tgt := 2) rfl ?_
      exact ih2 _ _ _ ((z2.1 + 1), q2) (lv_sub hl [1, 2, 0] rfl) hw hf
  refine L2 x1 _ (fun ls H locs S3 hl hw hf => ?_) FU _ _ _ ((0 : Int32), S) (lv_sub hl [1, 2, 0] rfl) hw (h_assoc hf)
  try dsimp only at hf
  refine lv_iconst (v := 0) hx hb dX5_tallyShown_24 (by decide) ?_
  refine lv_istore_n hx hb dX5_tallyShown_25 rfl hl (by decide) (lv' := [(2, .int (0 : Int32)), (0, .ref (gg_o g 0)), (1, .int x1)]) rfl (fun ls hl => ?_)
  have L26 : ∀ (x1 : Int32) (aft26 : St → Option (St)), (∀ v : St, aft26 v = some q → (some v : Option (St)).bind some = some q) → ∀ (n26 : Nat) (ls : Array Slot) (H : Heap) (locs : List Loc) (z26 : Int32 × St), lv_has ls 4 [(0, .ref (gg_o g 0)), (1, .int x1), (2, .int z26.1)] → HH wd_C g s z26.2 H locs → (iter (f_X5_tallyShown_L26   x1) n26 z26).bind aft26 = some q → W p l e rm_X5_tallyShown s m args below meth c H locs 0 0 (MQ below (qc_v wd_C g q) args s 0 0 (aw g)) (F0 m 26 ls []) := by
    intro x1 aft26 hR26 n26
    induction n26 with
    | zero => intro ls H locs z26 hl hw hf; exact h_iter0 hf
    | succ n26 ih26 =>
      intro ls H locs z26 hl hw hf
      replace hf := h_iter hf
      unfold f_X5_tallyShown_L26 at hf
      refine lv_iload_n hx hb dX5_tallyShown_26 rfl (lv_at hl 2 rfl) ?_
      refine lv_aload_n hx hb dX5_tallyShown_27 rfl (lv_at hl 0 rfl) ?_
      refine gf_X5_39 cx hw hL.1 dX5_tallyShown_28 ?_
      refine gf_X5_147 cx hw (hL.2.2.2.1 0 (by decide)) dX5_tallyShown_31 ?_
      refine lv_icmp_gt hx hb dX5_tallyShown_34 (tgt := 75) rfl (fun hc4 => ?_) (fun hc4 => ?_)
      · replace hf := h_pos hc4 hf
        replace hf := hR26 z26.2 hf
        exact r_vret cx hw hr hlk hf dX5_tallyShown_75
      replace hf := h_neg hc4 hf
      refine lv_aload_n hx hb dX5_tallyShown_37 rfl (lv_at hl 0 rfl) ?_
      refine gf_X5_39 cx hw hL.1 dX5_tallyShown_38 ?_
      refine lv_iload_n hx hb dX5_tallyShown_41 rfl (lv_at hl 1 rfl) ?_
      refine lv_iload_n hx hb dX5_tallyShown_42 rfl (lv_at hl 2 rfl) ?_
      refine r_VN_i (As := [.int x1, .int z26.1]) (rest := []) cx hw hf (nw_at cx) (hL.2.2.2.1 0 (by decide)).2.1 (by rw [(hL.2.2.2.1 0 (by decide)).1]; rfl) lk_X5_138 (fun q5 hq => k_X0_showing l g hg 10 (hL.2.2.2.1 0 (by decide)) hL.2.2.2.2 z26.2 x1 z26.1 q5 hq) ⟨⟨rfl, rfl⟩, Nat.le_of_ble_eq_true rfl, Nat.le_of_ble_eq_true rfl⟩ rfl hl.1 rfl (Nat.le_of_ble_eq_true rfl) dX5_tallyShown_43 ⟨Nat.zero_le _, Nat.zero_le _⟩ (fun q5 H locs hw hf => ?_)
      refine lv_istore_n hx hb dX5_tallyShown_46 rfl hl (by decide) (lv' := [(3, .int q5), (0, .ref (gg_o g 0)), (1, .int x1), (2, .int z26.1)]) rfl (fun ls hl => ?_)
      refine lv_iload_n hx hb dX5_tallyShown_47 rfl (lv_at hl 0 rfl) ?_
      refine lv_if_lt hx hb dX5_tallyShown_48 (tgt := 69) rfl (fun hc6 => ?_) (fun hc6 => ?_)
      · replace hf := h_pos hc6 hf
        refine lv_iinc hx hb dX5_tallyShown_69 hl (k := 3) rfl (congrArg (HAdd.hAdd _) (show Int32.ofInt (1) = 1 by decide)) (by decide) (lv' := [(2, .int (z26.1 + 1)), (3, .int q5), (0, .ref (gg_o g 0)), (1, .int x1)]) rfl (fun ls hl => ?_)
        refine lv_goto hx hb dX5_tallyShown_72 (tgt := 26) rfl ?_
        exact ih26 _ _ _ ((z26.1 + 1), z26.2) (lv_sub hl [2, 3, 0] rfl) hw hf
      replace hf := h_neg hc6 hf
      refine lv_aload_n hx hb dX5_tallyShown_51 rfl (lv_at hl 1 rfl) ?_
      refine gf_X5_66 cx hw hL.1 dX5_tallyShown_52 ?_
      refine lv_iload_n hx hb dX5_tallyShown_55 rfl (lv_at hl 0 rfl) ?_
      refine lv_aload_n hx hb dX5_tallyShown_56 rfl (lv_at hl 1 rfl) ?_
      refine gf_X5_66 cx hw hL.1 dX5_tallyShown_57 ?_
      refine lv_iload_n hx hb dX5_tallyShown_60 rfl (lv_at hl 0 rfl) ?_
      refine r_S_i (As := [.ref (gg_a g (ky 0 15)), .int q5]) (rest := [.int q5, .ref (gg_a g (ky 0 15))]) cx hw hf lk_X5_212 (fun q7 hq => k_X5_at l g hg (ky 0 15) (hL.1.2.2.1 15 rfl) z26.2 q5 q7 hq) ⟨⟨rfl, rfl⟩, Nat.le_of_ble_eq_true rfl, Nat.le_of_ble_eq_true rfl⟩ rfl hl.1 rfl (Nat.le_of_ble_eq_true rfl) dX5_tallyShown_61 ⟨Nat.zero_le _, Nat.zero_le _⟩ (fun q7 H locs hw hf => ?_)
      refine lv_iconst (v := 1) hx hb dX5_tallyShown_64 (by decide) ?_
      refine lv_iadd hx hb dX5_tallyShown_65 ?_
      refine r_S_v (As := [.ref (gg_a g (ky 0 15)), .int q5, .int (q7 + (1 : Int32))]) (rest := []) cx hw hf lk_X5_76 (fun q8 hq => k_X5_put l g hg (ky 0 15) (hL.1.2.2.1 15 rfl) z26.2 q5 (q7 + (1 : Int32)) q8 hq) ⟨⟨rfl, rfl⟩, Nat.le_of_ble_eq_true rfl, Nat.le_of_ble_eq_true rfl⟩ rfl hl.1 rfl (Nat.le_of_ble_eq_true rfl) dX5_tallyShown_66 ⟨Nat.zero_le _, Nat.zero_le _⟩ (fun q8 H locs hw hf => ?_)
      refine lv_iinc hx hb dX5_tallyShown_69 hl (k := 3) rfl (congrArg (HAdd.hAdd _) (show Int32.ofInt (1) = 1 by decide)) (by decide) (lv' := [(2, .int (z26.1 + 1)), (3, .int q5), (0, .ref (gg_o g 0)), (1, .int x1)]) rfl (fun ls hl => ?_)
      refine lv_goto hx hb dX5_tallyShown_72 (tgt := 26) rfl ?_
      exact ih26 _ _ _ ((z26.1 + 1), q8) (lv_sub hl [2, 3, 0] rfl) hw hf
  exact L26 x1 some (fun v h => h) FU _ _ _ ((0 : Int32), S3) (lv_sub hl [1, 2, 0] rfl) hw hf
theorem dX5_shown_0 : decode cX5_shown 0 = .ok (.aload_n 0, 1) := by decide +kernel
theorem dX5_shown_1 : decode cX5_shown 1 = .ok (.iload_n 1, 1) := by decide +kernel
theorem dX5_shown_2 : decode cX5_shown 2 = .ok (.invokevirtual 123, 3) := by decide +kernel
theorem dX5_shown_5 : decode cX5_shown 5 = .ok (.ifCond .ne 5, 3) := by decide +kernel
theorem dX5_shown_8 : decode cX5_shown 8 = .ok (.iconst (-1), 1) := by decide +kernel
theorem dX5_shown_9 : decode cX5_shown 9 = .ok (.ireturn, 1) := by decide +kernel
theorem dX5_shown_10 : decode cX5_shown 10 = .ok (.aload_n 0, 1) := by decide +kernel
theorem dX5_shown_11 : decode cX5_shown 11 = .ok (.iload_n 1, 1) := by decide +kernel
theorem dX5_shown_12 : decode cX5_shown 12 = .ok (.invokevirtual 209, 3) := by decide +kernel
theorem dX5_shown_15 : decode cX5_shown 15 = .ok (.sipush 300, 3) := by decide +kernel
theorem dX5_shown_18 : decode cX5_shown 18 = .ok (.istore_n 3, 1) := by decide +kernel
theorem dX5_shown_19 : decode cX5_shown 19 = .ok (.iconst (-1), 1) := by decide +kernel
theorem dX5_shown_20 : decode cX5_shown 20 = .ok (.istore 4, 2) := by decide +kernel
theorem dX5_shown_22 : decode cX5_shown 22 = .ok (.iconst 0, 1) := by decide +kernel
theorem dX5_shown_23 : decode cX5_shown 23 = .ok (.istore 5, 2) := by decide +kernel
theorem dX5_shown_25 : decode cX5_shown 25 = .ok (.iconst 0, 1) := by decide +kernel
theorem dX5_shown_26 : decode cX5_shown 26 = .ok (.istore 6, 2) := by decide +kernel
theorem dX5_shown_28 : decode cX5_shown 28 = .ok (.iconst 0, 1) := by decide +kernel
theorem dX5_shown_29 : decode cX5_shown 29 = .ok (.istore 7, 2) := by decide +kernel
theorem dX5_shown_31 : decode cX5_shown 31 = .ok (.iload 7, 2) := by decide +kernel
theorem dX5_shown_33 : decode cX5_shown 33 = .ok (.sipush 300, 3) := by decide +kernel
theorem dX5_shown_36 : decode cX5_shown 36 = .ok (.if_icmp .ge 48, 3) := by decide +kernel
theorem dX5_shown_39 : decode cX5_shown 39 = .ok (.aload_n 0, 1) := by decide +kernel
theorem dX5_shown_40 : decode cX5_shown 40 = .ok (.getfield 66, 3) := by decide +kernel
theorem dX5_shown_43 : decode cX5_shown 43 = .ok (.iload 7, 2) := by decide +kernel
theorem dX5_shown_45 : decode cX5_shown 45 = .ok (.invokestatic 212, 3) := by decide +kernel
theorem dX5_shown_48 : decode cX5_shown 48 = .ok (.istore 8, 2) := by decide +kernel
theorem dX5_shown_50 : decode cX5_shown 50 = .ok (.iload 8, 2) := by decide +kernel
theorem dX5_shown_52 : decode cX5_shown 52 = .ok (.ifCond .le 17, 3) := by decide +kernel
theorem dX5_shown_55 : decode cX5_shown 55 = .ok (.iload_n 3, 1) := by decide +kernel
theorem dX5_shown_56 : decode cX5_shown 56 = .ok (.iload 7, 2) := by decide +kernel
theorem dX5_shown_58 : decode cX5_shown 58 = .ok (.invokestatic 215, 3) := by decide +kernel
theorem dX5_shown_61 : decode cX5_shown 61 = .ok (.istore_n 3, 1) := by decide +kernel
theorem dX5_shown_62 : decode cX5_shown 62 = .ok (.iload 7, 2) := by decide +kernel
theorem dX5_shown_64 : decode cX5_shown 64 = .ok (.istore 4, 2) := by decide +kernel
theorem dX5_shown_66 : decode cX5_shown 66 = .ok (.iinc 5 1, 3) := by decide +kernel
theorem dX5_shown_69 : decode cX5_shown 69 = .ok (.iload 8, 2) := by decide +kernel
theorem dX5_shown_71 : decode cX5_shown 71 = .ok (.iconst 1, 1) := by decide +kernel
theorem dX5_shown_72 : decode cX5_shown 72 = .ok (.if_icmp .le 6, 3) := by decide +kernel
theorem dX5_shown_75 : decode cX5_shown 75 = .ok (.iinc 6 1, 3) := by decide +kernel
theorem dX5_shown_78 : decode cX5_shown 78 = .ok (.iinc 7 1, 3) := by decide +kernel
theorem dX5_shown_81 : decode cX5_shown 81 = .ok (.goto (-50), 3) := by decide +kernel
theorem dX5_shown_84 : decode cX5_shown 84 = .ok (.iload_n 2, 1) := by decide +kernel
theorem dX5_shown_85 : decode cX5_shown 85 = .ok (.ifCond .ne 8, 3) := by decide +kernel
theorem dX5_shown_88 : decode cX5_shown 88 = .ok (.iload 6, 2) := by decide +kernel
theorem dX5_shown_90 : decode cX5_shown 90 = .ok (.goto 21, 3) := by decide +kernel
theorem dX5_shown_93 : decode cX5_shown 93 = .ok (.iload 5, 2) := by decide +kernel
theorem dX5_shown_95 : decode cX5_shown 95 = .ok (.ifCond .ne 7, 3) := by decide +kernel
theorem dX5_shown_98 : decode cX5_shown 98 = .ok (.iconst 0, 1) := by decide +kernel
theorem dX5_shown_99 : decode cX5_shown 99 = .ok (.goto 12, 3) := by decide +kernel
theorem dX5_shown_102 : decode cX5_shown 102 = .ok (.iload 4, 2) := by decide +kernel
theorem dX5_shown_104 : decode cX5_shown 104 = .ok (.iload_n 3, 1) := by decide +kernel
theorem dX5_shown_105 : decode cX5_shown 105 = .ok (.isub, 1) := by decide +kernel
theorem dX5_shown_106 : decode cX5_shown 106 = .ok (.iconst 1, 1) := by decide +kernel
theorem dX5_shown_107 : decode cX5_shown 107 = .ok (.iadd, 1) := by decide +kernel
theorem dX5_shown_108 : decode cX5_shown 108 = .ok (.iload 5, 2) := by decide +kernel
theorem dX5_shown_110 : decode cX5_shown 110 = .ok (.isub, 1) := by decide +kernel
theorem dX5_shown_111 : decode cX5_shown 111 = .ok (.ireturn, 1) := by decide +kernel
abbrev rm_X5_shown : Room := { frames := 4, cells := 0, slots := 0, locals := 89 }
def f_X5_shown_J69 (S : St) (x2 : Int32) (x3 : Int32) (x4 : Int32) (x5 : Int32) (x6 : Int32) (x7 : Int32) (x8 : Int32) : Option ((Int32 × Int32 × Int32 × Int32 × Int32) ⊕ (Int32 × Int32 × Int32 × Int32)) :=
  if x8 ≤ (1 : Int32) then (some (.inl (x3, x4, x5, x6, (x7 + 1)))) else (some (.inl (x3, x4, x5, (x6 + 1), (x7 + 1))))
def f_X5_shown_L31 (S : St) (x2 : Int32) (z31 : Int32 × Int32 × Int32 × Int32 × Int32) : Option ((Int32 × Int32 × Int32 × Int32 × Int32) ⊕ (Int32 × Int32 × Int32 × Int32)) :=
  if (300 : Int32) ≤ z31.2.2.2.2 then (some (.inr (z31.1, z31.2.1, z31.2.2.1, z31.2.2.2.1))) else ((f_X5_at (ky 0 15) S z31.2.2.2.2).bind (fun (q5 : Int32) => if q5 ≤ 0 then (f_X5_shown_J69  S x2 z31.1 z31.2.1 z31.2.2.1 z31.2.2.2.1 z31.2.2.2.2 q5) else (f_X5_shown_J69  S x2 (i_min z31.1 z31.2.2.2.2) z31.2.2.2.2 (z31.2.2.1 + 1) z31.2.2.2.1 z31.2.2.2.2 q5)))
def f_X5_shown (S : St) (x1 : Int32) (x2 : Int32) : Option (Int32 × St) :=
  (f_X5_isMirror  S x1).bind (fun (q1 : Int32) => if q1 = 0 then (some ((-1 : Int32), S)) else ((f_X5_tallyShown  S x1).bind (fun (q3 : St) => (iter (f_X5_shown_L31  q3 x2) FU ((300 : Int32), (-1 : Int32), (0 : Int32), (0 : Int32), (0 : Int32))).bind (fun (u14 : Int32 × Int32 × Int32 × Int32) => (fun (e8 : Int32) (e9 : Int32) (e10 : Int32) (e11 : Int32) => if x2 = 0 then (some (e11, q3)) else (if e10 = 0 then (some ((0 : Int32), q3)) else (some ((((e9 - e8) + (1 : Int32)) - e10), q3)))) u14.1 u14.2.1 u14.2.2.1 u14.2.2.2))))
set_option maxRecDepth 100000 in
set_option maxHeartbeats 4000000 in
theorem k_X5_shown (l : Launch) (g : GG) (hg : gd wd_C g)  (hL : hAll g) (S : St) (x1 : Int32) (x2 : Int32) (q : Int32 × St) (hf : f_X5_shown  S x1 x2 = some q) : Met l yX5_shown (Cond.code yX5_shown cX5_shown 9 (some .int) :: gw_tbl) rm_X5_shown (va_Pc [.ref (gg_o g 0), .int x1, .int x2] (wI wd_C g S)) (qc_w wd_C g q) 0 0 (aw g) := by
  refine mt_start (own := RX5) hg (by decide) rfl (Nat.le_of_ble_eq_true rfl) (fun p e s m args below meth c ls H locs cx hw hr hlk hl => ?_)
  have hx := cx.1
  have hb := cx.2.1
  have hown := cx.2.2.2.1
  have hts := cx.2.2.2.2.1
  have hl : lv_has ls 9 [(0, .ref (gg_o g 0)), (1, .int x1), (2, .int x2)] := hl
  replace hf := h_top hf
  unfold f_X5_shown at hf
  refine lv_aload_n hx hb dX5_shown_0 rfl (lv_at hl 0 rfl) ?_
  refine lv_iload_n hx hb dX5_shown_1 rfl (lv_at hl 1 rfl) ?_
  refine r_V_i (As := [.int x1]) (rest := []) cx hw hf hL.1.2.1 (by rw [hL.1.1]; rfl) lk_X5_123 (fun q1 hq => k_X5_isMirror l g hg  hL S x1 q1 hq) ⟨⟨rfl, rfl⟩, Nat.le_of_ble_eq_true rfl, Nat.le_of_ble_eq_true rfl⟩ rfl hl.1 rfl (Nat.le_of_ble_eq_true rfl) dX5_shown_2 ⟨Nat.zero_le _, Nat.zero_le _⟩ (fun q1 H locs hw hf => ?_)
  refine lv_if_ne hx hb dX5_shown_5 (tgt := 10) rfl (fun hc2 => ?_) (fun hc2 => ?_)
  · replace hf := h_neg hc2 hf
    refine lv_aload_n hx hb dX5_shown_10 rfl (lv_at hl 0 rfl) ?_
    refine lv_iload_n hx hb dX5_shown_11 rfl (lv_at hl 1 rfl) ?_
    refine r_V_v (As := [.int x1]) (rest := []) cx hw hf hL.1.2.1 (by rw [hL.1.1]; rfl) lk_X5_209 (fun q3 hq => k_X5_tallyShown l g hg  hL S x1 q3 hq) ⟨⟨rfl, rfl⟩, Nat.le_of_ble_eq_true rfl, Nat.le_of_ble_eq_true rfl⟩ rfl hl.1 rfl (Nat.le_of_ble_eq_true rfl) dX5_shown_12 ⟨Nat.zero_le _, Nat.zero_le _⟩ (fun q3 H locs hw hf => ?_)
    refine lv_sipush (v := 300) hx hb dX5_shown_15 (by decide) ?_
    refine lv_istore_n hx hb dX5_shown_18 rfl hl (by decide) (lv' := [(3, .int (300 : Int32)), (0, .ref (gg_o g 0)), (1, .int x1), (2, .int x2)]) rfl (fun ls hl => ?_)
    refine lv_iconst (v := -1) hx hb dX5_shown_19 (by decide) ?_
    refine lv_istore hx hb dX5_shown_20 hl (by decide) (lv' := [(4, .int (-1 : Int32)), (3, .int (300 : Int32)), (0, .ref (gg_o g 0)), (1, .int x1), (2, .int x2)]) rfl (fun ls hl => ?_)
    refine lv_iconst (v := 0) hx hb dX5_shown_22 (by decide) ?_
    refine lv_istore hx hb dX5_shown_23 hl (by decide) (lv' := [(5, .int (0 : Int32)), (4, .int (-1 : Int32)), (3, .int (300 : Int32)), (0, .ref (gg_o g 0)), (1, .int x1), (2, .int x2)]) rfl (fun ls hl => ?_)
    refine lv_iconst (v := 0) hx hb dX5_shown_25 (by decide) ?_
    refine lv_istore hx hb dX5_shown_26 hl (by decide) (lv' := [(6, .int (0 : Int32)), (5, .int (0 : Int32)), (4, .int (-1 : Int32)), (3, .int (300 : Int32)), (0, .ref (gg_o g 0)), (1, .int x1), (2, .int x2)]) rfl (fun ls hl => ?_)
    refine lv_iconst (v := 0) hx hb dX5_shown_28 (by decide) ?_
    refine lv_istore hx hb dX5_shown_29 hl (by decide) (lv' := [(7, .int (0 : Int32)), (6, .int (0 : Int32)), (5, .int (0 : Int32)), (4, .int (-1 : Int32)), (3, .int (300 : Int32)), (0, .ref (gg_o g 0)), (1, .int x1), (2, .int x2)]) rfl (fun ls hl => ?_)
    have L31 : ∀ (S : St) (x2 : Int32) (aft31 : (Int32 × Int32 × Int32 × Int32) → Option (Int32 × St)), (∀ (ls : Array Slot) (H : Heap) (locs : List Loc) (e3 : Int32) (e4 : Int32) (e5 : Int32) (e6 : Int32), lv_has ls 9 [(2, .int x2), (3, .int e3), (4, .int e4), (5, .int e5), (6, .int e6)] → HH wd_C g s S H locs → aft31 (e3, e4, e5, e6) = some q → W p l e rm_X5_shown s m args below meth c H locs 0 0 (MQ below (qc_w wd_C g q) args s 0 0 (aw g)) (F0 m 84 ls [])) → ∀ (n31 : Nat) (ls : Array Slot) (H : Heap) (locs : List Loc) (z31 : Int32 × Int32 × Int32 × Int32 × Int32), lv_has ls 9 [(0, .ref (gg_o g 0)), (2, .int x2), (3, .int z31.1), (4, .int z31.2.1), (5, .int z31.2.2.1), (6, .int z31.2.2.2.1), (7, .int z31.2.2.2.2)] → HH wd_C g s S H locs → (iter (f_X5_shown_L31  S x2) n31 z31).bind aft31 = some q → W p l e rm_X5_shown s m args below meth c H locs 0 0 (MQ below (qc_w wd_C g q) args s 0 0 (aw g)) (F0 m 31 ls []) := by
      intro S x2 aft31 hX31 n31
      induction n31 with
      | zero => intro ls H locs z31 hl hw hf; exact h_iter0 hf
      | succ n31 ih31 =>
        intro ls H locs z31 hl hw hf
        replace hf := h_iter hf
        unfold f_X5_shown_L31 at hf
        have J69 : ∀ (ls : Array Slot) (H : Heap) (locs : List Loc) (x3 : Int32) (x4 : Int32) (x5 : Int32) (x6 : Int32) (x7 : Int32) (x8 : Int32), lv_has ls 9 [(0, .ref (gg_o g 0)), (2, .int x2), (3, .int x3), (4, .int x4), (5, .int x5), (6, .int x6), (7, .int x7), (8, .int x8)] → HH wd_C g s S H locs → (f_X5_shown_J69  S x2 x3 x4 x5 x6 x7 x8).bind (it_K (f_X5_shown_L31  S x2) n31 aft31) = some q → W p l e rm_X5_shown s m args below meth c H locs 0 0 (MQ below (qc_w wd_C g q) args s 0 0 (aw g)) (F0 m 69 ls []) := by
          intro ls H locs x3 x4 x5 x6 x7 x8 hl hw hf
          unfold f_X5_shown_J69 at hf
          refine lv_iload hx hb dX5_shown_69 (lv_at hl 7 rfl) ?_
          refine lv_iconst (v := 1) hx hb dX5_shown_71 (by decide) ?_
          refine lv_icmp_le hx hb dX5_shown_72 (tgt := 78) rfl (fun hc7 => ?_) (fun hc7 => ?_)
          · replace hf := h_pos hc7 hf
            refine lv_iinc hx hb dX5_shown_78 hl (k := 6) rfl (congrArg (HAdd.hAdd _) (show Int32.ofInt (1) = 1 by decide)) (by decide) (lv' := [(7, .int (x7 + 1)), (0, .ref (gg_o g 0)), (2, .int x2), (3, .int x3), (4, .int x4), (5, .int x5), (6, .int x6), (8, .int x8)]) rfl (fun ls hl => ?_)
            refine lv_goto hx hb dX5_shown_81 (tgt := 31) rfl ?_
            exact ih31 _ _ _ (x3, x4, x5, x6, (x7 + 1)) (lv_sub hl [1, 2, 3, 4, 5, 6, 0] rfl) hw hf
          replace hf := h_neg hc7 hf
          refine lv_iinc hx hb dX5_shown_75 hl (k := 5) rfl (congrArg (HAdd.hAdd _) (show Int32.ofInt (1) = 1 by decide)) (by decide) (lv' := [(6, .int (x6 + 1)), (0, .ref (gg_o g 0)), (2, .int x2), (3, .int x3), (4, .int x4), (5, .int x5), (7, .int x7), (8, .int x8)]) rfl (fun ls hl => ?_)
          refine lv_iinc hx hb dX5_shown_78 hl (k := 6) rfl (congrArg (HAdd.hAdd _) (show Int32.ofInt (1) = 1 by decide)) (by decide) (lv' := [(7, .int (x7 + 1)), (6, .int (x6 + 1)), (0, .ref (gg_o g 0)), (2, .int x2), (3, .int x3), (4, .int x4), (5, .int x5), (8, .int x8)]) rfl (fun ls hl => ?_)
          refine lv_goto hx hb dX5_shown_81 (tgt := 31) rfl ?_
          exact ih31 _ _ _ (x3, x4, x5, (x6 + 1), (x7 + 1)) (lv_sub hl [2, 3, 4, 5, 6, 1, 0] rfl) hw hf
        refine lv_iload hx hb dX5_shown_31 (lv_at hl 6 rfl) ?_
        refine lv_sipush (v := 300) hx hb dX5_shown_33 (by decide) ?_
        refine lv_icmp_ge hx hb dX5_shown_36 (tgt := 84) rfl (fun hc4 => ?_) (fun hc4 => ?_)
        · replace hf := h_pos hc4 hf
          exact hX31 _ _ _ z31.1 z31.2.1 z31.2.2.1 z31.2.2.2.1 (lv_sub hl [1, 2, 3, 4, 5] rfl) hw hf
        replace hf := h_neg hc4 hf
        refine lv_aload_n hx hb dX5_shown_39 rfl (lv_at hl 0 rfl) ?_
        refine gf_X5_66 cx hw hL.1 dX5_shown_40 ?_
        refine lv_iload hx hb dX5_shown_43 (lv_at hl 6 rfl) ?_
        refine r_S_i (As := [.ref (gg_a g (ky 0 15)), .int z31.2.2.2.2]) (rest := []) cx hw hf lk_X5_212 (fun q5 hq => k_X5_at l g hg (ky 0 15) (hL.1.2.2.1 15 rfl) S z31.2.2.2.2 q5 hq) ⟨⟨rfl, rfl⟩, Nat.le_of_ble_eq_true rfl, Nat.le_of_ble_eq_true rfl⟩ rfl hl.1 rfl (Nat.le_of_ble_eq_true rfl) dX5_shown_45 ⟨Nat.zero_le _, Nat.zero_le _⟩ (fun q5 H locs hw hf => ?_)
        refine lv_istore hx hb dX5_shown_48 hl (by decide) (lv' := [(8, .int q5), (0, .ref (gg_o g 0)), (2, .int x2), (3, .int z31.1), (4, .int z31.2.1), (5, .int z31.2.2.1), (6, .int z31.2.2.2.1), (7, .int z31.2.2.2.2)]) rfl (fun ls hl => ?_)
        refine lv_iload hx hb dX5_shown_50 (lv_at hl 0 rfl) ?_
        refine lv_if_le hx hb dX5_shown_52 (tgt := 69) rfl (fun hc6 => ?_) (fun hc6 => ?_)
        · replace hf := h_pos hc6 hf
          exact J69 _ _ _ z31.1 z31.2.1 z31.2.2.1 z31.2.2.2.1 z31.2.2.2.2 q5 (lv_sub hl [1, 2, 3, 4, 5, 6, 7, 0] rfl) hw hf
        replace hf := h_neg hc6 hf
        refine lv_iload_n hx hb dX5_shown_55 rfl (lv_at hl 3 rfl) ?_
        refine lv_iload hx hb dX5_shown_56 (lv_at hl 7 rfl) ?_
        refine va_mmin hx hb (cx.2.2.1.trans hl.1.symm) hown (hts _ wd_892) (hts _ wd_344) (hts _ wd_7) (hts _ wd_345) (Nat.le_of_ble_eq_true rfl) (Nat.le_of_ble_eq_true rfl) (Nat.zero_le _) (Nat.zero_le _) dX5_shown_58 ?_
        refine lv_istore_n hx hb dX5_shown_61 rfl hl (by decide) (lv' := [(3, .int (i_min z31.1 z31.2.2.2.2)), (8, .int q5), (0, .ref (gg_o g 0)), (2, .int x2), (4, .int z31.2.1), (5, .int z31.2.2.1), (6, .int z31.2.2.2.1), (7, .int z31.2.2.2.2)]) rfl (fun ls hl => ?_)
        refine lv_iload hx hb dX5_shown_62 (lv_at hl 7 rfl) ?_
        refine lv_istore hx hb dX5_shown_64 hl (by decide) (lv' := [(4, .int z31.2.2.2.2), (3, .int (i_min z31.1 z31.2.2.2.2)), (8, .int q5), (0, .ref (gg_o g 0)), (2, .int x2), (5, .int z31.2.2.1), (6, .int z31.2.2.2.1), (7, .int z31.2.2.2.2)]) rfl (fun ls hl => ?_)
        refine lv_iinc hx hb dX5_shown_66 hl (k := 5) rfl (congrArg (HAdd.hAdd _) (show Int32.ofInt (1) = 1 by decide)) (by decide) (lv' := [(5, .int (z31.2.2.1 + 1)), (4, .int z31.2.2.2.2), (3, .int (i_min z31.1 z31.2.2.2.2)), (8, .int q5), (0, .ref (gg_o g 0)), (2, .int x2), (6, .int z31.2.2.2.1), (7, .int z31.2.2.2.2)]) rfl (fun ls hl => ?_)
        exact J69 _ _ _ (i_min z31.1 z31.2.2.2.2) z31.2.2.2.2 (z31.2.2.1 + 1) z31.2.2.2.1 z31.2.2.2.2 q5 (lv_sub hl [4, 5, 2, 1, 0, 6, 7, 3] rfl) hw hf
    refine L31 q3 x2 _ (fun ls H locs e8 e9 e10 e11 hl hw hf => ?_) FU _ _ _ ((300 : Int32), (-1 : Int32), (0 : Int32), (0 : Int32), (0 : Int32)) (lv_sub hl [5, 7, 4, 3, 2, 1, 0] rfl) hw (h_assoc hf)
    try dsimp only at hf
    refine lv_iload_n hx hb dX5_shown_84 rfl (lv_at hl 0 rfl) ?_
    refine lv_if_ne hx hb dX5_shown_85 (tgt := 93) rfl (fun hc12 => ?_) (fun hc12 => ?_)
    · replace hf := h_neg hc12 hf
      refine lv_iload hx hb dX5_shown_93 (lv_at hl 3 rfl) ?_
      refine lv_if_ne hx hb dX5_shown_95 (tgt := 102) rfl (fun hc13 => ?_) (fun hc13 => ?_)
      · replace hf := h_neg hc13 hf
        refine lv_iload hx hb dX5_shown_102 (lv_at hl 2 rfl) ?_
        refine lv_iload_n hx hb dX5_shown_104 rfl (lv_at hl 1 rfl) ?_
        refine lv_isub hx hb dX5_shown_105 ?_
        refine lv_iconst (v := 1) hx hb dX5_shown_106 (by decide) ?_
        refine lv_iadd hx hb dX5_shown_107 ?_
        refine lv_iload hx hb dX5_shown_108 (lv_at hl 3 rfl) ?_
        refine lv_isub hx hb dX5_shown_110 ?_
        exact r_iretw cx hw hr hlk hf dX5_shown_111
      replace hf := h_pos hc13 hf
      refine lv_iconst (v := 0) hx hb dX5_shown_98 (by decide) ?_
      refine lv_goto hx hb dX5_shown_99 (tgt := 111) rfl ?_
      exact r_iretw cx hw hr hlk hf dX5_shown_111
    replace hf := h_pos hc12 hf
    refine lv_iload hx hb dX5_shown_88 (lv_at hl 4 rfl) ?_
    refine lv_goto hx hb dX5_shown_90 (tgt := 111) rfl ?_
    exact r_iretw cx hw hr hlk hf dX5_shown_111
  replace hf := h_pos hc2 hf
  refine lv_iconst (v := -1) hx hb dX5_shown_8 (by decide) ?_
  exact r_iretw cx hw hr hlk hf dX5_shown_9
